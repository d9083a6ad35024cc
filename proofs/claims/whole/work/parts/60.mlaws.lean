/-! the reference: clubs, laws -/
section Ml
variable (sta : mj_S) (d : Nat) (th tr wh : Int32) (q : Nat) (rd : Option Nat) (F : Nat → Int32) (wd : Int64) (ac im lw tk st : Int32) (sh ru : Int64) (rz aw al sd : Int32) (D : Nat → Nat) (hi er se : Int32) (MA : Nat → Nat → Nat) (V : Nat → Int32) (r sn : Nat → Nat) (g f : Nat → Option Nat) (a1 a2 a3 a4 : Nat → Nat)
theorem o3_le {D : Nat → Nat} {MA : Nat → Nat → Nat} {L : Nat} {sn C : Nat → Nat} (hn : D 1 ≤ 6) (hW : bd 1000 (MA 1)) (hA : bd 1000 (MA 3)) (m : Nat) : o3 D MA L sn C (fac (D 1)) m ≤ 720000 := Nat.le_trans (pto_le (D := D) (MA := MA) (L := L) (sn := sn) (C := C) (c := 1000) hn (φ := fun T g => los T g (MA 1) (MA 3) m) (fun T g => Nat.le_of_lt (los_lt hW hA m))) (by decide)
theorem ls_le {n cl : Nat} {x : Nat → Nat} (hn : n ≤ 6) (h : ∀ m, x m ≤ 720000) : fb_sm (fun m => if cl.testBit m then x m else 0) n ≤ 4320000 := by
  have := fb_sm_bound (f := fun m => if cl.testBit m then x m else 0) (c := 720000) (n := n) (fun m _ => by
    split
    · exact h m
    · omega)
  omega
theorem pop_pos : ∀ b, b < 64 → 0 < b → 0 < pop b := by decide +kernel
theorem s_Mclub (k L : Nat) (lo : Bool) (SN C : Nat → Nat) (hk0 : 1 ≤ k) (hk : k < 2 ^ D 1) (hV : vN V L SN C) (hG : okG D MA SN C L) : mj_Sx sta (d + 6) 231 [.ref 151, (.int (nI k)), .int (bl lo)] (wo (wg (mo th tr wh (some q) rd F wd ac im lw tk st sh ru rz aw al sd) q D hi er se (MA 1) (MA 3) (MA 4) V r sn g f) a1 a2 a3 a4) (fun v w => v = some (.long (lN (pfr (fb_sm (fun m => if (k).testBit m then o3 D MA L SN C (fac (D 1)) m else 0) (D 1)) (fac (D 1) * pop k) lo))) ∧ ∃ lw tk st sh ru r sn g f a1 a2 a3 a4, w = wo (wg (mo 0 0 (-1) (some q) rd F wd ac im lw tk st sh ru rz aw al sd) q D hi er se (MA 1) (MA 3) (MA 4) V r sn g f) a1 a2 a3 a4) := by
  refine mj_Sx.mk m_X10_club (by decide) n_X10_club rfl (fun h0 hv => ?_)
  generalize hT : mj_rx m_X10_club h0 _ _ = T
  have hG2 := hG
  obtain ⟨hn, h1, ht, hL, hW, hA, hK, hsn, hC⟩ := hG2
  have hfp := fac_pos (D 1)
  have hfl := fac_720 (D 1) hn
  repeat (first | refine g_px rfl rfl rfl ?_)
  refine g_put hv 0 rfl rfl rfl rfl rfl rfl (fun h hv => ?_)
  have hv : mj_Vw h0 (wo (wg (mo 0 tr wh (some q) rd F wd ac im lw tk st sh ru rz aw al sd) q D hi er se (MA 1) (MA 3) (MA 4) V r sn g f) a1 a2 a3 a4) h := hv
  have hp6 := p6 hn
  repeat (first | refine g_px rfl rfl rfl ?_)
  refine g_callV hv [0, 1] 0 rfl rfl rfl rfl rfl rfl rfl rfl (by decide) (s_MisClub sta (d + 3) 0 tr wh q rd F wd ac im lw tk st sh ru rz aw al sd D hi er se (nI k) 1 (by decide) hn) (fun v w' h hp hk2 hv => ?_)
  obtain ⟨rfl, rfl⟩ := hp
  rw [inR_k hk (by omega), decide_eq_true (nI_le hk0 (by omega))]
  refine g_if rfl (fun cq => ?_) (fun cq => absurd (show ¬ bl true = 0 by decide) cq)
  have hv : mj_Vw h0 (wo (wg (mo 0 tr wh (some q) rd F wd ac im lw tk st sh ru rz aw al sd) q D hi er se (MA 1) (MA 3) (MA 4) V r sn g f) a1 a2 a3 a4) h := hv
  repeat (first | refine g_px rfl rfl rfl ?_)
  refine g_callV hv [0, 1, 2, 3, 4, 5, 6, 7, 8, 9, 10, 11, 12, 13] 0 rfl rfl rfl rfl rfl rfl rfl rfl (by decide) (s_ModdsNow sta d 0 tr wh q rd F wd ac im lw tk st sh ru rz aw al sd D hi er se MA V r sn g f a1 a2 a3 a4 L SN C hV hG) (fun v w' h hp hk2 hv => ?_)
  obtain ⟨rfl, tk', st', r', g', f', rfl⟩ := hp
  have hv : mj_Vw h0 (wo (wg (mo 0 tr wh (some q) rd F wd ac im (nI L) tk' st' (lN (o5 D MA L SN C (fac (D 1)))) (lN (o6 D MA L SN C 0 0 (fac (D 1)))) rz aw al sd) q D hi er se (MA 1) (MA 3) (MA 4) V r' SN g' f') (z6 (D 1) (o1 D MA L SN C (fac (D 1)))) (z6 (D 1) (o2 D MA L SN C (fac (D 1)))) (z6 (D 1) (o3 D MA L SN C (fac (D 1)))) (z36 (D 1) (o4 D MA L SN C (fac (D 1))))) h := hv
  have hbd := ls_le (n := D 1) (cl := k) (x := o3 D MA L SN C (fac (D 1))) hn (o3_le hn hW hA)
  have hpp := pop_pos k (by omega) hk0
  have hpl := pop_lt k
  repeat (first | refine g_px rfl rfl rfl ?_)
  refine g_callV hv [0, 1, 12] 0 rfl rfl rfl rfl rfl rfl rfl rfl (by decide) (s_MlossesOf sta (d + 3) 0 tr wh q rd F wd ac im (nI L) tk' st' (lN (o5 D MA L SN C (fac (D 1)))) (lN (o6 D MA L SN C 0 0 (fac (D 1)))) rz aw al sd D hi er se k (o3 D MA L SN C (fac (D 1))) (by omega) hn) (fun v w' h hp hk2 hv => ?_)
  obtain ⟨rfl, rfl⟩ := hp
  have hv : mj_Vw h0 (wo (wg (mo 0 tr wh (some q) rd F wd ac im (nI L) tk' st' (lN (o5 D MA L SN C (fac (D 1)))) (lN (o6 D MA L SN C 0 0 (fac (D 1)))) rz aw al sd) q D hi er se (MA 1) (MA 3) (MA 4) V r' SN g' f') (z6 (D 1) (o1 D MA L SN C (fac (D 1)))) (z6 (D 1) (o2 D MA L SN C (fac (D 1)))) (z6 (D 1) (o3 D MA L SN C (fac (D 1)))) (z36 (D 1) (o4 D MA L SN C (fac (D 1))))) h := hv
  repeat (first | refine g_px rfl rfl rfl ?_)
  refine g_callV hv [0, 1] 0 rfl rfl rfl rfl rfl rfl rfl rfl (by decide) (s_MallRows sta (d + 4) 0 tr wh q rd F wd ac im (nI L) tk' st' (lN (o5 D MA L SN C (fac (D 1)))) (lN (o6 D MA L SN C 0 0 (fac (D 1)))) rz aw al sd D hi er se ⟨h1, hn⟩) (fun v w' h hp hk2 hv => ?_)
  obtain ⟨rfl, rfl⟩ := hp
  have hv : mj_Vw h0 (wo (wg (mo 0 tr wh (some q) rd F wd ac im (nI L) tk' st' (lN (o5 D MA L SN C (fac (D 1)))) (lN (o6 D MA L SN C 0 0 (fac (D 1)))) rz aw al sd) q D hi er se (MA 1) (MA 3) (MA 4) V r' SN g' f') (z6 (D 1) (o1 D MA L SN C (fac (D 1)))) (z6 (D 1) (o2 D MA L SN C (fac (D 1)))) (z6 (D 1) (o3 D MA L SN C (fac (D 1)))) (z36 (D 1) (o4 D MA L SN C (fac (D 1))))) h := hv
  refine g_run 2 rfl ?_
  refine g_callS hv [] rfl rfl rfl rfl rfl rfl rfl (by decide) (s_Mbits sta (d + 4) k (by omega)) (fun v w' h hp hk2 hv => ?_)
  obtain ⟨rfl, rfl⟩ := hp
  have hv : mj_Vw h0 (wo (wg (mo 0 tr wh (some q) rd F wd ac im (nI L) tk' st' (lN (o5 D MA L SN C (fac (D 1)))) (lN (o6 D MA L SN C 0 0 (fac (D 1)))) rz aw al sd) q D hi er se (MA 1) (MA 3) (MA 4) V r' SN g' f') (z6 (D 1) (o1 D MA L SN C (fac (D 1)))) (z6 (D 1) (o2 D MA L SN C (fac (D 1)))) (z6 (D 1) (o3 D MA L SN C (fac (D 1)))) (z36 (D 1) (o4 D MA L SN C (fac (D 1))))) h := hv
  refine g_run 3 rfl ?_
  rw [nI_l (by omega), nI_l (by omega), lN_mul]
  have hmul : fac (D 1) * pop k ≤ 720 * 6 := Nat.mul_le_mul hfl hpl
  refine g_callV hv [0] 0 rfl rfl rfl rfl rfl rfl rfl rfl (by decide) (s_Mfraction sta (d + 3) 0 tr wh (some q) rd F wd ac im (nI L) tk' st' (lN (o5 D MA L SN C (fac (D 1)))) (lN (o6 D MA L SN C 0 0 (fac (D 1)))) rz aw al sd (fb_sm (fun m => if (k).testBit m then o3 D MA L SN C (fac (D 1)) m else 0) (D 1)) (fac (D 1) * pop k) lo (by omega) (Nat.mul_pos hfp hpp) (by omega)) (fun v w' h hp hk2 hv => ?_)
  obtain ⟨rfl, rfl⟩ := hp
  subst hT
  exact g_lret hv rfl rfl rfl ⟨rfl, _, _, _, _, _, _, _, _, _, _, _, _, _, rfl⟩
theorem s_Mruin (k y L : Nat) (lo : Bool) (SN C : Nat → Nat) (hk0 : 1 ≤ k) (hk : k < 2 ^ D 1) (hy : y < 1000) (hV : vN V L SN C) (hG : okG D MA SN C L) : mj_Sx sta (d + 6) 232 [.ref 151, (.int (nI k)), (.int (nI y)), .int (bl lo)] (wo (wg (mo th tr wh (some q) rd F wd ac im lw tk st sh ru rz aw al sd) q D hi er se (MA 1) (MA 3) (MA 4) V r sn g f) a1 a2 a3 a4) (fun v w => v = some (.long (lN (pfr (o6 D MA L SN C k y (fac (D 1))) (fac (D 1)) lo))) ∧ ∃ lw tk st sh ru r sn g f a1 a2 a3 a4, w = wo (wg (mo 0 0 (-1) (some q) rd F wd ac im lw tk st sh ru rz aw al sd) q D hi er se (MA 1) (MA 3) (MA 4) V r sn g f) a1 a2 a3 a4) := by
  refine mj_Sx.mk m_X10_ruin (by decide) n_X10_ruin rfl (fun h0 hv => ?_)
  generalize hT : mj_rx m_X10_ruin h0 _ _ = T
  have hG2 := hG
  obtain ⟨hn, h1, ht, hL, hW, hA, hK, hsn, hC⟩ := hG2
  have hfp := fac_pos (D 1)
  have hfl := fac_720 (D 1) hn
  repeat (first | refine g_px rfl rfl rfl ?_)
  refine g_put hv 0 rfl rfl rfl rfl rfl rfl (fun h hv => ?_)
  have hv : mj_Vw h0 (wo (wg (mo 0 tr wh (some q) rd F wd ac im lw tk st sh ru rz aw al sd) q D hi er se (MA 1) (MA 3) (MA 4) V r sn g f) a1 a2 a3 a4) h := hv
  have hp6 := p6 hn
  repeat (first | refine g_px rfl rfl rfl ?_)
  refine g_callV hv [0, 1] 0 rfl rfl rfl rfl rfl rfl rfl rfl (by decide) (s_MisClub sta (d + 3) 0 tr wh q rd F wd ac im lw tk st sh ru rz aw al sd D hi er se (nI k) 1 (by decide) hn) (fun v w' h hp hk2 hv => ?_)
  obtain ⟨rfl, rfl⟩ := hp
  rw [inR_k hk (by omega), decide_eq_true (nI_le hk0 (by omega))]
  refine g_if rfl (fun cq => ?_) (fun cq => absurd (show ¬ bl true = 0 by decide) cq)
  have hv : mj_Vw h0 (wo (wg (mo 0 tr wh (some q) rd F wd ac im lw tk st sh ru rz aw al sd) q D hi er se (MA 1) (MA 3) (MA 4) V r sn g f) a1 a2 a3 a4) h := hv
  repeat (first | refine g_px rfl rfl rfl ?_)
  refine g_callS hv [] rfl rfl rfl rfl rfl rfl rfl (by decide) (s_Min sta (d + 4) (nI y) _ _) (fun v w' h hp hk2 hv => ?_)
  obtain ⟨rfl, rfl⟩ := hp
  rw [show (decide (Int32.ofInt 0 ≤ nI y) && decide (nI y ≤ (Int16.ofInt 999).toInt32)) = inR 1000 (nI y) from in_R 999 (by decide) (nI y), inR_k hy (by decide)]
  refine g_if rfl (fun cq => ?_) (fun cq => absurd (show ¬ bl true = 0 by decide) cq)
  have hv : mj_Vw h0 (wo (wg (mo 0 tr wh (some q) rd F wd ac im lw tk st sh ru rz aw al sd) q D hi er se (MA 1) (MA 3) (MA 4) V r sn g f) a1 a2 a3 a4) h := hv
  repeat (first | refine g_px rfl rfl rfl ?_)
  refine g_callV hv [0, 5, 7] 0 rfl rfl rfl rfl rfl rfl rfl rfl (by decide) (s_MasNow sta (d + 4) 0 tr wh q rd F wd ac im lw tk st sh ru rz aw al sd V L SN sn hV.1 hV.2.1) (fun v w' h hp hk2 hv => ?_)
  obtain ⟨rfl, rfl⟩ := hp
  have hv : mj_Vw h0 (wo (wg (mo 0 tr wh (some q) rd F wd ac im (nI L) tk st sh ru rz aw al sd) q D hi er se (MA 1) (MA 3) (MA 4) V r SN g f) a1 a2 a3 a4) h := hv
  repeat (first | refine g_px rfl rfl rfl ?_)
  refine g_callV hv [0, 1, 2, 3, 4, 5, 6, 7, 8, 9, 10, 11, 12, 13] 0 rfl rfl rfl rfl rfl rfl rfl rfl (by decide) (s_Modds sta (d + 1) 0 tr wh q rd F wd ac im tk st sh ru rz aw al sd D hi er se MA V r SN g f L k y C a1 a2 a3 a4 hV.2.2 hG (by omega) hy) (fun v w' h hp hk2 hv => ?_)
  obtain ⟨rfl, tk', st', r', g', f', rfl⟩ := hp
  have hv : mj_Vw h0 (wo (wg (mo 0 tr wh (some q) rd F wd ac im (nI L) tk' st' (lN (o5 D MA L SN C (fac (D 1)))) (lN (o6 D MA L SN C k y (fac (D 1)))) rz aw al sd) q D hi er se (MA 1) (MA 3) (MA 4) V r' SN g' f') (z6 (D 1) (o1 D MA L SN C (fac (D 1)))) (z6 (D 1) (o2 D MA L SN C (fac (D 1)))) (z6 (D 1) (o3 D MA L SN C (fac (D 1)))) (z36 (D 1) (o4 D MA L SN C (fac (D 1))))) h := hv
  repeat (first | refine g_px rfl rfl rfl ?_ | refine g_get hv 0 rfl rfl rfl rfl ?_)
  have hbd : o6 D MA L SN C k y (fac (D 1)) ≤ 720 := Nat.le_trans (pto_le (D := D) (MA := MA) (L := L) (sn := SN) (C := C) (c := 1) hn (φ := fun T g => if decide (y < fb_sm (lsc k T g (MA 1) (MA 3)) (D 1)) then 1 else 0) (fun T g => by split <;> omega)) (by decide)
  refine g_callV hv [0, 1] 0 rfl rfl rfl rfl rfl rfl rfl rfl (by decide) (s_MallRows sta (d + 4) 0 tr wh q rd F wd ac im (nI L) tk' st' (lN (o5 D MA L SN C (fac (D 1)))) (lN (o6 D MA L SN C k y (fac (D 1)))) rz aw al sd D hi er se ⟨h1, hn⟩) (fun v w' h hp hk2 hv => ?_)
  obtain ⟨rfl, rfl⟩ := hp
  refine g_run 2 rfl ?_
  rw [nI_l (by omega)]
  refine g_callV hv [0] 0 rfl rfl rfl rfl rfl rfl rfl rfl (by decide) (s_Mfraction sta (d + 3) 0 tr wh (some q) rd F wd ac im (nI L) tk' st' (lN (o5 D MA L SN C (fac (D 1)))) (lN (o6 D MA L SN C k y (fac (D 1)))) rz aw al sd (o6 D MA L SN C k y (fac (D 1))) (fac (D 1)) lo (by omega) hfp (by omega)) (fun v w' h hp hk2 hv => ?_)
  obtain ⟨rfl, rfl⟩ := hp
  subst hT
  exact g_lret hv rfl rfl rfl ⟨rfl, _, _, _, _, _, _, _, _, _, _, _, _, _, rfl⟩
theorem s_MifMarried (k L : Nat) (lo : Bool) (SN C : Nat → Nat) (hk : k < D 1) (hV : vN V L SN C) (hG : okG D MA SN C L) : mj_Sx sta (d + 6) 235 [.ref 151, (.int (nI k)), .int (bl lo)] (wo (wg (mo th tr wh (some q) rd F wd ac im lw tk st sh ru rz aw al sd) q D hi er se (MA 1) (MA 3) (MA 4) V r sn g f) a1 a2 a3 a4) (fun v w => v = some (.long (lN (pfr (o3 D MA L (va_up SN k 1) C (fac (D 1)) k) (fac (D 1)) lo))) ∧ ∃ lw tk st sh ru r sn g f a1 a2 a3 a4, w = wo (wg (mo 0 0 (-1) (some q) rd F wd ac im lw tk st sh ru rz aw al sd) q D hi er se (MA 1) (MA 3) (MA 4) V r sn g f) a1 a2 a3 a4) := by
  refine mj_Sx.mk m_X10_ifMarried (by decide) n_X10_ifMarried rfl (fun h0 hv => ?_)
  generalize hT : mj_rx m_X10_ifMarried h0 _ _ = T
  have hG2 := hG
  obtain ⟨hn, h1, ht, hL, hW, hA, hK, hsn, hC⟩ := hG2
  have hfp := fac_pos (D 1)
  have hfl := fac_720 (D 1) hn
  repeat (first | refine g_px rfl rfl rfl ?_)
  refine g_put hv 0 rfl rfl rfl rfl rfl rfl (fun h hv => ?_)
  have hv : mj_Vw h0 (wo (wg (mo 0 tr wh (some q) rd F wd ac im lw tk st sh ru rz aw al sd) q D hi er se (MA 1) (MA 3) (MA 4) V r sn g f) a1 a2 a3 a4) h := hv
  repeat (first | refine g_px rfl rfl rfl ?_)
  refine g_callV hv [0, 1] 0 rfl rfl rfl rfl rfl rfl rfl rfl (by decide) (s_MisMan sta (d + 4) 0 tr wh q rd F wd ac im lw tk st sh ru rz aw al sd D hi er se (nI k) hn) (fun v w' h hp hk2 hv => ?_)
  obtain ⟨rfl, rfl⟩ := hp
  rw [inR_k hk (by omega)]
  refine g_if rfl (fun cq => ?_) (fun cq => absurd (show ¬ bl true = 0 by decide) cq)
  have hv : mj_Vw h0 (wo (wg (mo 0 tr wh (some q) rd F wd ac im lw tk st sh ru rz aw al sd) q D hi er se (MA 1) (MA 3) (MA 4) V r sn g f) a1 a2 a3 a4) h := hv
  repeat (first | refine g_px rfl rfl rfl ?_)
  refine g_callV hv [0, 5, 7] 0 rfl rfl rfl rfl rfl rfl rfl rfl (by decide) (s_MasNow sta (d + 4) 0 tr wh q rd F wd ac im lw tk st sh ru rz aw al sd V L SN sn hV.1 hV.2.1) (fun v w' h hp hk2 hv => ?_)
  obtain ⟨rfl, rfl⟩ := hp
  have hv : mj_Vw h0 (wo (wg (mo 0 tr wh (some q) rd F wd ac im (nI L) tk st sh ru rz aw al sd) q D hi er se (MA 1) (MA 3) (MA 4) V r SN g f) a1 a2 a3 a4) h := hv
  repeat (first | refine g_px rfl rfl rfl ?_ | refine g_get hv 0 rfl rfl rfl rfl ?_)
  refine g_nst (y := 1) hv 7 (k := k) (by omega) rfl rfl (fun h hv => ?_)
  have hv : mj_Vw h0 (wo (wg (mo 0 tr wh (some q) rd F wd ac im (nI L) tk st sh ru rz aw al sd) q D hi er se (MA 1) (MA 3) (MA 4) V r (va_up SN k 1) g f) a1 a2 a3 a4) h := hv
  have hG3 : okG D MA (va_up SN k 1) C L := ⟨hn, h1, ht, hL, hW, hA, hK, up_bd hsn (by decide), hC⟩
  repeat (first | refine g_px rfl rfl rfl ?_)
  refine g_callV hv [0, 1, 2, 3, 4, 5, 6, 7, 8, 9, 10, 11, 12, 13] 0 rfl rfl rfl rfl rfl rfl rfl rfl (by decide) (s_Modds sta (d + 1) 0 tr wh q rd F wd ac im tk st sh ru rz aw al sd D hi er se MA V r (va_up SN k 1) g f L 0 0 C a1 a2 a3 a4 hV.2.2 hG3 (by decide) (by decide)) (fun v w' h hp hk2 hv => ?_)
  obtain ⟨rfl, tk', st', r', g', f', rfl⟩ := hp
  have hv : mj_Vw h0 (wo (wg (mo 0 tr wh (some q) rd F wd ac im (nI L) tk' st' (lN (o5 D MA L (va_up SN k 1) C (fac (D 1)))) (lN (o6 D MA L (va_up SN k 1) C 0 0 (fac (D 1)))) rz aw al sd) q D hi er se (MA 1) (MA 3) (MA 4) V r' (va_up SN k 1) g' f') (z6 (D 1) (o1 D MA L (va_up SN k 1) C (fac (D 1)))) (z6 (D 1) (o2 D MA L (va_up SN k 1) C (fac (D 1)))) (z6 (D 1) (o3 D MA L (va_up SN k 1) C (fac (D 1)))) (z36 (D 1) (o4 D MA L (va_up SN k 1) C (fac (D 1))))) h := hv
  repeat (first | refine g_px rfl rfl rfl ?_ | refine g_get hv 0 rfl rfl rfl rfl ?_)
  refine g_lL (L := 6) hv 12 (k := k) (by omega) (by decide) rfl rfl ?_
  rw [show z6 (D 1) (o3 D MA L (va_up SN k 1) C (fac (D 1))) k = o3 D MA L (va_up SN k 1) C (fac (D 1)) k from if_pos hk]
  have hbd := o3_le (D := D) (MA := MA) (L := L) (sn := (va_up SN k 1)) (C := C) hn hW hA k
  repeat (first | refine g_px rfl rfl rfl ?_)
  refine g_callV hv [0, 1] 0 rfl rfl rfl rfl rfl rfl rfl rfl (by decide) (s_MallRows sta (d + 4) 0 tr wh q rd F wd ac im (nI L) tk' st' (lN (o5 D MA L (va_up SN k 1) C (fac (D 1)))) (lN (o6 D MA L (va_up SN k 1) C 0 0 (fac (D 1)))) rz aw al sd D hi er se ⟨h1, hn⟩) (fun v w' h hp hk2 hv => ?_)
  obtain ⟨rfl, rfl⟩ := hp
  refine g_run 2 rfl ?_
  rw [nI_l (by omega)]
  refine g_callV hv [0] 0 rfl rfl rfl rfl rfl rfl rfl rfl (by decide) (s_Mfraction sta (d + 3) 0 tr wh (some q) rd F wd ac im (nI L) tk' st' (lN (o5 D MA L (va_up SN k 1) C (fac (D 1)))) (lN (o6 D MA L (va_up SN k 1) C 0 0 (fac (D 1)))) rz aw al sd (o3 D MA L (va_up SN k 1) C (fac (D 1)) k) (fac (D 1)) lo (by omega) hfp (by omega)) (fun v w' h hp hk2 hv => ?_)
  obtain ⟨rfl, rfl⟩ := hp
  subst hT
  exact g_lret hv rfl rfl rfl ⟨rfl, _, _, _, _, _, _, _, _, _, _, _, _, _, rfl⟩
theorem s_Mharm (l L : Nat) (lo : Bool) (SN C : Nat → Nat) (hl : l < 16) (hV : vN V L SN C) (hG : okG D MA SN C L) : mj_Sx sta (d + 6) 238 [.ref 151, (.int (nI l)), .int (bl lo)] (wo (wg (mo th tr wh (some q) rd F wd ac im lw tk st sh ru rz aw al sd) q D hi er se (MA 1) (MA 3) (MA 4) V r sn g f) a1 a2 a3 a4) (fun v w => v = some (.long (lN (pfr (fb_sm (fun m => if (2 ^ D 1 - 1).testBit m then o3 D MA l SN C (fac (D 1)) m else 0) (D 1)) (fac (D 1)) lo))) ∧ ∃ lw tk st sh ru r sn g f a1 a2 a3 a4, w = wo (wg (mo 0 0 (-1) (some q) rd F wd ac im lw tk st sh ru rz aw al sd) q D hi er se (MA 1) (MA 3) (MA 4) V r sn g f) a1 a2 a3 a4) := by
  refine mj_Sx.mk m_X10_harm (by decide) n_X10_harm rfl (fun h0 hv => ?_)
  generalize hT : mj_rx m_X10_harm h0 _ _ = T
  have hG2 := hG
  obtain ⟨hn, h1, ht, hL, hW, hA, hK, hsn, hC⟩ := hG2
  have hfp := fac_pos (D 1)
  have hfl := fac_720 (D 1) hn
  repeat (first | refine g_px rfl rfl rfl ?_)
  refine g_put hv 0 rfl rfl rfl rfl rfl rfl (fun h hv => ?_)
  have hv : mj_Vw h0 (wo (wg (mo 0 tr wh (some q) rd F wd ac im lw tk st sh ru rz aw al sd) q D hi er se (MA 1) (MA 3) (MA 4) V r sn g f) a1 a2 a3 a4) h := hv
  have hGl : okG D MA SN C l := ⟨hn, h1, ht, hl, hW, hA, hK, hsn, hC⟩
  repeat (first | refine g_px rfl rfl rfl ?_)
  refine g_callV hv [0] 0 rfl rfl rfl rfl rfl rfl rfl rfl (by decide) (s_MrefusesLaw sta (d + 3) 0 tr wh q rd F wd ac im lw tk st sh ru rz aw al sd (nI l)) (fun v w' h hp hk2 hv => ?_)
  obtain ⟨rfl, rfl⟩ := hp
  rw [inR_k hl (by decide)]
  have hv : mj_Vw h0 (wo (wg (mo 0 tr wh (some q) rd F wd ac im lw tk st sh ru rz aw al sd) q D hi er se (MA 1) (MA 3) (MA 4) V r sn g f) a1 a2 a3 a4) h := hv
  repeat (first | refine g_px rfl rfl rfl ?_)
  refine g_if rfl (fun cq => ?_) (fun cq => absurd (cpT (by decide)) cq)
  repeat (first | refine g_px rfl rfl rfl ?_)
  refine g_callV hv [0, 1, 2, 3, 4, 5, 6, 7, 8, 9, 10, 11, 12, 13] 0 rfl rfl rfl rfl rfl rfl rfl rfl (by decide) (s_MbyLaw sta d 0 tr wh q rd F wd ac im lw tk st sh ru rz aw al sd D hi er se MA V r sn g f a1 a2 a3 a4 L l SN C hV hGl) (fun v w' h hp hk2 hv => ?_)
  obtain ⟨rfl, tk', st', r', g', f', rfl⟩ := hp
  have hv : mj_Vw h0 (wo (wg (mo 0 tr wh (some q) rd F wd ac im (nI l) tk' st' (lN (o5 D MA l SN C (fac (D 1)))) (lN (o6 D MA l SN C 0 0 (fac (D 1)))) rz aw al sd) q D hi er se (MA 1) (MA 3) (MA 4) V r' SN g' f') (z6 (D 1) (o1 D MA l SN C (fac (D 1)))) (z6 (D 1) (o2 D MA l SN C (fac (D 1)))) (z6 (D 1) (o3 D MA l SN C (fac (D 1)))) (z36 (D 1) (o4 D MA l SN C (fac (D 1))))) h := hv
  have hp6 := p6 hn
  have hbd := ls_le (n := D 1) (cl := 2 ^ D 1 - 1) (x := o3 D MA l SN C (fac (D 1))) hn (o3_le hn hW hA)
  repeat (first | refine g_px rfl rfl rfl ?_)
  refine g_callV hv [0, 1] 0 rfl rfl rfl rfl rfl rfl rfl rfl (by decide) (s_Meverybody sta (d + 4) 0 tr wh q rd F wd ac im (nI l) tk' st' (lN (o5 D MA l SN C (fac (D 1)))) (lN (o6 D MA l SN C 0 0 (fac (D 1)))) rz aw al sd D hi er se hn) (fun v w' h hp hk2 hv => ?_)
  obtain ⟨rfl, rfl⟩ := hp
  have hv : mj_Vw h0 (wo (wg (mo 0 tr wh (some q) rd F wd ac im (nI l) tk' st' (lN (o5 D MA l SN C (fac (D 1)))) (lN (o6 D MA l SN C 0 0 (fac (D 1)))) rz aw al sd) q D hi er se (MA 1) (MA 3) (MA 4) V r' SN g' f') (z6 (D 1) (o1 D MA l SN C (fac (D 1)))) (z6 (D 1) (o2 D MA l SN C (fac (D 1)))) (z6 (D 1) (o3 D MA l SN C (fac (D 1)))) (z36 (D 1) (o4 D MA l SN C (fac (D 1))))) h := hv
  refine g_callV hv [0, 1, 12] 0 rfl rfl rfl rfl rfl rfl rfl rfl (by decide) (s_MlossesOf sta (d + 3) 0 tr wh q rd F wd ac im (nI l) tk' st' (lN (o5 D MA l SN C (fac (D 1)))) (lN (o6 D MA l SN C 0 0 (fac (D 1)))) rz aw al sd D hi er se (2 ^ D 1 - 1) (o3 D MA l SN C (fac (D 1))) (by omega) hn) (fun v w' h hp hk2 hv => ?_)
  obtain ⟨rfl, rfl⟩ := hp
  have hv : mj_Vw h0 (wo (wg (mo 0 tr wh (some q) rd F wd ac im (nI l) tk' st' (lN (o5 D MA l SN C (fac (D 1)))) (lN (o6 D MA l SN C 0 0 (fac (D 1)))) rz aw al sd) q D hi er se (MA 1) (MA 3) (MA 4) V r' SN g' f') (z6 (D 1) (o1 D MA l SN C (fac (D 1)))) (z6 (D 1) (o2 D MA l SN C (fac (D 1)))) (z6 (D 1) (o3 D MA l SN C (fac (D 1)))) (z36 (D 1) (o4 D MA l SN C (fac (D 1))))) h := hv
  repeat (first | refine g_px rfl rfl rfl ?_)
  refine g_callV hv [0, 1] 0 rfl rfl rfl rfl rfl rfl rfl rfl (by decide) (s_MallRows sta (d + 4) 0 tr wh q rd F wd ac im (nI l) tk' st' (lN (o5 D MA l SN C (fac (D 1)))) (lN (o6 D MA l SN C 0 0 (fac (D 1)))) rz aw al sd D hi er se ⟨h1, hn⟩) (fun v w' h hp hk2 hv => ?_)
  obtain ⟨rfl, rfl⟩ := hp
  refine g_run 2 rfl ?_
  rw [nI_l (by omega)]
  refine g_callV hv [0] 0 rfl rfl rfl rfl rfl rfl rfl rfl (by decide) (s_Mfraction sta (d + 3) 0 tr wh (some q) rd F wd ac im (nI l) tk' st' (lN (o5 D MA l SN C (fac (D 1)))) (lN (o6 D MA l SN C 0 0 (fac (D 1)))) rz aw al sd (fb_sm (fun m => if (2 ^ D 1 - 1).testBit m then o3 D MA l SN C (fac (D 1)) m else 0) (D 1)) (fac (D 1)) lo (by omega) hfp (by omega)) (fun v w' h hp hk2 hv => ?_)
  obtain ⟨rfl, rfl⟩ := hp
  subst hT
  exact g_lret hv rfl rfl rfl ⟨rfl, _, _, _, _, _, _, _, _, _, _, _, _, _, rfl⟩
theorem s_Mfills (l L : Nat) (SN C : Nat → Nat) (hl : l < 16) (hV : vN V L SN C) (hG : okG D MA SN C L) : mj_Sx sta (d + 6) 239 [.ref 151, (.int (nI l))] (wo (wg (mo th tr wh (some q) rd F wd ac im lw tk st sh ru rz aw al sd) q D hi er se (MA 1) (MA 3) (MA 4) V r sn g f) a1 a2 a3 a4) (fun v w => v = some (.int (bl (decide (o5 D MA l SN C (fac (D 1)) = 0)))) ∧ ∃ lw tk st sh ru r sn g f a1 a2 a3 a4, w = wo (wg (mo 0 0 (-1) (some q) rd F wd ac im lw tk st sh ru rz aw al sd) q D hi er se (MA 1) (MA 3) (MA 4) V r sn g f) a1 a2 a3 a4) := by
  refine mj_Sx.mk m_X10_fills (by decide) n_X10_fills rfl (fun h0 hv => ?_)
  generalize hT : mj_rx m_X10_fills h0 _ _ = T
  have hG2 := hG
  obtain ⟨hn, h1, ht, hL, hW, hA, hK, hsn, hC⟩ := hG2
  have hfp := fac_pos (D 1)
  have hfl := fac_720 (D 1) hn
  repeat (first | refine g_px rfl rfl rfl ?_)
  refine g_put hv 0 rfl rfl rfl rfl rfl rfl (fun h hv => ?_)
  have hv : mj_Vw h0 (wo (wg (mo 0 tr wh (some q) rd F wd ac im lw tk st sh ru rz aw al sd) q D hi er se (MA 1) (MA 3) (MA 4) V r sn g f) a1 a2 a3 a4) h := hv
  have hGl : okG D MA SN C l := ⟨hn, h1, ht, hl, hW, hA, hK, hsn, hC⟩
  repeat (first | refine g_px rfl rfl rfl ?_)
  refine g_callV hv [0] 0 rfl rfl rfl rfl rfl rfl rfl rfl (by decide) (s_MrefusesLaw sta (d + 3) 0 tr wh q rd F wd ac im lw tk st sh ru rz aw al sd (nI l)) (fun v w' h hp hk2 hv => ?_)
  obtain ⟨rfl, rfl⟩ := hp
  rw [inR_k hl (by decide)]
  have hv : mj_Vw h0 (wo (wg (mo 0 tr wh (some q) rd F wd ac im lw tk st sh ru rz aw al sd) q D hi er se (MA 1) (MA 3) (MA 4) V r sn g f) a1 a2 a3 a4) h := hv
  repeat (first | refine g_px rfl rfl rfl ?_)
  refine g_if rfl (fun cq => ?_) (fun cq => absurd (cpT (by decide)) cq)
  repeat (first | refine g_px rfl rfl rfl ?_)
  refine g_callV hv [0, 1, 2, 3, 4, 5, 6, 7, 8, 9, 10, 11, 12, 13] 0 rfl rfl rfl rfl rfl rfl rfl rfl (by decide) (s_MbyLaw sta d 0 tr wh q rd F wd ac im lw tk st sh ru rz aw al sd D hi er se MA V r sn g f a1 a2 a3 a4 L l SN C hV hGl) (fun v w' h hp hk2 hv => ?_)
  obtain ⟨rfl, tk', st', r', g', f', rfl⟩ := hp
  have hv : mj_Vw h0 (wo (wg (mo 0 tr wh (some q) rd F wd ac im (nI l) tk' st' (lN (o5 D MA l SN C (fac (D 1)))) (lN (o6 D MA l SN C 0 0 (fac (D 1)))) rz aw al sd) q D hi er se (MA 1) (MA 3) (MA 4) V r' SN g' f') (z6 (D 1) (o1 D MA l SN C (fac (D 1)))) (z6 (D 1) (o2 D MA l SN C (fac (D 1)))) (z6 (D 1) (o3 D MA l SN C (fac (D 1)))) (z36 (D 1) (o4 D MA l SN C (fac (D 1))))) h := hv
  have hbd : o5 D MA l SN C (fac (D 1)) ≤ 720 := Nat.le_trans (pto_le (D := D) (MA := MA) (L := l) (sn := SN) (C := C) (c := 1) hn (φ := fun T _ => if decide (pop T < D 0) then 1 else 0) (fun T g => by split <;> omega)) (by decide)
  repeat (first | refine g_px rfl rfl rfl ?_ | refine g_get hv 0 rfl rfl rfl rfl ?_)
  refine g_if rfl (fun cq => ?_) (fun cq => ?_)
  · have cq : ¬ lg_cmp (lN (o5 D MA l SN C (fac (D 1)))) (lN 0) = 0 := cq
    rw [lg_cmp_eq, pk_lEQ (by omega) (by decide)] at cq
    rw [decide_eq_false cq] at hT
    repeat (first | refine g_px rfl rfl rfl ?_)
    refine g_callV hv [0] 0 rfl rfl rfl rfl rfl rfl rfl rfl (by decide) (s_Mgood sta (d + 4) 0 tr wh (some q) rd F wd ac im (nI l) tk' st' (lN (o5 D MA l SN C (fac (D 1)))) (lN (o6 D MA l SN C 0 0 (fac (D 1)))) rz aw al sd _) (fun v w' h hp hk2 hv => ?_)
    obtain ⟨rfl, rfl⟩ := hp
    subst hT
    exact g_iret hv rfl rfl rfl rfl ⟨rfl, _, _, _, _, _, _, _, _, _, _, _, _, _, rfl⟩
  · have cq : ¬ ¬ lg_cmp (lN (o5 D MA l SN C (fac (D 1)))) (lN 0) = 0 := cq
    rw [lg_cmp_eq, pk_lEQ (by omega) (by decide)] at cq
    rw [decide_eq_true (Decidable.not_not.mp cq)] at hT
    repeat (first | refine g_px rfl rfl rfl ?_)
    refine g_callV hv [0] 0 rfl rfl rfl rfl rfl rfl rfl rfl (by decide) (s_Mgood sta (d + 4) 0 tr wh (some q) rd F wd ac im (nI l) tk' st' (lN (o5 D MA l SN C (fac (D 1)))) (lN (o6 D MA l SN C 0 0 (fac (D 1)))) rz aw al sd _) (fun v w' h hp hk2 hv => ?_)
    obtain ⟨rfl, rfl⟩ := hp
    subst hT
    exact g_iret hv rfl rfl rfl rfl ⟨rfl, _, _, _, _, _, _, _, _, _, _, _, _, _, rfl⟩
end Ml
