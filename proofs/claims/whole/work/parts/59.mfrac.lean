/-! the reference: odds, laws -/
section Mf
variable (sta : mj_S) (d : Nat) (th tr wh : Int32) (q : Nat) (rd : Option Nat) (F : Nat → Int32) (wd : Int64) (ac im lw tk st : Int32) (sh ru : Int64) (rz aw al sd : Int32) (D : Nat → Nat) (hi er se : Int32) (MA : Nat → Nat → Nat) (V : Nat → Int32) (r sn : Nat → Nat) (g f : Nat → Option Nat) (a1 a2 a3 a4 : Nat → Nat)
/-- what v holds of now -/
def vN (V : Nat → Int32) (L : Nat) (SN C : Nat → Nat) : Prop := V 25 = nI L ∧ (∀ i, i < 6 → V i = nI (SN i)) ∧ ∀ i, i < 6 → V (6 + i) = nI (C i)
theorem s_ModdsNow (L : Nat) (SN C : Nat → Nat) (hV : vN V L SN C) (hG : okG D MA SN C L) : mj_Sx sta (d + 5) 225 [.ref 151] (wo (wg (mo th tr wh (some q) rd F wd ac im lw tk st sh ru rz aw al sd) q D hi er se (MA 1) (MA 3) (MA 4) V r sn g f) a1 a2 a3 a4) (fun v w => v = none ∧ ∃ tk st r g f, w = wo (wg (mo th tr wh (some q) rd F wd ac im (nI L) tk st (lN (o5 D MA L SN C (fac (D 1)))) (lN (o6 D MA L SN C 0 0 (fac (D 1)))) rz aw al sd) q D hi er se (MA 1) (MA 3) (MA 4) V r SN g f) (z6 (D 1) (o1 D MA L SN C (fac (D 1)))) (z6 (D 1) (o2 D MA L SN C (fac (D 1)))) (z6 (D 1) (o3 D MA L SN C (fac (D 1)))) (z36 (D 1) (o4 D MA L SN C (fac (D 1))))) := by
  refine mj_Sx.mk m_X10_oddsNow (by decide) n_X10_oddsNow rfl (fun h0 hv => ?_)
  generalize hT : mj_rx m_X10_oddsNow h0 _ _ = T
  repeat (first | refine g_px rfl rfl rfl ?_)
  refine g_callV hv [0, 5, 7] 0 rfl rfl rfl rfl rfl rfl rfl rfl (by decide) (s_MasNow sta (d + 3) th tr wh q rd F wd ac im lw tk st sh ru rz aw al sd V L SN sn hV.1 hV.2.1) (fun v w' h hp hk2 hv => ?_)
  obtain ⟨rfl, rfl⟩ := hp
  have hv : mj_Vw h0 (wo (wg (mo th tr wh (some q) rd F wd ac im (nI L) tk st sh ru rz aw al sd) q D hi er se (MA 1) (MA 3) (MA 4) V r SN g f) a1 a2 a3 a4) h := hv
  repeat (first | refine g_px rfl rfl rfl ?_)
  refine g_callV hv [0, 1, 2, 3, 4, 5, 6, 7, 8, 9, 10, 11, 12, 13] 0 rfl rfl rfl rfl rfl rfl rfl rfl (by decide) (s_Modds sta d th tr wh q rd F wd ac im tk st sh ru rz aw al sd D hi er se MA V r SN g f L 0 0 C a1 a2 a3 a4 hV.2.2 hG (by decide) (by decide)) (fun v w' h hp hk2 hv => ?_)
  obtain ⟨rfl, tk', st', r', g', f', rfl⟩ := hp
  subst hT
  exact g_vret hv rfl rfl rfl ⟨rfl, tk', st', r', g', f', rfl⟩
theorem s_MbyLaw (L0 L : Nat) (SN C : Nat → Nat) (hV : vN V L0 SN C) (hG : okG D MA SN C L) : mj_Sx sta (d + 5) 236 [.ref 151, (.int (nI L))] (wo (wg (mo th tr wh (some q) rd F wd ac im lw tk st sh ru rz aw al sd) q D hi er se (MA 1) (MA 3) (MA 4) V r sn g f) a1 a2 a3 a4) (fun v w => v = none ∧ ∃ tk st r g f, w = wo (wg (mo th tr wh (some q) rd F wd ac im (nI L) tk st (lN (o5 D MA L SN C (fac (D 1)))) (lN (o6 D MA L SN C 0 0 (fac (D 1)))) rz aw al sd) q D hi er se (MA 1) (MA 3) (MA 4) V r SN g f) (z6 (D 1) (o1 D MA L SN C (fac (D 1)))) (z6 (D 1) (o2 D MA L SN C (fac (D 1)))) (z6 (D 1) (o3 D MA L SN C (fac (D 1)))) (z36 (D 1) (o4 D MA L SN C (fac (D 1))))) := by
  refine mj_Sx.mk m_X10_byLaw (by decide) n_X10_byLaw rfl (fun h0 hv => ?_)
  generalize hT : mj_rx m_X10_byLaw h0 _ _ = T
  repeat (first | refine g_px rfl rfl rfl ?_)
  refine g_callV hv [0, 5, 7] 0 rfl rfl rfl rfl rfl rfl rfl rfl (by decide) (s_MasNow sta (d + 3) th tr wh q rd F wd ac im lw tk st sh ru rz aw al sd V L0 SN sn hV.1 hV.2.1) (fun v w' h hp hk2 hv => ?_)
  obtain ⟨rfl, rfl⟩ := hp
  repeat (first | refine g_px rfl rfl rfl ?_)
  refine g_put hv 0 rfl rfl rfl rfl rfl rfl (fun h hv => ?_)
  have hv : mj_Vw h0 (wo (wg (mo th tr wh (some q) rd F wd ac im (nI L) tk st sh ru rz aw al sd) q D hi er se (MA 1) (MA 3) (MA 4) V r SN g f) a1 a2 a3 a4) h := hv
  repeat (first | refine g_px rfl rfl rfl ?_)
  refine g_callV hv [0, 1, 2, 3, 4, 5, 6, 7, 8, 9, 10, 11, 12, 13] 0 rfl rfl rfl rfl rfl rfl rfl rfl (by decide) (s_Modds sta d th tr wh q rd F wd ac im tk st sh ru rz aw al sd D hi er se MA V r SN g f L 0 0 C a1 a2 a3 a4 hV.2.2 hG (by decide) (by decide)) (fun v w' h hp hk2 hv => ?_)
  obtain ⟨rfl, tk', st', r', g', f', rfl⟩ := hp
  subst hT
  exact g_vret hv rfl rfl rfl ⟨rfl, tk', st', r', g', f', rfl⟩
theorem pto_le {D : Nat → Nat} {MA : Nat → Nat → Nat} {L : Nat} {sn C : Nat → Nat} {φ : Nat → (Nat → Option Nat) → Nat} {c : Nat} (hn : D 1 ≤ 6) (h : ∀ T g, φ T g ≤ c) : pto D MA L sn C φ (fac (D 1)) ≤ 720 * c := tot_le hn h
theorem s_Mtaken (k L : Nat) (lo : Bool) (SN C : Nat → Nat) (hk : k < D 1) (hV : vN V L SN C) (hG : okG D MA SN C L) : mj_Sx sta (d + 6) 226 [.ref 151, (.int (nI k)), .int (bl lo)] (wo (wg (mo th tr wh (some q) rd F wd ac im lw tk st sh ru rz aw al sd) q D hi er se (MA 1) (MA 3) (MA 4) V r sn g f) a1 a2 a3 a4) (fun v w => v = some (.long (lN (pfr (o1 D MA L SN C (fac (D 1)) k) (fac (D 1)) lo))) ∧ ∃ lw tk st sh ru r sn g f a1 a2 a3 a4, w = wo (wg (mo 0 0 (-1) (some q) rd F wd ac im lw tk st sh ru rz aw al sd) q D hi er se (MA 1) (MA 3) (MA 4) V r sn g f) a1 a2 a3 a4) := by
  refine mj_Sx.mk m_X10_taken (by decide) n_X10_taken rfl (fun h0 hv => ?_)
  generalize hT : mj_rx m_X10_taken h0 _ _ = T
  have hG2 := hG
  obtain ⟨hn, h1, ht, hL, hW, hA, hK, hsn, hC⟩ := hG2
  have hfp := fac_pos (D 1)
  have hfl := fac_720 (D 1) hn
  repeat (first | refine g_px rfl rfl rfl ?_)
  refine g_put hv 0 rfl rfl rfl rfl rfl rfl (fun h hv => ?_)
  have hv : mj_Vw h0 (wo (wg (mo 0 tr wh (some q) rd F wd ac im lw tk st sh ru rz aw al sd) q D hi er se (MA 1) (MA 3) (MA 4) V r sn g f) a1 a2 a3 a4) h := hv
  repeat (first | refine g_px rfl rfl rfl ?_)
  refine g_callV hv [0, 1] 0 rfl rfl rfl rfl rfl rfl rfl rfl (by decide) (s_MisMan sta (d + 4) 0 tr wh q rd F wd ac im lw tk st sh ru rz aw al sd D hi er se (nI k) hn) (fun v w' h hp hk2 hv => ?_)
  obtain ⟨rfl, rfl⟩ := hp
  rw [inR_k (by assumption) (by omega)]
  refine g_if rfl (fun cq => ?_) (fun cq => absurd (show ¬ bl true = 0 by decide) cq)
  have hv : mj_Vw h0 (wo (wg (mo 0 tr wh (some q) rd F wd ac im lw tk st sh ru rz aw al sd) q D hi er se (MA 1) (MA 3) (MA 4) V r sn g f) a1 a2 a3 a4) h := hv
  repeat (first | refine g_px rfl rfl rfl ?_)
  refine g_callV hv [0, 1, 2, 3, 4, 5, 6, 7, 8, 9, 10, 11, 12, 13] 0 rfl rfl rfl rfl rfl rfl rfl rfl (by decide) (s_ModdsNow sta d 0 tr wh q rd F wd ac im lw tk st sh ru rz aw al sd D hi er se MA V r sn g f a1 a2 a3 a4 L SN C hV hG) (fun v w' h hp hk2 hv => ?_)
  obtain ⟨rfl, tk', st', r', g', f', rfl⟩ := hp
  have hv : mj_Vw h0 (wo (wg (mo 0 tr wh (some q) rd F wd ac im (nI L) tk' st' (lN (o5 D MA L SN C (fac (D 1)))) (lN (o6 D MA L SN C 0 0 (fac (D 1)))) rz aw al sd) q D hi er se (MA 1) (MA 3) (MA 4) V r' SN g' f') (z6 (D 1) (o1 D MA L SN C (fac (D 1)))) (z6 (D 1) (o2 D MA L SN C (fac (D 1)))) (z6 (D 1) (o3 D MA L SN C (fac (D 1)))) (z36 (D 1) (o4 D MA L SN C (fac (D 1))))) h := hv
  repeat (first | refine g_px rfl rfl rfl ?_ | refine g_get hv 0 rfl rfl rfl rfl ?_)
  refine g_lL (L := 6) hv 10 (k := k) (by omega) (by decide) rfl rfl ?_
  rw [show z6 (D 1) (o1 D MA L SN C (fac (D 1))) k = o1 D MA L SN C (fac (D 1)) k from if_pos hk]
  have hbd : o1 D MA L SN C (fac (D 1)) k ≤ 720000 := Nat.le_trans (pto_le (D := D) (MA := MA) (L := L) (sn := SN) (C := C) (c := 1) hn (φ := fun T _ => if T.testBit k then 1 else 0) (fun T g => by split <;> omega)) (by decide)
  repeat (first | refine g_px rfl rfl rfl ?_)
  refine g_callV hv [0, 1] 0 rfl rfl rfl rfl rfl rfl rfl rfl (by decide) (s_MallRows sta (d + 4) 0 tr wh q rd F wd ac im (nI L) tk' st' (lN (o5 D MA L SN C (fac (D 1)))) (lN (o6 D MA L SN C 0 0 (fac (D 1)))) rz aw al sd D hi er se ⟨h1, hn⟩) (fun v w' h hp hk2 hv => ?_)
  obtain ⟨rfl, rfl⟩ := hp
  refine g_run 2 rfl ?_
  rw [nI_l (by omega)]
  refine g_callV hv [0] 0 rfl rfl rfl rfl rfl rfl rfl rfl (by decide) (s_Mfraction sta (d + 3) 0 tr wh (some q) rd F wd ac im (nI L) tk' st' (lN (o5 D MA L SN C (fac (D 1)))) (lN (o6 D MA L SN C 0 0 (fac (D 1)))) rz aw al sd (o1 D MA L SN C (fac (D 1)) k) (fac (D 1)) lo (by have := hbd; omega) hfp (by omega)) (fun v w' h hp hk2 hv => ?_)
  obtain ⟨rfl, rfl⟩ := hp
  subst hT
  exact g_lret hv rfl rfl rfl ⟨rfl, _, _, _, _, _, _, _, _, _, _, _, _, _, rfl⟩
theorem s_Mgoes (k L : Nat) (lo : Bool) (SN C : Nat → Nat) (hk : k < D 1) (hV : vN V L SN C) (hG : okG D MA SN C L) : mj_Sx sta (d + 6) 227 [.ref 151, (.int (nI k)), .int (bl lo)] (wo (wg (mo th tr wh (some q) rd F wd ac im lw tk st sh ru rz aw al sd) q D hi er se (MA 1) (MA 3) (MA 4) V r sn g f) a1 a2 a3 a4) (fun v w => v = some (.long (lN (pfr (o2 D MA L SN C (fac (D 1)) k) (fac (D 1)) lo))) ∧ ∃ lw tk st sh ru r sn g f a1 a2 a3 a4, w = wo (wg (mo 0 0 (-1) (some q) rd F wd ac im lw tk st sh ru rz aw al sd) q D hi er se (MA 1) (MA 3) (MA 4) V r sn g f) a1 a2 a3 a4) := by
  refine mj_Sx.mk m_X10_goes (by decide) n_X10_goes rfl (fun h0 hv => ?_)
  generalize hT : mj_rx m_X10_goes h0 _ _ = T
  have hG2 := hG
  obtain ⟨hn, h1, ht, hL, hW, hA, hK, hsn, hC⟩ := hG2
  have hfp := fac_pos (D 1)
  have hfl := fac_720 (D 1) hn
  repeat (first | refine g_px rfl rfl rfl ?_)
  refine g_put hv 0 rfl rfl rfl rfl rfl rfl (fun h hv => ?_)
  have hv : mj_Vw h0 (wo (wg (mo 0 tr wh (some q) rd F wd ac im lw tk st sh ru rz aw al sd) q D hi er se (MA 1) (MA 3) (MA 4) V r sn g f) a1 a2 a3 a4) h := hv
  repeat (first | refine g_px rfl rfl rfl ?_)
  refine g_callV hv [0, 1] 0 rfl rfl rfl rfl rfl rfl rfl rfl (by decide) (s_MisMan sta (d + 4) 0 tr wh q rd F wd ac im lw tk st sh ru rz aw al sd D hi er se (nI k) hn) (fun v w' h hp hk2 hv => ?_)
  obtain ⟨rfl, rfl⟩ := hp
  rw [inR_k (by assumption) (by omega)]
  refine g_if rfl (fun cq => ?_) (fun cq => absurd (show ¬ bl true = 0 by decide) cq)
  have hv : mj_Vw h0 (wo (wg (mo 0 tr wh (some q) rd F wd ac im lw tk st sh ru rz aw al sd) q D hi er se (MA 1) (MA 3) (MA 4) V r sn g f) a1 a2 a3 a4) h := hv
  repeat (first | refine g_px rfl rfl rfl ?_)
  refine g_callV hv [0, 1, 2, 3, 4, 5, 6, 7, 8, 9, 10, 11, 12, 13] 0 rfl rfl rfl rfl rfl rfl rfl rfl (by decide) (s_ModdsNow sta d 0 tr wh q rd F wd ac im lw tk st sh ru rz aw al sd D hi er se MA V r sn g f a1 a2 a3 a4 L SN C hV hG) (fun v w' h hp hk2 hv => ?_)
  obtain ⟨rfl, tk', st', r', g', f', rfl⟩ := hp
  have hv : mj_Vw h0 (wo (wg (mo 0 tr wh (some q) rd F wd ac im (nI L) tk' st' (lN (o5 D MA L SN C (fac (D 1)))) (lN (o6 D MA L SN C 0 0 (fac (D 1)))) rz aw al sd) q D hi er se (MA 1) (MA 3) (MA 4) V r' SN g' f') (z6 (D 1) (o1 D MA L SN C (fac (D 1)))) (z6 (D 1) (o2 D MA L SN C (fac (D 1)))) (z6 (D 1) (o3 D MA L SN C (fac (D 1)))) (z36 (D 1) (o4 D MA L SN C (fac (D 1))))) h := hv
  repeat (first | refine g_px rfl rfl rfl ?_ | refine g_get hv 0 rfl rfl rfl rfl ?_)
  refine g_lL (L := 6) hv 11 (k := k) (by omega) (by decide) rfl rfl ?_
  rw [show z6 (D 1) (o2 D MA L SN C (fac (D 1))) k = o2 D MA L SN C (fac (D 1)) k from if_pos hk]
  have hbd : o2 D MA L SN C (fac (D 1)) k ≤ 720000 := Nat.le_trans (pto_le (D := D) (MA := MA) (L := L) (sn := SN) (C := C) (c := 1) hn (φ := fun T g => if gos (D 1) T g k then 1 else 0) (fun T g => by split <;> omega)) (by decide)
  repeat (first | refine g_px rfl rfl rfl ?_)
  refine g_callV hv [0, 1] 0 rfl rfl rfl rfl rfl rfl rfl rfl (by decide) (s_MallRows sta (d + 4) 0 tr wh q rd F wd ac im (nI L) tk' st' (lN (o5 D MA L SN C (fac (D 1)))) (lN (o6 D MA L SN C 0 0 (fac (D 1)))) rz aw al sd D hi er se ⟨h1, hn⟩) (fun v w' h hp hk2 hv => ?_)
  obtain ⟨rfl, rfl⟩ := hp
  refine g_run 2 rfl ?_
  rw [nI_l (by omega)]
  refine g_callV hv [0] 0 rfl rfl rfl rfl rfl rfl rfl rfl (by decide) (s_Mfraction sta (d + 3) 0 tr wh (some q) rd F wd ac im (nI L) tk' st' (lN (o5 D MA L SN C (fac (D 1)))) (lN (o6 D MA L SN C 0 0 (fac (D 1)))) rz aw al sd (o2 D MA L SN C (fac (D 1)) k) (fac (D 1)) lo (by have := hbd; omega) hfp (by omega)) (fun v w' h hp hk2 hv => ?_)
  obtain ⟨rfl, rfl⟩ := hp
  subst hT
  exact g_lret hv rfl rfl rfl ⟨rfl, _, _, _, _, _, _, _, _, _, _, _, _, _, rfl⟩
theorem s_Mloss (k L : Nat) (lo : Bool) (SN C : Nat → Nat) (hk : k < D 1) (hV : vN V L SN C) (hG : okG D MA SN C L) : mj_Sx sta (d + 6) 229 [.ref 151, (.int (nI k)), .int (bl lo)] (wo (wg (mo th tr wh (some q) rd F wd ac im lw tk st sh ru rz aw al sd) q D hi er se (MA 1) (MA 3) (MA 4) V r sn g f) a1 a2 a3 a4) (fun v w => v = some (.long (lN (pfr (o3 D MA L SN C (fac (D 1)) k) (fac (D 1)) lo))) ∧ ∃ lw tk st sh ru r sn g f a1 a2 a3 a4, w = wo (wg (mo 0 0 (-1) (some q) rd F wd ac im lw tk st sh ru rz aw al sd) q D hi er se (MA 1) (MA 3) (MA 4) V r sn g f) a1 a2 a3 a4) := by
  refine mj_Sx.mk m_X10_loss (by decide) n_X10_loss rfl (fun h0 hv => ?_)
  generalize hT : mj_rx m_X10_loss h0 _ _ = T
  have hG2 := hG
  obtain ⟨hn, h1, ht, hL, hW, hA, hK, hsn, hC⟩ := hG2
  have hfp := fac_pos (D 1)
  have hfl := fac_720 (D 1) hn
  repeat (first | refine g_px rfl rfl rfl ?_)
  refine g_put hv 0 rfl rfl rfl rfl rfl rfl (fun h hv => ?_)
  have hv : mj_Vw h0 (wo (wg (mo 0 tr wh (some q) rd F wd ac im lw tk st sh ru rz aw al sd) q D hi er se (MA 1) (MA 3) (MA 4) V r sn g f) a1 a2 a3 a4) h := hv
  repeat (first | refine g_px rfl rfl rfl ?_)
  refine g_callV hv [0, 1] 0 rfl rfl rfl rfl rfl rfl rfl rfl (by decide) (s_MisMan sta (d + 4) 0 tr wh q rd F wd ac im lw tk st sh ru rz aw al sd D hi er se (nI k) hn) (fun v w' h hp hk2 hv => ?_)
  obtain ⟨rfl, rfl⟩ := hp
  rw [inR_k (by assumption) (by omega)]
  refine g_if rfl (fun cq => ?_) (fun cq => absurd (show ¬ bl true = 0 by decide) cq)
  have hv : mj_Vw h0 (wo (wg (mo 0 tr wh (some q) rd F wd ac im lw tk st sh ru rz aw al sd) q D hi er se (MA 1) (MA 3) (MA 4) V r sn g f) a1 a2 a3 a4) h := hv
  repeat (first | refine g_px rfl rfl rfl ?_)
  refine g_callV hv [0, 1, 2, 3, 4, 5, 6, 7, 8, 9, 10, 11, 12, 13] 0 rfl rfl rfl rfl rfl rfl rfl rfl (by decide) (s_ModdsNow sta d 0 tr wh q rd F wd ac im lw tk st sh ru rz aw al sd D hi er se MA V r sn g f a1 a2 a3 a4 L SN C hV hG) (fun v w' h hp hk2 hv => ?_)
  obtain ⟨rfl, tk', st', r', g', f', rfl⟩ := hp
  have hv : mj_Vw h0 (wo (wg (mo 0 tr wh (some q) rd F wd ac im (nI L) tk' st' (lN (o5 D MA L SN C (fac (D 1)))) (lN (o6 D MA L SN C 0 0 (fac (D 1)))) rz aw al sd) q D hi er se (MA 1) (MA 3) (MA 4) V r' SN g' f') (z6 (D 1) (o1 D MA L SN C (fac (D 1)))) (z6 (D 1) (o2 D MA L SN C (fac (D 1)))) (z6 (D 1) (o3 D MA L SN C (fac (D 1)))) (z36 (D 1) (o4 D MA L SN C (fac (D 1))))) h := hv
  repeat (first | refine g_px rfl rfl rfl ?_ | refine g_get hv 0 rfl rfl rfl rfl ?_)
  refine g_lL (L := 6) hv 12 (k := k) (by omega) (by decide) rfl rfl ?_
  rw [show z6 (D 1) (o3 D MA L SN C (fac (D 1))) k = o3 D MA L SN C (fac (D 1)) k from if_pos hk]
  have hbd : o3 D MA L SN C (fac (D 1)) k ≤ 720000 := Nat.le_trans (pto_le (D := D) (MA := MA) (L := L) (sn := SN) (C := C) (c := 1000) hn (φ := fun T g => los T g (MA 1) (MA 3) k) (fun T g => Nat.le_of_lt (los_lt hW hA k))) (by decide)
  repeat (first | refine g_px rfl rfl rfl ?_)
  refine g_callV hv [0, 1] 0 rfl rfl rfl rfl rfl rfl rfl rfl (by decide) (s_MallRows sta (d + 4) 0 tr wh q rd F wd ac im (nI L) tk' st' (lN (o5 D MA L SN C (fac (D 1)))) (lN (o6 D MA L SN C 0 0 (fac (D 1)))) rz aw al sd D hi er se ⟨h1, hn⟩) (fun v w' h hp hk2 hv => ?_)
  obtain ⟨rfl, rfl⟩ := hp
  refine g_run 2 rfl ?_
  rw [nI_l (by omega)]
  refine g_callV hv [0] 0 rfl rfl rfl rfl rfl rfl rfl rfl (by decide) (s_Mfraction sta (d + 3) 0 tr wh (some q) rd F wd ac im (nI L) tk' st' (lN (o5 D MA L SN C (fac (D 1)))) (lN (o6 D MA L SN C 0 0 (fac (D 1)))) rz aw al sd (o3 D MA L SN C (fac (D 1)) k) (fac (D 1)) lo (by have := hbd; omega) hfp (by omega)) (fun v w' h hp hk2 hv => ?_)
  obtain ⟨rfl, rfl⟩ := hp
  subst hT
  exact g_lret hv rfl rfl rfl ⟨rfl, _, _, _, _, _, _, _, _, _, _, _, _, _, rfl⟩
theorem s_MgoesFor (k s L : Nat) (lo : Bool) (SN C : Nat → Nat) (hk : k < D 1) (hs : s < D 1) (hne : k ≠ s) (hV : vN V L SN C) (hG : okG D MA SN C L) : mj_Sx sta (d + 6) 228 [.ref 151, (.int (nI k)), (.int (nI s)), .int (bl lo)] (wo (wg (mo th tr wh (some q) rd F wd ac im lw tk st sh ru rz aw al sd) q D hi er se (MA 1) (MA 3) (MA 4) V r sn g f) a1 a2 a3 a4) (fun v w => v = some (.long (lN (pfr (o4 D MA L SN C (fac (D 1)) k s) (fac (D 1)) lo))) ∧ ∃ lw tk st sh ru r sn g f a1 a2 a3 a4, w = wo (wg (mo 0 0 (-1) (some q) rd F wd ac im lw tk st sh ru rz aw al sd) q D hi er se (MA 1) (MA 3) (MA 4) V r sn g f) a1 a2 a3 a4) := by
  refine mj_Sx.mk m_X10_goesFor (by decide) n_X10_goesFor rfl (fun h0 hv => ?_)
  generalize hT : mj_rx m_X10_goesFor h0 _ _ = T
  have hG2 := hG
  obtain ⟨hn, h1, ht, hL, hW, hA, hK, hsn, hC⟩ := hG2
  have hfp := fac_pos (D 1)
  have hfl := fac_720 (D 1) hn
  repeat (first | refine g_px rfl rfl rfl ?_)
  refine g_put hv 0 rfl rfl rfl rfl rfl rfl (fun h hv => ?_)
  have hv : mj_Vw h0 (wo (wg (mo 0 tr wh (some q) rd F wd ac im lw tk st sh ru rz aw al sd) q D hi er se (MA 1) (MA 3) (MA 4) V r sn g f) a1 a2 a3 a4) h := hv
  repeat (first | refine g_px rfl rfl rfl ?_)
  refine g_callV hv [0, 1] 0 rfl rfl rfl rfl rfl rfl rfl rfl (by decide) (s_MisMan sta (d + 4) 0 tr wh q rd F wd ac im lw tk st sh ru rz aw al sd D hi er se (nI k) hn) (fun v w' h hp hk2 hv => ?_)
  obtain ⟨rfl, rfl⟩ := hp
  rw [inR_k (by assumption) (by omega)]
  refine g_if rfl (fun cq => absurd cq (show ¬ bl true = 0 by decide)) (fun cq => ?_)
  have hv : mj_Vw h0 (wo (wg (mo 0 tr wh (some q) rd F wd ac im lw tk st sh ru rz aw al sd) q D hi er se (MA 1) (MA 3) (MA 4) V r sn g f) a1 a2 a3 a4) h := hv
  repeat (first | refine g_px rfl rfl rfl ?_)
  refine g_callV hv [0, 1] 0 rfl rfl rfl rfl rfl rfl rfl rfl (by decide) (s_MisMan sta (d + 4) 0 tr wh q rd F wd ac im lw tk st sh ru rz aw al sd D hi er se (nI s) hn) (fun v w' h hp hk2 hv => ?_)
  obtain ⟨rfl, rfl⟩ := hp
  rw [inR_k hs (by omega)]
  refine g_if rfl (fun cq => absurd cq (show ¬ bl true = 0 by decide)) (fun cq => ?_)
  have hv : mj_Vw h0 (wo (wg (mo 0 tr wh (some q) rd F wd ac im lw tk st sh ru rz aw al sd) q D hi er se (MA 1) (MA 3) (MA 4) V r sn g f) a1 a2 a3 a4) h := hv
  repeat (first | refine g_px rfl rfl rfl ?_)
  refine g_ic rfl (fun cq => ?_) (fun cq => absurd (fun z => hne ((nI_eq (by omega) (by omega)).mp z)) cq)
  repeat (first | refine g_px rfl rfl rfl ?_)
  refine g_callV hv [0, 1, 2, 3, 4, 5, 6, 7, 8, 9, 10, 11, 12, 13] 0 rfl rfl rfl rfl rfl rfl rfl rfl (by decide) (s_ModdsNow sta d 0 tr wh q rd F wd ac im lw tk st sh ru rz aw al sd D hi er se MA V r sn g f a1 a2 a3 a4 L SN C hV hG) (fun v w' h hp hk2 hv => ?_)
  obtain ⟨rfl, tk', st', r', g', f', rfl⟩ := hp
  have hv : mj_Vw h0 (wo (wg (mo 0 tr wh (some q) rd F wd ac im (nI L) tk' st' (lN (o5 D MA L SN C (fac (D 1)))) (lN (o6 D MA L SN C 0 0 (fac (D 1)))) rz aw al sd) q D hi er se (MA 1) (MA 3) (MA 4) V r' SN g' f') (z6 (D 1) (o1 D MA L SN C (fac (D 1)))) (z6 (D 1) (o2 D MA L SN C (fac (D 1)))) (z6 (D 1) (o3 D MA L SN C (fac (D 1)))) (z36 (D 1) (o4 D MA L SN C (fac (D 1))))) h := hv
  repeat (first | refine g_px rfl rfl rfl ?_ | refine g_get hv 0 rfl rfl rfl rfl ?_)
  rw [k_6, pk_mul, nI_add]
  refine g_lL (L := 36) hv 13 (k := 6 * k + s) (by omega) (by decide) rfl rfl ?_
  rw [show z36 (D 1) (o4 D MA L SN C (fac (D 1))) (6 * k + s) = o4 D MA L SN C (fac (D 1)) k s by unfold z36; rw [if_pos (by omega), show (6 * k + s) / 6 = k by omega, show (6 * k + s) % 6 = s by omega]]
  have hbd : o4 D MA L SN C (fac (D 1)) k s ≤ 720000 := Nat.le_trans (pto_le (D := D) (MA := MA) (L := L) (sn := SN) (C := C) (c := 1) hn (φ := fun _ g => if s < D 1 ∧ g s = some k then 1 else 0) (fun T g => by split <;> omega)) (by decide)
  repeat (first | refine g_px rfl rfl rfl ?_)
  refine g_callV hv [0, 1] 0 rfl rfl rfl rfl rfl rfl rfl rfl (by decide) (s_MallRows sta (d + 4) 0 tr wh q rd F wd ac im (nI L) tk' st' (lN (o5 D MA L SN C (fac (D 1)))) (lN (o6 D MA L SN C 0 0 (fac (D 1)))) rz aw al sd D hi er se ⟨h1, hn⟩) (fun v w' h hp hk2 hv => ?_)
  obtain ⟨rfl, rfl⟩ := hp
  refine g_run 2 rfl ?_
  rw [nI_l (by omega)]
  refine g_callV hv [0] 0 rfl rfl rfl rfl rfl rfl rfl rfl (by decide) (s_Mfraction sta (d + 3) 0 tr wh (some q) rd F wd ac im (nI L) tk' st' (lN (o5 D MA L SN C (fac (D 1)))) (lN (o6 D MA L SN C 0 0 (fac (D 1)))) rz aw al sd (o4 D MA L SN C (fac (D 1)) k s) (fac (D 1)) lo (by have := hbd; omega) hfp (by omega)) (fun v w' h hp hk2 hv => ?_)
  obtain ⟨rfl, rfl⟩ := hp
  subst hT
  exact g_lret hv rfl rfl rfl ⟨rfl, _, _, _, _, _, _, _, _, _, _, _, _, _, rfl⟩
theorem s_MshortOf (L : Nat) (lo : Bool) (SN C : Nat → Nat) (hV : vN V L SN C) (hG : okG D MA SN C L) : mj_Sx sta (d + 6) 234 [.ref 151, .int (bl lo)] (wo (wg (mo th tr wh (some q) rd F wd ac im lw tk st sh ru rz aw al sd) q D hi er se (MA 1) (MA 3) (MA 4) V r sn g f) a1 a2 a3 a4) (fun v w => v = some (.long (lN (pfr (o5 D MA L SN C (fac (D 1))) (fac (D 1)) lo))) ∧ ∃ lw tk st sh ru r sn g f a1 a2 a3 a4, w = wo (wg (mo 0 0 (-1) (some q) rd F wd ac im lw tk st sh ru rz aw al sd) q D hi er se (MA 1) (MA 3) (MA 4) V r sn g f) a1 a2 a3 a4) := by
  refine mj_Sx.mk m_X10_shortOf (by decide) n_X10_shortOf rfl (fun h0 hv => ?_)
  generalize hT : mj_rx m_X10_shortOf h0 _ _ = T
  have hG2 := hG
  obtain ⟨hn, h1, ht, hL, hW, hA, hK, hsn, hC⟩ := hG2
  have hfp := fac_pos (D 1)
  have hfl := fac_720 (D 1) hn
  repeat (first | refine g_px rfl rfl rfl ?_)
  refine g_put hv 0 rfl rfl rfl rfl rfl rfl (fun h hv => ?_)
  have hv : mj_Vw h0 (wo (wg (mo 0 tr wh (some q) rd F wd ac im lw tk st sh ru rz aw al sd) q D hi er se (MA 1) (MA 3) (MA 4) V r sn g f) a1 a2 a3 a4) h := hv
  repeat (first | refine g_px rfl rfl rfl ?_ | refine g_get hv 0 rfl rfl rfl rfl ?_)
  refine g_callV hv [0, 1, 2, 3, 4, 5, 6, 7, 8, 9, 10, 11, 12, 13] 0 rfl rfl rfl rfl rfl rfl rfl rfl (by decide) (s_ModdsNow sta d 0 tr wh q rd F wd ac im lw tk st sh ru rz aw al sd D hi er se MA V r sn g f a1 a2 a3 a4 L SN C hV hG) (fun v w' h hp hk2 hv => ?_)
  obtain ⟨rfl, tk', st', r', g', f', rfl⟩ := hp
  have hv : mj_Vw h0 (wo (wg (mo 0 tr wh (some q) rd F wd ac im (nI L) tk' st' (lN (o5 D MA L SN C (fac (D 1)))) (lN (o6 D MA L SN C 0 0 (fac (D 1)))) rz aw al sd) q D hi er se (MA 1) (MA 3) (MA 4) V r' SN g' f') (z6 (D 1) (o1 D MA L SN C (fac (D 1)))) (z6 (D 1) (o2 D MA L SN C (fac (D 1)))) (z6 (D 1) (o3 D MA L SN C (fac (D 1)))) (z36 (D 1) (o4 D MA L SN C (fac (D 1))))) h := hv
  repeat (first | refine g_px rfl rfl rfl ?_ | refine g_get hv 0 rfl rfl rfl rfl ?_)
  have hbd : o5 D MA L SN C (fac (D 1)) ≤ 720000 := Nat.le_trans (pto_le (D := D) (MA := MA) (L := L) (sn := SN) (C := C) (c := 1) hn (φ := fun T _ => if decide (pop T < D 0) then 1 else 0) (fun T g => by split <;> omega)) (by decide)
  refine g_callV hv [0, 1] 0 rfl rfl rfl rfl rfl rfl rfl rfl (by decide) (s_MallRows sta (d + 4) 0 tr wh q rd F wd ac im (nI L) tk' st' (lN (o5 D MA L SN C (fac (D 1)))) (lN (o6 D MA L SN C 0 0 (fac (D 1)))) rz aw al sd D hi er se ⟨h1, hn⟩) (fun v w' h hp hk2 hv => ?_)
  obtain ⟨rfl, rfl⟩ := hp
  refine g_run 2 rfl ?_
  rw [nI_l (by omega)]
  refine g_callV hv [0] 0 rfl rfl rfl rfl rfl rfl rfl rfl (by decide) (s_Mfraction sta (d + 3) 0 tr wh (some q) rd F wd ac im (nI L) tk' st' (lN (o5 D MA L SN C (fac (D 1)))) (lN (o6 D MA L SN C 0 0 (fac (D 1)))) rz aw al sd (o5 D MA L SN C (fac (D 1))) (fac (D 1)) lo (by have := hbd; omega) hfp (by omega)) (fun v w' h hp hk2 hv => ?_)
  obtain ⟨rfl, rfl⟩ := hp
  subst hT
  exact g_lret hv rfl rfl rfl ⟨rfl, _, _, _, _, _, _, _, _, _, _, _, _, _, rfl⟩
theorem s_MlossesOf (cl : Nat) (x : Nat → Nat) (hcl : cl < 64) (hn : D 1 ≤ 6) : mj_Sx sta (d + 2) 213 [.ref 151, (.int (nI cl))] [(mo th tr wh (some q) rd F wd ac im lw tk st sh ru rz aw al sd), mdh q D hi er se, (162, aL 6 (z6 (D 1) x))] (fun v w => v = some (.long (lN (fb_sm (fun m => if cl.testBit m then x m else 0) (D 1)))) ∧ w = [(mo th tr wh (some q) rd F wd ac im lw tk st sh ru rz aw al sd), mdh q D hi er se, (162, aL 6 (z6 (D 1) x))]) := by
  refine mj_Sx.mk m_X10_lossesOf (by decide) n_X10_lossesOf rfl (fun h0 hv => ?_)
  generalize hT : mj_rx m_X10_lossesOf h0 _ _ = T
  have loop : ∀ j k h, k + j = D 1 → mj_Vw h0 [(mo th tr wh (some q) rd F wd ac im lw tk st sh ru rz aw al sd), mdh q D hi er se, (162, aL 6 (z6 (D 1) x))] h → mj_go sta (mj_Cl sta (d + 1)) m_X10_lossesOf T 5 [some (.ref 151), some (.int (nI cl)), some (.long (lN (fb_sm (fun m => if cl.testBit m then x m else 0) k))), none, some (.int (nI k))] [] h := by
    intro j
    induction j with
    | zero =>
      intro k h hk hv
      have hk : k = D 1 := by omega
      subst hk
      repeat (first | refine g_px rfl rfl rfl ?_ | refine g_get hv 0 rfl rfl rfl rfl ?_ | refine g_get hv 1 rfl rfl rfl rfl ?_)
      refine g_ic rfl (fun cq => ?_) (fun cq => ?_)
      · repeat (first | refine g_px rfl rfl rfl ?_)
        subst hT
        exact g_lret hv rfl rfl rfl ⟨rfl, rfl⟩
      · simp (disch := omega) only [mj_cp, k_6, k_7, k_8, k_9, k_10, k_12, k_15, k_16, k_18, k_20, k_24, k_25, k_26, k_27, k_28, k_32, k_36, k_48, k_57, k_59, k_63, k_74, k_75, k_84, k_90, k_97, k_99, k_100, k_122, k_200, k_255, k_420, k_448, k_720, k_800, k_999, k_bit, k_shl, fa_and, nI_add, bl_1, bl_0, bl_n1, bl_n0, bl_i1, nI_lt0, nI_0le, nI_eq0, nI_eqT, nI_leI, nI_ltI, nI_eq, Nat.not_le, Nat.not_lt, Bool.not_eq_true, Bool.not_eq_false, not_true_eq_false, not_false_eq_true, Decidable.not_not] at cq
        omega
    | succ j ih =>
      intro k h hk hv
      have next : ∀ (y : Nat) (h : mj_H), y = (if cl.testBit k then x k else 0) → mj_Vw h0 [(mo th tr wh (some q) rd F wd ac im lw tk st sh ru rz aw al sd), mdh q D hi er se, (162, aL 6 (z6 (D 1) x))] h → mj_go sta (mj_Cl sta (d + 1)) m_X10_lossesOf T 38 [some (.ref 151), some (.int (nI cl)), some (.long (lN (fb_sm (fun m => if cl.testBit m then x m else 0) k))), none, some (.int (nI k))] [(.long (lN y)), (.long (lN (fb_sm (fun m => if cl.testBit m then x m else 0) k)))] h := by
        intro y h hy hv
        subst hy
        refine g_lad rfl rfl ?_
        rw [← fb_sm_succ (fun m => if cl.testBit m then x m else 0)]
        refine g_run 3 rfl ?_
        have hnx := ih (k + 1) h (by omega) hv
        rw [nI_succ] at hnx
        exact hnx
      repeat (first | refine g_px rfl rfl rfl ?_ | refine g_get hv 0 rfl rfl rfl rfl ?_ | refine g_get hv 1 rfl rfl rfl rfl ?_)
      refine g_ic rfl (fun cq => ?_) (fun cq => ?_)
      · simp (disch := omega) only [mj_cp, k_6, k_7, k_8, k_9, k_10, k_12, k_15, k_16, k_18, k_20, k_24, k_25, k_26, k_27, k_28, k_32, k_36, k_48, k_57, k_59, k_63, k_74, k_75, k_84, k_90, k_97, k_99, k_100, k_122, k_200, k_255, k_420, k_448, k_720, k_800, k_999, k_bit, k_shl, fa_and, nI_add, bl_1, bl_0, bl_n1, bl_n0, bl_i1, nI_lt0, nI_0le, nI_eq0, nI_eqT, nI_leI, nI_ltI, nI_eq, Nat.not_le, Nat.not_lt, Bool.not_eq_true, Bool.not_eq_false, not_true_eq_false, not_false_eq_true, Decidable.not_not] at cq
        omega
      · repeat (first | refine g_px rfl rfl rfl ?_)
        refine g_callS hv [] rfl rfl rfl rfl rfl rfl rfl (by decide) (s_Mbit sta d cl k (by omega) (by omega)) (fun v w' h hp hk2 hv => ?_)
        obtain ⟨rfl, rfl⟩ := hp
        refine g_if rfl (fun cq => ?_) (fun cq => ?_)
        · simp (disch := omega) only [mj_cp, k_6, k_7, k_8, k_9, k_10, k_12, k_15, k_16, k_18, k_20, k_24, k_25, k_26, k_27, k_28, k_32, k_36, k_48, k_57, k_59, k_63, k_74, k_75, k_84, k_90, k_97, k_99, k_100, k_122, k_200, k_255, k_420, k_448, k_720, k_800, k_999, k_bit, k_shl, fa_and, nI_add, bl_1, bl_0, bl_n1, bl_n0, bl_i1, nI_lt0, nI_0le, nI_eq0, nI_eqT, nI_leI, nI_ltI, nI_eq, Nat.not_le, Nat.not_lt, Bool.not_eq_true, Bool.not_eq_false, not_true_eq_false, not_false_eq_true, Decidable.not_not] at cq
          refine g_run 1 rfl ?_
          exact next 0 h (by rw [cq]; rfl) hv
        · simp (disch := omega) only [mj_cp, k_6, k_7, k_8, k_9, k_10, k_12, k_15, k_16, k_18, k_20, k_24, k_25, k_26, k_27, k_28, k_32, k_36, k_48, k_57, k_59, k_63, k_74, k_75, k_84, k_90, k_97, k_99, k_100, k_122, k_200, k_255, k_420, k_448, k_720, k_800, k_999, k_bit, k_shl, fa_and, nI_add, bl_1, bl_0, bl_n1, bl_n0, bl_i1, nI_lt0, nI_0le, nI_eq0, nI_eqT, nI_leI, nI_ltI, nI_eq, Nat.not_le, Nat.not_lt, Bool.not_eq_true, Bool.not_eq_false, not_true_eq_false, not_false_eq_true, Decidable.not_not] at cq
          repeat (first | refine g_px rfl rfl rfl ?_ | refine g_get hv 0 rfl rfl rfl rfl ?_)
          refine g_lL (L := 6) hv 2 (k := k) (by omega) (by decide) rfl rfl ?_
          rw [show z6 (D 1) x k = x k from if_pos (by omega)]
          refine g_run 1 rfl ?_
          exact next _ h (by rw [if_pos cq]) hv
  refine g_run 4 rfl ?_
  exact loop (D 1) 0 h0 (by omega) hv
end Mf
