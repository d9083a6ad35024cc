/-! the reference: toJoin, bestLaw, toSpare -/
theorem pick_2 {ok : Nat → Bool} {L : Nat → Nat} : ∀ {m q}, (pick ok L m).1 = some q → (pick ok L m).2 = L q
  | 0, q, h => by cases h
  | m + 1, q, h => by
    rw [pick] at h ⊢
    by_cases hc : ok m = true ∧ ((pick ok L m).1 = none ∨ L m < (pick ok L m).2)
    · rw [if_pos hc] at h ⊢
      cases h
      rfl
    · rw [if_neg hc] at h ⊢
      exact pick_2 h
section Mj
variable (sta : mj_S) (d : Nat) (th tr wh : Int32) (q : Nat) (rd : Option Nat) (F : Nat → Int32) (wd : Int64) (ac im lw tk st : Int32) (sh ru : Int64) (rz aw al sd : Int32) (D : Nat → Nat) (hi er se : Int32) (MA : Nat → Nat → Nat) (V : Nat → Int32) (r sn : Nat → Nat) (g f : Nat → Option Nat) (a1 a2 a3 a4 : Nat → Nat)
theorem s_MtoJoin (k L : Nat) (SN C : Nat → Nat) (hk : k < 2 ^ D 1) (hV : vN V L SN C) (hG : okG D MA SN C L) : mj_Sx sta (d + 6) 233 [.ref 151, (.int (nI k))] (wo (wg (mo th tr wh (some q) rd F wd ac im lw tk st sh ru rz aw al sd) q D hi er se (MA 1) (MA 3) (MA 4) V r sn g f) a1 a2 a3 a4) (fun v w => v = some (.int (snd (pick (fun m => !k.testBit m) (o3 D MA L SN C (fac (D 1))) (D 1)).1)) ∧ ∃ lw tk st sh ru r sn g f a1 a2 a3 a4, w = wo (wg (mo 0 0 (-1) (some q) rd F wd ac im lw tk st sh ru rz aw al sd) q D hi er se (MA 1) (MA 3) (MA 4) V r sn g f) a1 a2 a3 a4) := by
  refine mj_Sx.mk m_X10_toJoin (by decide) n_X10_toJoin rfl (fun h0 hv => ?_)
  generalize hT : mj_rx m_X10_toJoin h0 _ _ = T
  have hG2 := hG
  obtain ⟨hn, h1, ht, hL, hW, hA, hK, hsn, hC⟩ := hG2
  have hp6 := p6 hn
  repeat (first | refine g_px rfl rfl rfl ?_)
  refine g_put hv 0 rfl rfl rfl rfl rfl rfl (fun h hv => ?_)
  have hv : mj_Vw h0 (wo (wg (mo 0 tr wh (some q) rd F wd ac im lw tk st sh ru rz aw al sd) q D hi er se (MA 1) (MA 3) (MA 4) V r sn g f) a1 a2 a3 a4) h := hv
  repeat (first | refine g_px rfl rfl rfl ?_)
  refine g_callV hv [0, 1] 0 rfl rfl rfl rfl rfl rfl rfl rfl (by decide) (s_MisClub sta (d + 3) 0 tr wh q rd F wd ac im lw tk st sh ru rz aw al sd D hi er se (nI k) 0 (by decide) hn) (fun v w' h hp hk2 hv => ?_)
  obtain ⟨rfl, rfl⟩ := hp
  rw [inR_k hk (by omega), decide_eq_true (nI_le (Nat.zero_le k) (by omega))]
  refine g_if rfl (fun cq => ?_) (fun cq => absurd (show ¬ bl true = 0 by decide) cq)
  have hv : mj_Vw h0 (wo (wg (mo 0 tr wh (some q) rd F wd ac im lw tk st sh ru rz aw al sd) q D hi er se (MA 1) (MA 3) (MA 4) V r sn g f) a1 a2 a3 a4) h := hv
  repeat (first | refine g_px rfl rfl rfl ?_)
  refine g_callV hv [0, 1, 2, 3, 4, 5, 6, 7, 8, 9, 10, 11, 12, 13] 0 rfl rfl rfl rfl rfl rfl rfl rfl (by decide) (s_ModdsNow sta d 0 tr wh q rd F wd ac im lw tk st sh ru rz aw al sd D hi er se MA V r sn g f a1 a2 a3 a4 L SN C hV hG) (fun v w' h hp hk2 hv => ?_)
  obtain ⟨rfl, tk', st', r', g', f', rfl⟩ := hp
  have hx := o3_le (D := D) (MA := MA) (L := L) (sn := SN) (C := C) hn hW hA
  generalize hxe : o3 D MA L SN C (fac (D 1)) = x at hx
  have loop : ∀ j m h lw' sh' ru' b1 b2 b4, m + j = D 1 → mj_Vw h0 (wo (wg (mo 0 tr wh (some q) rd F wd ac im lw' tk' st' sh' ru' rz aw al sd) q D hi er se (MA 1) (MA 3) (MA 4) V r' SN g' f') b1 b2 (z6 (D 1) x) b4) h → mj_go sta (mj_Cl sta (d + 5)) m_X10_toJoin T 29 [some (.ref 151), some (.int (nI k)), some (.int (snd (pick (fun m => !k.testBit m) x m).1)), some (.int (nI m))] [] h := by
    intro j
    induction j with
    | zero =>
      intro m h lw' sh' ru' b1 b2 b4 hm hv
      have hm : m = D 1 := by omega
      subst hm
      repeat (first | refine g_px rfl rfl rfl ?_ | refine g_get hv 0 rfl rfl rfl rfl ?_ | refine g_get hv 1 rfl rfl rfl rfl ?_)
      refine g_ic rfl (fun cq => ?_) (fun cq => ?_)
      · repeat (first | refine g_px rfl rfl rfl ?_)
        refine g_callV hv [0] 0 rfl rfl rfl rfl rfl rfl rfl rfl (by decide) (s_Mgood sta (d + 4) 0 tr wh (some q) rd F wd ac im lw' tk' st' sh' ru' rz aw al sd _) (fun v w' h hp hk2 hv => ?_)
        obtain ⟨rfl, rfl⟩ := hp
        subst hT
        refine g_iret hv rfl rfl rfl rfl ⟨?_, _, _, _, _, _, _, _, _, _, _, _, _, _, rfl⟩
        rw [hxe]
      · simp (disch := omega) only [mj_cp, k_6, k_7, k_8, k_9, k_10, k_12, k_15, k_16, k_18, k_20, k_24, k_25, k_26, k_27, k_28, k_32, k_36, k_48, k_57, k_59, k_63, k_74, k_75, k_84, k_90, k_97, k_99, k_100, k_122, k_200, k_255, k_420, k_448, k_720, k_800, k_999, k_bit, k_shl, fa_and, nI_add, bl_1, bl_0, bl_n1, bl_n0, bl_i1, nI_lt0, nI_0le, nI_eq0, nI_eqT, nI_leI, nI_ltI, nI_eq, Nat.not_le, Nat.not_lt, Bool.not_eq_true, Bool.not_eq_false, not_true_eq_false, not_false_eq_true, Decidable.not_not] at cq
        omega
    | succ j ih =>
      intro m h lw' sh' ru' b1 b2 b4 hm hv
      have hpl := pick_lt (ok := fun m => !k.testBit m) (L := x) (c := 5000000) (by decide) (fun m => by have := hx m; omega) m
      have hp2 := fun y => pick_2 (ok := fun m => !k.testBit m) (L := x) (m := m) (q := y)
      have hxm := hx m
      have hz : z6 (D 1) x m = x m := if_pos (by omega)
      repeat (first | refine g_px rfl rfl rfl ?_ | refine g_get hv 0 rfl rfl rfl rfl ?_ | refine g_get hv 1 rfl rfl rfl rfl ?_)
      refine g_ic rfl (fun cq => ?_) (fun cq => ?_)
      · simp (disch := omega) only [mj_cp, k_6, k_7, k_8, k_9, k_10, k_12, k_15, k_16, k_18, k_20, k_24, k_25, k_26, k_27, k_28, k_32, k_36, k_48, k_57, k_59, k_63, k_74, k_75, k_84, k_90, k_97, k_99, k_100, k_122, k_200, k_255, k_420, k_448, k_720, k_800, k_999, k_bit, k_shl, fa_and, nI_add, bl_1, bl_0, bl_n1, bl_n0, bl_i1, nI_lt0, nI_0le, nI_eq0, nI_eqT, nI_leI, nI_ltI, nI_eq, Nat.not_le, Nat.not_lt, Bool.not_eq_true, Bool.not_eq_false, not_true_eq_false, not_false_eq_true, Decidable.not_not] at cq
        omega
      · repeat (first | refine g_px rfl rfl rfl ?_)
        refine g_callS hv [] rfl rfl rfl rfl rfl rfl rfl (by decide) (s_Mbit sta (d + 4) k m (by omega) (by omega)) (fun v w' h hp hk2 hv => ?_)
        obtain ⟨rfl, rfl⟩ := hp
        have hv : mj_Vw h0 (wo (wg (mo 0 tr wh (some q) rd F wd ac im lw' tk' st' sh' ru' rz aw al sd) q D hi er se (MA 1) (MA 3) (MA 4) V r' SN g' f') b1 b2 (z6 (D 1) x) b4) h := hv
        have hnx := ih (m + 1) h lw' sh' ru' b1 b2 b4 (by omega) hv
        rw [nI_succ, pick] at hnx
        refine g_if rfl (fun cq => ?_) (fun cq => ?_)
        · have cq : ¬ bl (k.testBit m) = 0 := cq
          rw [bl_0, Bool.not_eq_false] at cq
          rw [if_neg (by simp [cq])] at hnx
          refine g_run 2 rfl ?_
          exact hnx
        · simp (disch := omega) only [mj_cp, k_6, k_7, k_8, k_9, k_10, k_12, k_15, k_16, k_18, k_20, k_24, k_25, k_26, k_27, k_28, k_32, k_36, k_48, k_57, k_59, k_63, k_74, k_75, k_84, k_90, k_97, k_99, k_100, k_122, k_200, k_255, k_420, k_448, k_720, k_800, k_999, k_bit, k_shl, fa_and, nI_add, bl_1, bl_0, bl_n1, bl_n0, bl_i1, nI_lt0, nI_0le, nI_eq0, nI_eqT, nI_leI, nI_ltI, nI_eq, Nat.not_le, Nat.not_lt, Bool.not_eq_true, Bool.not_eq_false, not_true_eq_false, not_false_eq_true, Decidable.not_not] at cq
          have hbit := cq
          repeat (first | refine g_px rfl rfl rfl ?_)
          refine g_ic rfl (fun cq => ?_) (fun cq => ?_)
          · have cq : snd (pick (fun m => !k.testBit m) x m).1 = (Int8.ofInt (-2)).toInt32 := cq
            rw [snd_n2 (fun q hq => by have := hpl.2 q hq; omega)] at cq
            rw [if_pos ⟨by simp [hbit], Or.inl cq⟩] at hnx
            refine g_run 4 rfl ?_
            exact hnx
          · have cq : ¬ snd (pick (fun m => !k.testBit m) x m).1 = (Int8.ofInt (-2)).toInt32 := cq
            rw [snd_n2 (fun q hq => by have := hpl.2 q hq; omega)] at cq
            have hno := cq
            cases hpo : (pick (fun m => !k.testBit m) x m).1 with
            | none => exact absurd hpo hno
            | some y =>
              have hy := hpl.2 y hpo
              have hy2 := hp2 y hpo
              rw [hpo] at hnx
              rw [hy2] at hnx
              have hxy := hx y
              have hzy : z6 (D 1) x y = x y := if_pos (by omega)
              repeat (first | refine g_px rfl rfl rfl ?_ | refine g_get hv 0 rfl rfl rfl rfl ?_)
              refine g_lL (L := 6) hv 12 (k := m) (by omega) (by decide) rfl rfl ?_
              rw [hz]
              repeat (first | refine g_px rfl rfl rfl ?_ | refine g_get hv 0 rfl rfl rfl rfl ?_)
              refine g_lL (L := 6) hv 12 (k := y) (by omega) (by decide) rfl rfl ?_
              rw [hzy]
              repeat (first | refine g_px rfl rfl rfl ?_)
              refine g_if rfl (fun cq => ?_) (fun cq => ?_)
              · have cq : 0 ≤ lg_cmp (lN (x m)) (lN (x y)) := cq
                rw [lg_cmp_ge, pk_lLE (by omega) (by omega)] at cq
                rw [if_neg (fun z => z.2.elim (fun z => by cases z) (fun z => by omega)), hpo] at hnx
                refine g_run 2 rfl ?_
                exact hnx
              · have cq : ¬ 0 ≤ lg_cmp (lN (x m)) (lN (x y)) := cq
                rw [lg_cmp_ge, pk_lLE (by omega) (by omega)] at cq
                rw [if_pos ⟨by simp [hbit], Or.inr (by omega)⟩] at hnx
                refine g_run 4 rfl ?_
                exact hnx
  refine g_run 4 rfl ?_
  rw [hxe] at hv
  exact loop (D 1) 0 h _ _ _ _ _ _ (by omega) hv
theorem s_MbestLaw (L : Nat) (SN C : Nat → Nat) (hV : vN V L SN C) (hG : okG D MA SN C L) : mj_Sx sta (d + 6) 240 [.ref 151] (wo (wg (mo th tr wh (some q) rd F wd ac im lw tk st sh ru rz aw al sd) q D hi er se (MA 1) (MA 3) (MA 4) V r sn g f) a1 a2 a3 a4) (fun v w => v = some (.int (snd (pick (fun l => decide (o5 D MA l SN C (fac (D 1)) = 0)) (fun l => fb_sm (fun m => if (2 ^ D 1 - 1).testBit m then o3 D MA l SN C (fac (D 1)) m else 0) (D 1)) 16).1)) ∧ ∃ lw tk st sh ru r sn g f a1 a2 a3 a4, w = wo (wg (mo 0 0 (-1) (some q) rd F wd ac im lw tk st sh ru rz aw al sd) q D hi er se (MA 1) (MA 3) (MA 4) V r sn g f) a1 a2 a3 a4) := by
  refine mj_Sx.mk m_X10_bestLaw (by decide) n_X10_bestLaw rfl (fun h0 hv => ?_)
  generalize hT : mj_rx m_X10_bestLaw h0 _ _ = T
  have hG2 := hG
  obtain ⟨hn, h1, ht, hL, hW, hA, hK, hsn, hC⟩ := hG2
  have hp6 := p6 hn
  have hxl : ∀ l, fb_sm (fun m => if (2 ^ D 1 - 1).testBit m then o3 D MA l SN C (fac (D 1)) m else 0) (D 1) < 5000000 := fun l => by
    have := ls_le (n := D 1) (cl := 2 ^ D 1 - 1) (x := o3 D MA l SN C (fac (D 1))) hn (o3_le hn hW hA)
    omega
  have hol : ∀ l, o5 D MA l SN C (fac (D 1)) ≤ 720000 := fun l => Nat.le_trans (pto_le (D := D) (MA := MA) (L := l) (sn := SN) (C := C) (c := 1) hn (φ := fun T _ => if decide (pop T < D 0) then 1 else 0) (fun T g => by split <;> omega)) (by decide)
  have hpl := pick_lt (ok := fun l => decide (o5 D MA l SN C (fac (D 1)) = 0)) (L := fun l => fb_sm (fun m => if (2 ^ D 1 - 1).testBit m then o3 D MA l SN C (fac (D 1)) m else 0) (D 1)) (c := 5000000) (by decide) hxl
  have hst : ∀ l, pick (fun l => decide (o5 D MA l SN C (fac (D 1)) = 0)) (fun l => fb_sm (fun m => if (2 ^ D 1 - 1).testBit m then o3 D MA l SN C (fac (D 1)) m else 0) (D 1)) (l + 1) = if decide (o5 D MA l SN C (fac (D 1)) = 0) = true ∧ ((pick (fun l => decide (o5 D MA l SN C (fac (D 1)) = 0)) (fun l => fb_sm (fun m => if (2 ^ D 1 - 1).testBit m then o3 D MA l SN C (fac (D 1)) m else 0) (D 1)) l).1 = none ∨ fb_sm (fun m => if (2 ^ D 1 - 1).testBit m then o3 D MA l SN C (fac (D 1)) m else 0) (D 1) < (pick (fun l => decide (o5 D MA l SN C (fac (D 1)) = 0)) (fun l => fb_sm (fun m => if (2 ^ D 1 - 1).testBit m then o3 D MA l SN C (fac (D 1)) m else 0) (D 1)) l).2) then (some l, fb_sm (fun m => if (2 ^ D 1 - 1).testBit m then o3 D MA l SN C (fac (D 1)) m else 0) (D 1)) else pick (fun l => decide (o5 D MA l SN C (fac (D 1)) = 0)) (fun l => fb_sm (fun m => if (2 ^ D 1 - 1).testBit m then o3 D MA l SN C (fac (D 1)) m else 0) (D 1)) l := fun l => by rw [pick]
  have hP0 : pick (fun l => decide (o5 D MA l SN C (fac (D 1)) = 0)) (fun l => fb_sm (fun m => if (2 ^ D 1 - 1).testBit m then o3 D MA l SN C (fac (D 1)) m else 0) (D 1)) 0 = (none, 0) := rfl
  generalize hP : pick (fun l => decide (o5 D MA l SN C (fac (D 1)) = 0)) (fun l => fb_sm (fun m => if (2 ^ D 1 - 1).testBit m then o3 D MA l SN C (fac (D 1)) m else 0) (D 1)) = P at *
  have loop : ∀ j l h y1 y2 lw tk st sh ru r sn g f a1 a2 a3 a4, l + j = 16 → mj_Vw h0 (wo (wg (mo 0 tr wh (some q) rd F wd ac im lw tk st sh ru rz aw al sd) q D hi er se (MA 1) (MA 3) (MA 4) V r sn g f) a1 a2 a3 a4) h → mj_go sta (mj_Cl sta (d + 5)) m_X10_bestLaw T 26 [some (.ref 151), some (.int (snd (P l).1)), some (.long (lN ((P l).2))), none, some (.int (nI l)), y1, y2] [] h := by
    intro j
    induction j with
    | zero =>
      intro l h y1 y2 lw tk st sh ru r sn g f a1 a2 a3 a4 hl hv
      have hl : l = 16 := by omega
      subst hl
      repeat (first | refine g_px rfl rfl rfl ?_)
      refine g_ic rfl (fun cq => ?_) (fun cq => absurd (cpT (by decide)) cq)
      repeat (first | refine g_px rfl rfl rfl ?_)
      refine g_callV hv [0] 0 rfl rfl rfl rfl rfl rfl rfl rfl (by decide) (s_Mgood sta (d + 4) 0 tr wh (some q) rd F wd ac im lw tk st sh ru rz aw al sd _) (fun v w' h hp hk2 hv => ?_)
      obtain ⟨rfl, rfl⟩ := hp
      subst hT
      exact g_iret hv rfl rfl rfl rfl ⟨rfl, _, _, _, _, _, _, _, _, _, _, _, _, _, rfl⟩
    | succ j ih =>
      intro l h y1 y2 lw tk st sh ru r sn g f a1 a2 a3 a4 hl hv
      have hl16 : l < 16 := by omega
      have hpl := hpl l
      have hxl := hxl l
      have hol := hol l
      have hGl : okG D MA SN C l := ⟨hn, h1, ht, hl16, hW, hA, hK, hsn, hC⟩
      repeat (first | refine g_px rfl rfl rfl ?_)
      refine g_ic rfl (fun cq => ?_) (fun cq => ?_)
      · simp (disch := omega) only [mj_cp, k_6, k_7, k_8, k_9, k_10, k_12, k_15, k_16, k_18, k_20, k_24, k_25, k_26, k_27, k_28, k_32, k_36, k_48, k_57, k_59, k_63, k_74, k_75, k_84, k_90, k_97, k_99, k_100, k_122, k_200, k_255, k_420, k_448, k_720, k_800, k_999, k_bit, k_shl, fa_and, nI_add, bl_1, bl_0, bl_n1, bl_n0, bl_i1, nI_lt0, nI_0le, nI_eq0, nI_eqT, nI_leI, nI_ltI, nI_eq, Nat.not_le, Nat.not_lt, Bool.not_eq_true, Bool.not_eq_false, not_true_eq_false, not_false_eq_true, Decidable.not_not] at cq
        omega
      · repeat (first | refine g_px rfl rfl rfl ?_)
        refine g_callV hv [0, 1, 2, 3, 4, 5, 6, 7, 8, 9, 10, 11, 12, 13] 0 rfl rfl rfl rfl rfl rfl rfl rfl (by decide) (s_MbyLaw sta d 0 tr wh q rd F wd ac im lw tk st sh ru rz aw al sd D hi er se MA V r sn g f a1 a2 a3 a4 L l SN C hV hGl) (fun v w' h hp hk2 hv => ?_)
        obtain ⟨rfl, tk', st', r', g', f', rfl⟩ := hp
        have hv : mj_Vw h0 (wo (wg (mo 0 tr wh (some q) rd F wd ac im (nI l) tk' st' (lN (o5 D MA l SN C (fac (D 1)))) (lN (o6 D MA l SN C 0 0 (fac (D 1)))) rz aw al sd) q D hi er se (MA 1) (MA 3) (MA 4) V r' SN g' f') (z6 (D 1) (o1 D MA l SN C (fac (D 1)))) (z6 (D 1) (o2 D MA l SN C (fac (D 1)))) (z6 (D 1) (o3 D MA l SN C (fac (D 1)))) (z36 (D 1) (o4 D MA l SN C (fac (D 1))))) h := hv
        repeat (first | refine g_px rfl rfl rfl ?_)
        refine g_callV hv [0, 1] 0 rfl rfl rfl rfl rfl rfl rfl rfl (by decide) (s_Meverybody sta (d + 4) 0 tr wh q rd F wd ac im (nI l) tk' st' (lN (o5 D MA l SN C (fac (D 1)))) (lN (o6 D MA l SN C 0 0 (fac (D 1)))) rz aw al sd D hi er se hn) (fun v w' h hp hk2 hv => ?_)
        obtain ⟨rfl, rfl⟩ := hp
        have hv : mj_Vw h0 (wo (wg (mo 0 tr wh (some q) rd F wd ac im (nI l) tk' st' (lN (o5 D MA l SN C (fac (D 1)))) (lN (o6 D MA l SN C 0 0 (fac (D 1)))) rz aw al sd) q D hi er se (MA 1) (MA 3) (MA 4) V r' SN g' f') (z6 (D 1) (o1 D MA l SN C (fac (D 1)))) (z6 (D 1) (o2 D MA l SN C (fac (D 1)))) (z6 (D 1) (o3 D MA l SN C (fac (D 1)))) (z36 (D 1) (o4 D MA l SN C (fac (D 1))))) h := hv
        refine g_callV hv [0, 1, 12] 0 rfl rfl rfl rfl rfl rfl rfl rfl (by decide) (s_MlossesOf sta (d + 3) 0 tr wh q rd F wd ac im (nI l) tk' st' (lN (o5 D MA l SN C (fac (D 1)))) (lN (o6 D MA l SN C 0 0 (fac (D 1)))) rz aw al sd D hi er se (2 ^ D 1 - 1) (o3 D MA l SN C (fac (D 1))) (by omega) hn) (fun v w' h hp hk2 hv => ?_)
        obtain ⟨rfl, rfl⟩ := hp
        have hv : mj_Vw h0 (wo (wg (mo 0 tr wh (some q) rd F wd ac im (nI l) tk' st' (lN (o5 D MA l SN C (fac (D 1)))) (lN (o6 D MA l SN C 0 0 (fac (D 1)))) rz aw al sd) q D hi er se (MA 1) (MA 3) (MA 4) V r' SN g' f') (z6 (D 1) (o1 D MA l SN C (fac (D 1)))) (z6 (D 1) (o2 D MA l SN C (fac (D 1)))) (z6 (D 1) (o3 D MA l SN C (fac (D 1)))) (z36 (D 1) (o4 D MA l SN C (fac (D 1))))) h := hv
        have hnx := ih (l + 1) h (some (.long (lN (fb_sm (fun m => if (2 ^ D 1 - 1).testBit m then o3 D MA l SN C (fac (D 1)) m else 0) (D 1))))) none _ _ _ _ _ _ _ _ _ _ _ _ _ (by omega) hv
        rw [nI_succ, hst l] at hnx
        generalize fb_sm (fun m => if (2 ^ D 1 - 1).testBit m then o3 D MA l SN C (fac (D 1)) m else 0) (D 1) = y at *
        have hv2 := hv
        generalize hoe : o5 D MA l SN C (fac (D 1)) = u at hnx hol hv
        repeat (first | refine g_px rfl rfl rfl ?_ | refine g_get hv 0 rfl rfl rfl rfl ?_)
        refine g_if rfl (fun cq => ?_) (fun cq => ?_)
        · have cq : 0 < lg_cmp (lN u) (lN 0) := cq
          rw [lg_cmp_gt, pk_lLT (by decide) (by omega)] at cq
          rw [if_neg (fun z => by have := of_decide_eq_true z.1; omega)] at hnx
          refine g_run 2 rfl ?_
          exact hnx
        · have cq : ¬ 0 < lg_cmp (lN u) (lN 0) := cq
          rw [lg_cmp_gt, pk_lLT (by decide) (by omega)] at cq
          have hy : decide (u = 0) = true := decide_eq_true (by omega)
          repeat (first | refine g_px rfl rfl rfl ?_)
          refine g_ic rfl (fun cq => ?_) (fun cq => ?_)
          · have cq : snd (P l).1 = (Int8.ofInt (-2)).toInt32 := cq
            rw [snd_n2 (fun q hq => by have := hpl.2 q hq; omega)] at cq
            rw [if_pos ⟨hy, Or.inl cq⟩] at hnx
            refine g_run 6 rfl ?_
            exact hnx
          · have cq : ¬ snd (P l).1 = (Int8.ofInt (-2)).toInt32 := cq
            rw [snd_n2 (fun q hq => by have := hpl.2 q hq; omega)] at cq
            have hno := cq
            repeat (first | refine g_px rfl rfl rfl ?_)
            refine g_if rfl (fun cq => ?_) (fun cq => ?_)
            · have cq : lg_cmp (lN y) (lN (P l).2) < 0 := cq
              rw [lg_cmp_lt, pk_lLT (by omega) (by omega)] at cq
              rw [if_pos ⟨hy, Or.inr cq⟩] at hnx
              refine g_run 6 rfl ?_
              exact hnx
            · have cq : ¬ lg_cmp (lN y) (lN (P l).2) < 0 := cq
              rw [lg_cmp_lt, pk_lLT (by omega) (by omega)] at cq
              rw [if_neg (fun z => z.2.elim hno (fun z => by omega))] at hnx
              refine g_run 3 rfl ?_
              exact hnx
  repeat (first | refine g_px rfl rfl rfl ?_)
  refine g_put hv 0 rfl rfl rfl rfl rfl rfl (fun h hv => ?_)
  have hv : mj_Vw h0 (wo (wg (mo 0 tr wh (some q) rd F wd ac im lw tk st sh ru rz aw al sd) q D hi er se (MA 1) (MA 3) (MA 4) V r sn g f) a1 a2 a3 a4) h := hv
  refine g_run 1 rfl ?_
  refine g_get hv 0 rfl rfl rfl rfl ?_
  refine g_run 7 rfl ?_
  have hl := loop 16 0 h none none _ _ _ _ _ _ _ _ _ _ _ _ _ (by omega) hv
  rw [hP0] at hl
  exact hl
theorem s_MtoSpare (L : Nat) (SN C : Nat → Nat) (hV : vN V L SN C) (hG : okG D MA SN C L) : mj_Sx sta (d + 6) 241 [.ref 151] (wo (wg (mo th tr wh (some q) rd F wd ac im lw tk st sh ru rz aw al sd) q D hi er se (MA 1) (MA 3) (MA 4) V r sn g f) a1 a2 a3 a4) (fun v w => v = some (.int (snd (pick (fun s => !L.testBit s) (fun s => fb_sm (fun m => if (2 ^ D 1 - 1).testBit m then o3 D MA (L ||| 2 ^ s) SN C (fac (D 1)) m else 0) (D 1)) 4).1)) ∧ ∃ lw tk st sh ru r sn g f a1 a2 a3 a4, w = wo (wg (mo 0 0 (-1) (some q) rd F wd ac im lw tk st sh ru rz aw al sd) q D hi er se (MA 1) (MA 3) (MA 4) V r sn g f) a1 a2 a3 a4) := by
  refine mj_Sx.mk m_X10_toSpare (by decide) n_X10_toSpare rfl (fun h0 hv => ?_)
  generalize hT : mj_rx m_X10_toSpare h0 _ _ = T
  have hG2 := hG
  obtain ⟨hn, h1, ht, hL, hW, hA, hK, hsn, hC⟩ := hG2
  have hp6 := p6 hn
  have hxl : ∀ s, fb_sm (fun m => if (2 ^ D 1 - 1).testBit m then o3 D MA (L ||| 2 ^ s) SN C (fac (D 1)) m else 0) (D 1) < 5000000 := fun s => by
    have := ls_le (n := D 1) (cl := 2 ^ D 1 - 1) (x := o3 D MA (L ||| 2 ^ s) SN C (fac (D 1))) hn (o3_le hn hW hA)
    omega
  have hpl := pick_lt (ok := fun s => !L.testBit s) (L := fun s => fb_sm (fun m => if (2 ^ D 1 - 1).testBit m then o3 D MA (L ||| 2 ^ s) SN C (fac (D 1)) m else 0) (D 1)) (c := 5000000) (by decide) hxl
  have hst : ∀ s, pick (fun s => !L.testBit s) (fun s => fb_sm (fun m => if (2 ^ D 1 - 1).testBit m then o3 D MA (L ||| 2 ^ s) SN C (fac (D 1)) m else 0) (D 1)) (s + 1) = if (!L.testBit s) = true ∧ ((pick (fun s => !L.testBit s) (fun s => fb_sm (fun m => if (2 ^ D 1 - 1).testBit m then o3 D MA (L ||| 2 ^ s) SN C (fac (D 1)) m else 0) (D 1)) s).1 = none ∨ fb_sm (fun m => if (2 ^ D 1 - 1).testBit m then o3 D MA (L ||| 2 ^ s) SN C (fac (D 1)) m else 0) (D 1) < (pick (fun s => !L.testBit s) (fun s => fb_sm (fun m => if (2 ^ D 1 - 1).testBit m then o3 D MA (L ||| 2 ^ s) SN C (fac (D 1)) m else 0) (D 1)) s).2) then (some s, fb_sm (fun m => if (2 ^ D 1 - 1).testBit m then o3 D MA (L ||| 2 ^ s) SN C (fac (D 1)) m else 0) (D 1)) else pick (fun s => !L.testBit s) (fun s => fb_sm (fun m => if (2 ^ D 1 - 1).testBit m then o3 D MA (L ||| 2 ^ s) SN C (fac (D 1)) m else 0) (D 1)) s := fun s => by rw [pick]
  have hP0 : pick (fun s => !L.testBit s) (fun s => fb_sm (fun m => if (2 ^ D 1 - 1).testBit m then o3 D MA (L ||| 2 ^ s) SN C (fac (D 1)) m else 0) (D 1)) 0 = (none, 0) := rfl
  generalize hP : pick (fun s => !L.testBit s) (fun s => fb_sm (fun m => if (2 ^ D 1 - 1).testBit m then o3 D MA (L ||| 2 ^ s) SN C (fac (D 1)) m else 0) (D 1)) = P at *
  have loop : ∀ j s h y1 y2 lw tk st sh ru r sn g f a1 a2 a3 a4, s + j = 4 → mj_Vw h0 (wo (wg (mo 0 tr wh (some q) rd F wd ac im lw tk st sh ru rz aw al sd) q D hi er se (MA 1) (MA 3) (MA 4) V r sn g f) a1 a2 a3 a4) h → mj_go sta (mj_Cl sta (d + 5)) m_X10_toSpare T 26 [some (.ref 151), some (.int (snd (P s).1)), some (.long (lN ((P s).2))), none, some (.int (nI s)), y1, y2] [] h := by
    intro j
    induction j with
    | zero =>
      intro s h y1 y2 lw tk st sh ru r sn g f a1 a2 a3 a4 hl hv
      have hl : s = 4 := by omega
      subst hl
      repeat (first | refine g_px rfl rfl rfl ?_)
      refine g_ic rfl (fun cq => ?_) (fun cq => absurd (cpT (by decide)) cq)
      repeat (first | refine g_px rfl rfl rfl ?_)
      refine g_callV hv [0] 0 rfl rfl rfl rfl rfl rfl rfl rfl (by decide) (s_Mgood sta (d + 4) 0 tr wh (some q) rd F wd ac im lw tk st sh ru rz aw al sd _) (fun v w' h hp hk2 hv => ?_)
      obtain ⟨rfl, rfl⟩ := hp
      subst hT
      exact g_iret hv rfl rfl rfl rfl ⟨rfl, _, _, _, _, _, _, _, _, _, _, _, _, _, rfl⟩
    | succ j ih =>
      intro s h y1 y2 lw tk st sh ru r sn g f a1 a2 a3 a4 hl hv
      have hs4 : s < 4 := by omega
      have hpl := hpl s
      have hxl := hxl s
      have hst := hst s
      have hlw : L ||| 2 ^ s < 16 := Nat.or_lt_two_pow (n := 4) hL (Nat.pow_lt_pow_right (by decide) hs4)
      have hGl : okG D MA SN C (L ||| 2 ^ s) := ⟨hn, h1, ht, hlw, hW, hA, hK, hsn, hC⟩
      repeat (first | refine g_px rfl rfl rfl ?_)
      refine g_ic rfl (fun cq => ?_) (fun cq => ?_)
      · have cq : nI 4 ≤ nI s := cq
        simp (disch := omega) only [mj_cp, k_6, k_7, k_8, k_9, k_10, k_12, k_15, k_16, k_18, k_20, k_24, k_25, k_26, k_27, k_28, k_32, k_36, k_48, k_57, k_59, k_63, k_74, k_75, k_84, k_90, k_97, k_99, k_100, k_122, k_200, k_255, k_420, k_448, k_720, k_800, k_999, k_bit, k_shl, fa_and, nI_add, bl_1, bl_0, bl_n1, bl_n0, bl_i1, nI_lt0, nI_0le, nI_eq0, nI_eqT, nI_leI, nI_ltI, nI_eq, Nat.not_le, Nat.not_lt, Bool.not_eq_true, Bool.not_eq_false, not_true_eq_false, not_false_eq_true, Decidable.not_not] at cq
        omega
      · repeat (first | refine g_px rfl rfl rfl ?_ | refine g_get hv 0 rfl rfl rfl rfl ?_)
        refine g_vI (L := 28) hv 5 (k := 25) (by decide) (by decide) rfl rfl ?_
        rw [hV.1]
        repeat (first | refine g_px rfl rfl rfl ?_)
        refine g_callS hv [] rfl rfl rfl rfl rfl rfl rfl (by decide) (s_Mbit sta (d + 4) L s (by omega) (by omega)) (fun v w' h hp hk2 hv => ?_)
        obtain ⟨rfl, rfl⟩ := hp
        have hv : mj_Vw h0 (wo (wg (mo 0 tr wh (some q) rd F wd ac im lw tk st sh ru rz aw al sd) q D hi er se (MA 1) (MA 3) (MA 4) V r sn g f) a1 a2 a3 a4) h := hv
        refine g_if rfl (fun cq => ?_) (fun cq => ?_)
        · simp (disch := omega) only [mj_cp, k_6, k_7, k_8, k_9, k_10, k_12, k_15, k_16, k_18, k_20, k_24, k_25, k_26, k_27, k_28, k_32, k_36, k_48, k_57, k_59, k_63, k_74, k_75, k_84, k_90, k_97, k_99, k_100, k_122, k_200, k_255, k_420, k_448, k_720, k_800, k_999, k_bit, k_shl, fa_and, nI_add, bl_1, bl_0, bl_n1, bl_n0, bl_i1, nI_lt0, nI_0le, nI_eq0, nI_eqT, nI_leI, nI_ltI, nI_eq, Nat.not_le, Nat.not_lt, Bool.not_eq_true, Bool.not_eq_false, not_true_eq_false, not_false_eq_true, Decidable.not_not] at cq
          have hy : (!L.testBit s) = true := by rw [cq]; rfl
          repeat (first | refine g_px rfl rfl rfl ?_ | refine g_get hv 0 rfl rfl rfl rfl ?_)
          refine g_vI (L := 28) hv 5 (k := 25) (by decide) (by decide) rfl rfl ?_
          rw [hV.1]
          refine g_run 4 rfl ?_
          rw [k_shl (show s < 31 by omega), fa_or]
          refine g_callV hv [0, 1, 2, 3, 4, 5, 6, 7, 8, 9, 10, 11, 12, 13] 0 rfl rfl rfl rfl rfl rfl rfl rfl (by decide) (s_MbyLaw sta d 0 tr wh q rd F wd ac im lw tk st sh ru rz aw al sd D hi er se MA V r sn g f a1 a2 a3 a4 L (L ||| 2 ^ s) SN C hV hGl) (fun v w' h hp hk2 hv => ?_)
          obtain ⟨rfl, tk', st', r', g', f', rfl⟩ := hp
          generalize hll : L ||| 2 ^ s = l at *
          have hv : mj_Vw h0 (wo (wg (mo 0 tr wh (some q) rd F wd ac im (nI l) tk' st' (lN (o5 D MA l SN C (fac (D 1)))) (lN (o6 D MA l SN C 0 0 (fac (D 1)))) rz aw al sd) q D hi er se (MA 1) (MA 3) (MA 4) V r' SN g' f') (z6 (D 1) (o1 D MA l SN C (fac (D 1)))) (z6 (D 1) (o2 D MA l SN C (fac (D 1)))) (z6 (D 1) (o3 D MA l SN C (fac (D 1)))) (z36 (D 1) (o4 D MA l SN C (fac (D 1))))) h := hv
          repeat (first | refine g_px rfl rfl rfl ?_)
          refine g_callV hv [0, 1] 0 rfl rfl rfl rfl rfl rfl rfl rfl (by decide) (s_Meverybody sta (d + 4) 0 tr wh q rd F wd ac im (nI l) tk' st' (lN (o5 D MA l SN C (fac (D 1)))) (lN (o6 D MA l SN C 0 0 (fac (D 1)))) rz aw al sd D hi er se hn) (fun v w' h hp hk2 hv => ?_)
          obtain ⟨rfl, rfl⟩ := hp
          have hv : mj_Vw h0 (wo (wg (mo 0 tr wh (some q) rd F wd ac im (nI l) tk' st' (lN (o5 D MA l SN C (fac (D 1)))) (lN (o6 D MA l SN C 0 0 (fac (D 1)))) rz aw al sd) q D hi er se (MA 1) (MA 3) (MA 4) V r' SN g' f') (z6 (D 1) (o1 D MA l SN C (fac (D 1)))) (z6 (D 1) (o2 D MA l SN C (fac (D 1)))) (z6 (D 1) (o3 D MA l SN C (fac (D 1)))) (z36 (D 1) (o4 D MA l SN C (fac (D 1))))) h := hv
          refine g_callV hv [0, 1, 12] 0 rfl rfl rfl rfl rfl rfl rfl rfl (by decide) (s_MlossesOf sta (d + 3) 0 tr wh q rd F wd ac im (nI l) tk' st' (lN (o5 D MA l SN C (fac (D 1)))) (lN (o6 D MA l SN C 0 0 (fac (D 1)))) rz aw al sd D hi er se (2 ^ D 1 - 1) (o3 D MA l SN C (fac (D 1))) (by omega) hn) (fun v w' h hp hk2 hv => ?_)
          obtain ⟨rfl, rfl⟩ := hp
          have hv : mj_Vw h0 (wo (wg (mo 0 tr wh (some q) rd F wd ac im (nI l) tk' st' (lN (o5 D MA l SN C (fac (D 1)))) (lN (o6 D MA l SN C 0 0 (fac (D 1)))) rz aw al sd) q D hi er se (MA 1) (MA 3) (MA 4) V r' SN g' f') (z6 (D 1) (o1 D MA l SN C (fac (D 1)))) (z6 (D 1) (o2 D MA l SN C (fac (D 1)))) (z6 (D 1) (o3 D MA l SN C (fac (D 1)))) (z36 (D 1) (o4 D MA l SN C (fac (D 1))))) h := hv
          have hnx := ih (s + 1) h (some (.long (lN (fb_sm (fun m => if (2 ^ D 1 - 1).testBit m then o3 D MA l SN C (fac (D 1)) m else 0) (D 1))))) none _ _ _ _ _ _ _ _ _ _ _ _ _ (by omega) hv
          rw [nI_succ, hst] at hnx
          generalize fb_sm (fun m => if (2 ^ D 1 - 1).testBit m then o3 D MA l SN C (fac (D 1)) m else 0) (D 1) = y at *
          repeat (first | refine g_px rfl rfl rfl ?_)
          refine g_ic rfl (fun cq => ?_) (fun cq => ?_)
          · have cq : snd (P s).1 = (Int8.ofInt (-2)).toInt32 := cq
            rw [snd_n2 (fun q hq => by have := hpl.2 q hq; omega)] at cq
            rw [if_pos ⟨hy, Or.inl cq⟩] at hnx
            refine g_run 6 rfl ?_
            exact hnx
          · have cq : ¬ snd (P s).1 = (Int8.ofInt (-2)).toInt32 := cq
            rw [snd_n2 (fun q hq => by have := hpl.2 q hq; omega)] at cq
            have hno := cq
            repeat (first | refine g_px rfl rfl rfl ?_)
            refine g_if rfl (fun cq => ?_) (fun cq => ?_)
            · have cq : lg_cmp (lN y) (lN (P s).2) < 0 := cq
              rw [lg_cmp_lt, pk_lLT (by omega) (by omega)] at cq
              rw [if_pos ⟨hy, Or.inr cq⟩] at hnx
              refine g_run 6 rfl ?_
              exact hnx
            · have cq : ¬ lg_cmp (lN y) (lN (P s).2) < 0 := cq
              rw [lg_cmp_lt, pk_lLT (by omega) (by omega)] at cq
              rw [if_neg (fun z => z.2.elim hno (fun z => by omega))] at hnx
              refine g_run 3 rfl ?_
              exact hnx
        · have cq : ¬ bl (L.testBit s) = 0 := cq
          rw [bl_0, Bool.not_eq_false] at cq
          have hnx := ih (s + 1) h y1 y2 _ _ _ _ _ _ _ _ _ _ _ _ _ (by omega) hv
          rw [nI_succ, hst, if_neg (by simp [cq])] at hnx
          refine g_run 3 rfl ?_
          exact hnx
  repeat (first | refine g_px rfl rfl rfl ?_)
  refine g_put hv 0 rfl rfl rfl rfl rfl rfl (fun h hv => ?_)
  have hv : mj_Vw h0 (wo (wg (mo 0 tr wh (some q) rd F wd ac im lw tk st sh ru rz aw al sd) q D hi er se (MA 1) (MA 3) (MA 4) V r sn g f) a1 a2 a3 a4) h := hv
  refine g_run 1 rfl ?_
  refine g_get hv 0 rfl rfl rfl rfl ?_
  refine g_run 7 rfl ?_
  have hl := loop 4 0 h none none _ _ _ _ _ _ _ _ _ _ _ _ _ (by omega) hv
  rw [hP0] at hl
  exact hl
end Mj
