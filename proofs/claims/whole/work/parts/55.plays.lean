/-! the reference: as now, the cheapest, a row played -/
abbrev wg (m : Nat × va_E) (q : Nat) (D : Nat → Nat) (hi er se : Int32) (W A K : Nat → Nat) (V : Nat → Int32) (r sn : Nat → Nat) (g f : Nat → Option Nat) : mj_W := [m, mdh q D hi er se, (q + 2, an W), (q + 4, an A), (q + 5, an K), (153, aI 28 V), (156, an r), (157, an sn), (158, sq g), (159, sq f)]
theorem z_add (k : Nat) : Int32.ofInt 0 + nI k = nI k := by
  show nI 0 + nI k = nI k
  rw [nI_add, Nat.zero_add]
theorem snd_eq {o : Option Nat} {m : Nat} (hm : m < 1000) (ho : ∀ q, o = some q → q < 1000) : snd o = nI m ↔ o = some m := by
  cases o with
  | none => exact ⟨fun h => by
      have h2 : (snd none).toInt = (nI m).toInt := by rw [h]
      rw [nI_toInt (by omega)] at h2
      have h3 : (snd none).toInt = -2 := by decide
      omega, fun h => by cases h⟩
  | some q => exact ⟨fun h => by rw [(nI_eq (by have := ho q rfl; omega) (by omega)).mp h], fun h => by cases h; rfl⟩
section Mg
variable (sta : mj_S) (d : Nat) (th tr wh : Int32) (q : Nat) (rd : Option Nat) (F : Nat → Int32) (wd : Int64) (ac im lw tk st : Int32) (sh ru : Int64) (rz aw al sd : Int32)
theorem s_MasNow (V : Nat → Int32) (L : Nat) (SN sn : Nat → Nat) (hL : V 25 = nI L) (hS : ∀ i, i < 6 → V i = nI (SN i)) : mj_Sx sta (d + 1) 200 [.ref 151] [(mo th tr wh (some q) rd F wd ac im lw tk st sh ru rz aw al sd), (153, aI 28 V), (157, an sn)] (fun v w => v = none ∧ w = [(mo th tr wh (some q) rd F wd ac im (nI L) tk st sh ru rz aw al sd), (153, aI 28 V), (157, an SN)]) := by
  refine mj_Sx.mk m_X10_asNow (by decide) n_X10_asNow rfl (fun h0 hv => ?_)
  generalize hT : mj_rx m_X10_asNow h0 _ _ = T
  repeat (first | refine g_px rfl rfl rfl ?_ | refine g_get hv 0 rfl rfl rfl rfl ?_)
  refine g_vI (L := 28) hv 1 (k := 25) (by decide) (by decide) rfl rfl ?_
  rw [hL]
  refine g_put hv 0 rfl rfl rfl rfl rfl rfl (fun h hv => ?_)
  have hv : mj_Vw h0 ([(mo th tr wh (some q) rd F wd ac im (nI L) tk st sh ru rz aw al sd), (153, aI 28 V), (157, an sn)]) h := hv
  have loop : ∀ j k h, k + j = 6 → mj_Vw h0 [(mo th tr wh (some q) rd F wd ac im (nI L) tk st sh ru rz aw al sd), (153, aI 28 V), (157, an (mix k sn SN))] h → mj_go sta (mj_Cl sta d) m_X10_asNow T 13 [some (.ref 151), some (.int (nI k))] [] h := by
    intro j
    induction j with
    | zero =>
      intro k h hk hv
      have hk : k = 6 := by omega
      subst hk
      repeat (first | refine g_px rfl rfl rfl ?_)
      refine g_ic rfl (fun cq => ?_) (fun cq => absurd (cpT (by decide)) cq)
      rw [an_mix] at hv
      subst hT
      exact g_vret hv rfl rfl rfl ⟨rfl, rfl⟩
    | succ j ih =>
      intro k h hk hv
      repeat (first | refine g_px rfl rfl rfl ?_)
      refine g_ic rfl (fun cq => ?_) (fun cq => ?_)
      · simp (disch := omega) only [mj_cp, k_6, k_7, k_8, k_9, k_10, k_12, k_15, k_16, k_18, k_20, k_24, k_25, k_26, k_27, k_28, k_32, k_36, k_48, k_57, k_59, k_63, k_74, k_75, k_84, k_90, k_97, k_99, k_100, k_122, k_200, k_255, k_420, k_448, k_720, k_800, k_999, k_bit, k_shl, fa_and, nI_add, bl_1, bl_0, bl_n1, bl_n0, bl_i1, nI_lt0, nI_0le, nI_eq0, nI_eqT, nI_leI, nI_ltI, nI_eq, Nat.not_le, Nat.not_lt, Bool.not_eq_true, Bool.not_eq_false, not_true_eq_false, not_false_eq_true, Decidable.not_not] at cq
        omega
      · repeat (first | refine g_px rfl rfl rfl ?_ | refine g_get hv 0 rfl rfl rfl rfl ?_)
        rw [z_add]
        refine g_vI (L := 28) hv 1 (k := k) (by omega) (by decide) rfl rfl ?_
        rw [hS k (by omega)]
        refine g_nst hv 2 (k := k) (by omega) rfl rfl (fun h hv => ?_)
        rw [mix_up] at hv
        refine g_run 2 rfl ?_
        have hnx := ih (k + 1) h (by omega) hv
        rw [nI_succ] at hnx
        exact hnx
  refine g_run 2 rfl ?_
  exact loop 6 0 h (by omega) (by rw [mix_0]; exact hv)
variable (D : Nat → Nat) (hi er se : Int32) (W A K : Nat → Nat) (V : Nat → Int32) (r sn : Nat → Nat) (g f : Nat → Option Nat)
theorem s_Mcheapest (m bar : Nat) (C : Nat → Nat) (hV : ∀ i, i < 6 → V (6 + i) = nI (C i)) (hn : D 1 ≤ 6) (hm : m < 6) (hbar : bar < 64) (hW : bd 1000 W) (hA : bd 1000 A) (hsn : bd 4 sn) (hC : bd 1000 C) : mj_Sx sta (d + 2) 201 [.ref 151, (.int (nI m)), (.int (nI bar))] [(mo th tr wh (some q) rd F wd ac im lw tk st sh ru rz aw al sd), mdh q D hi er se, (q + 2, an W), (q + 4, an A), (153, aI 28 V), (157, an sn)] (fun v w => v = some (.int (snd (chn (okn (bar ||| 2 ^ m) sn A (C m) (W m)) A (D 1)))) ∧ w = [(mo th tr wh (some q) rd F wd ac im lw tk st sh ru rz aw al sd), mdh q D hi er se, (q + 2, an W), (q + 4, an A), (153, aI 28 V), (157, an sn)]) := by
  refine mj_Sx.mk m_X10_cheapest (by decide) n_X10_cheapest rfl (fun h0 hv => ?_)
  generalize hT : mj_rx m_X10_cheapest h0 _ _ = T
  have hWm := hW m
  have hCm := hC m
  generalize hok : okn (bar ||| 2 ^ m) sn A (C m) (W m) = ok at hT
  have okd : ∀ k, ok k = (!(bar.testBit k || decide (k = m)) && (decide (sn k ≠ 3) && (decide (A k ≤ C m) && decide (A k < W m)))) := by
    intro k
    rw [← hok, okn, fb_bit_set]
  have loop : ∀ j k h, k + j = D 1 → mj_Vw h0 [(mo th tr wh (some q) rd F wd ac im lw tk st sh ru rz aw al sd), mdh q D hi er se, (q + 2, an W), (q + 4, an A), (153, aI 28 V), (157, an sn)] h → mj_go sta (mj_Cl sta (d + 1)) m_X10_cheapest T 6 [some (.ref 151), some (.int (nI m)), some (.int (nI bar)), some (.int (snd (chn ok A k))), some (.int (nI k))] [] h := by
    intro j
    induction j with
    | zero =>
      intro k h hk hv
      have hk : k = D 1 := by omega
      subst hk
      repeat (first | refine g_px rfl rfl rfl ?_ | refine g_get hv 0 rfl rfl rfl rfl ?_ | refine g_get hv 1 rfl rfl rfl rfl ?_)
      refine g_ic rfl (fun cq => ?_) (fun cq => ?_)
      · repeat (first | refine g_px rfl rfl rfl ?_)
        subst hT
        exact g_iret hv rfl rfl rfl rfl ⟨rfl, rfl⟩
      · simp (disch := omega) only [mj_cp, k_6, k_7, k_8, k_9, k_10, k_12, k_15, k_16, k_18, k_20, k_24, k_25, k_26, k_27, k_28, k_32, k_36, k_48, k_57, k_59, k_63, k_74, k_75, k_84, k_90, k_97, k_99, k_100, k_122, k_200, k_255, k_420, k_448, k_720, k_800, k_999, k_bit, k_shl, fa_and, nI_add, bl_1, bl_0, bl_n1, bl_n0, bl_i1, nI_lt0, nI_0le, nI_eq0, nI_eqT, nI_leI, nI_ltI, nI_eq, Nat.not_le, Nat.not_lt, Bool.not_eq_true, Bool.not_eq_false, not_true_eq_false, not_false_eq_true, Decidable.not_not] at cq
        omega
    | succ j ih =>
      intro k h hk hv
      have hk6 : k < 6 := by omega
      have hAk := hA k
      have hsk := hsn k
      have hsm : ∀ p, chn ok A k = some p → p < 6 := fun p hp => by have := (chn_ok hp).1; omega
      have next : ∀ o h, o = chn ok A (k + 1) → mj_Vw h0 [(mo th tr wh (some q) rd F wd ac im lw tk st sh ru rz aw al sd), mdh q D hi er se, (q + 2, an W), (q + 4, an A), (153, aI 28 V), (157, an sn)] h → mj_go sta (mj_Cl sta (d + 1)) m_X10_cheapest T 122 [some (.ref 151), some (.int (nI m)), some (.int (nI bar)), some (.int (snd o)), some (.int (nI k))] [] h := by
        intro o h ho hv
        subst ho
        refine g_run 2 rfl ?_
        have hnx := ih (k + 1) h (by omega) hv
        rw [nI_succ] at hnx
        exact hnx
      have skip : ok k = false → chn ok A k = chn ok A (k + 1) := by
        intro hno
        rw [chn]
        cases chn ok A k <;> simp [hno]
      repeat (first | refine g_px rfl rfl rfl ?_ | refine g_get hv 0 rfl rfl rfl rfl ?_ | refine g_get hv 1 rfl rfl rfl rfl ?_)
      refine g_ic rfl (fun cq => ?_) (fun cq => ?_)
      · simp (disch := omega) only [mj_cp, k_6, k_7, k_8, k_9, k_10, k_12, k_15, k_16, k_18, k_20, k_24, k_25, k_26, k_27, k_28, k_32, k_36, k_48, k_57, k_59, k_63, k_74, k_75, k_84, k_90, k_97, k_99, k_100, k_122, k_200, k_255, k_420, k_448, k_720, k_800, k_999, k_bit, k_shl, fa_and, nI_add, bl_1, bl_0, bl_n1, bl_n0, bl_i1, nI_lt0, nI_0le, nI_eq0, nI_eqT, nI_leI, nI_ltI, nI_eq, Nat.not_le, Nat.not_lt, Bool.not_eq_true, Bool.not_eq_false, not_true_eq_false, not_false_eq_true, Decidable.not_not] at cq
        omega
      · repeat (first | refine g_px rfl rfl rfl ?_)
        refine g_callS hv [] rfl rfl rfl rfl rfl rfl rfl (by decide) (s_Mbit sta d bar k (by omega) (by omega)) (fun v w' h hp hk2 hv => ?_)
        obtain ⟨rfl, rfl⟩ := hp
        refine g_if rfl (fun cq => ?_) (fun cq => ?_)
        · have cq : ¬ bl (bar.testBit k) = 0 := cq
          rw [bl_0, Bool.not_eq_false] at cq
          exact next _ h (skip (by rw [okd, cq]; rfl)) hv
        · simp (disch := omega) only [mj_cp, k_6, k_7, k_8, k_9, k_10, k_12, k_15, k_16, k_18, k_20, k_24, k_25, k_26, k_27, k_28, k_32, k_36, k_48, k_57, k_59, k_63, k_74, k_75, k_84, k_90, k_97, k_99, k_100, k_122, k_200, k_255, k_420, k_448, k_720, k_800, k_999, k_bit, k_shl, fa_and, nI_add, bl_1, bl_0, bl_n1, bl_n0, bl_i1, nI_lt0, nI_0le, nI_eq0, nI_eqT, nI_leI, nI_ltI, nI_eq, Nat.not_le, Nat.not_lt, Bool.not_eq_true, Bool.not_eq_false, not_true_eq_false, not_false_eq_true, Decidable.not_not] at cq
          have hb := cq
          repeat (first | refine g_px rfl rfl rfl ?_)
          refine g_ic rfl (fun cq => ?_) (fun cq => ?_)
          · simp (disch := omega) only [mj_cp, k_6, k_7, k_8, k_9, k_10, k_12, k_15, k_16, k_18, k_20, k_24, k_25, k_26, k_27, k_28, k_32, k_36, k_48, k_57, k_59, k_63, k_74, k_75, k_84, k_90, k_97, k_99, k_100, k_122, k_200, k_255, k_420, k_448, k_720, k_800, k_999, k_bit, k_shl, fa_and, nI_add, bl_1, bl_0, bl_n1, bl_n0, bl_i1, nI_lt0, nI_0le, nI_eq0, nI_eqT, nI_leI, nI_ltI, nI_eq, Nat.not_le, Nat.not_lt, Bool.not_eq_true, Bool.not_eq_false, not_true_eq_false, not_false_eq_true, Decidable.not_not] at cq
            exact next _ h (skip (by rw [okd, decide_eq_true cq, Bool.or_true]; rfl)) hv
          · simp (disch := omega) only [mj_cp, k_6, k_7, k_8, k_9, k_10, k_12, k_15, k_16, k_18, k_20, k_24, k_25, k_26, k_27, k_28, k_32, k_36, k_48, k_57, k_59, k_63, k_74, k_75, k_84, k_90, k_97, k_99, k_100, k_122, k_200, k_255, k_420, k_448, k_720, k_800, k_999, k_bit, k_shl, fa_and, nI_add, bl_1, bl_0, bl_n1, bl_n0, bl_i1, nI_lt0, nI_0le, nI_eq0, nI_eqT, nI_leI, nI_ltI, nI_eq, Nat.not_le, Nat.not_lt, Bool.not_eq_true, Bool.not_eq_false, not_true_eq_false, not_false_eq_true, Decidable.not_not] at cq
            have hkm := cq
            repeat (first | refine g_px rfl rfl rfl ?_ | refine g_get hv 0 rfl rfl rfl rfl ?_)
            refine g_n6 hv 5 hk6 rfl rfl ?_
            repeat (first | refine g_px rfl rfl rfl ?_)
            refine g_ic rfl (fun cq => ?_) (fun cq => ?_)
            · have cq : nI (sn k) = nI 3 := cq
              rw [nI_eq (by omega) (by decide)] at cq
              exact next _ h (skip (by rw [okd, decide_eq_false (p := sn k ≠ 3) (not_not_intro cq), Bool.false_and, Bool.and_false])) hv
            · have cq : ¬ nI (sn k) = nI 3 := cq
              rw [nI_eq (by omega) (by decide)] at cq
              have hs3 := cq
              repeat (first | refine g_px rfl rfl rfl ?_ | refine g_get hv 0 rfl rfl rfl rfl ?_ | refine g_get hv 1 rfl rfl rfl rfl ?_)
              refine g_n6 hv 3 hk6 rfl rfl ?_
              repeat (first | refine g_px rfl rfl rfl ?_ | refine g_get hv 0 rfl rfl rfl rfl ?_)
              rw [k_6, nI_add]
              refine g_vI (L := 28) hv 4 (k := 6 + m) (by omega) (by decide) rfl rfl ?_
              rw [hV m hm]
              refine g_ic rfl (fun cq => ?_) (fun cq => ?_)
              · simp (disch := omega) only [mj_cp, k_6, k_7, k_8, k_9, k_10, k_12, k_15, k_16, k_18, k_20, k_24, k_25, k_26, k_27, k_28, k_32, k_36, k_48, k_57, k_59, k_63, k_74, k_75, k_84, k_90, k_97, k_99, k_100, k_122, k_200, k_255, k_420, k_448, k_720, k_800, k_999, k_bit, k_shl, fa_and, nI_add, bl_1, bl_0, bl_n1, bl_n0, bl_i1, nI_lt0, nI_0le, nI_eq0, nI_eqT, nI_leI, nI_ltI, nI_eq, Nat.not_le, Nat.not_lt, Bool.not_eq_true, Bool.not_eq_false, not_true_eq_false, not_false_eq_true, Decidable.not_not] at cq
                exact next _ h (skip (by rw [okd, decide_eq_false (p := A k ≤ C m) (by omega), Bool.false_and, Bool.and_false, Bool.and_false])) hv
              · simp (disch := omega) only [mj_cp, k_6, k_7, k_8, k_9, k_10, k_12, k_15, k_16, k_18, k_20, k_24, k_25, k_26, k_27, k_28, k_32, k_36, k_48, k_57, k_59, k_63, k_74, k_75, k_84, k_90, k_97, k_99, k_100, k_122, k_200, k_255, k_420, k_448, k_720, k_800, k_999, k_bit, k_shl, fa_and, nI_add, bl_1, bl_0, bl_n1, bl_n0, bl_i1, nI_lt0, nI_0le, nI_eq0, nI_eqT, nI_leI, nI_ltI, nI_eq, Nat.not_le, Nat.not_lt, Bool.not_eq_true, Bool.not_eq_false, not_true_eq_false, not_false_eq_true, Decidable.not_not] at cq
                have hac := cq
                repeat (first | refine g_px rfl rfl rfl ?_ | refine g_get hv 0 rfl rfl rfl rfl ?_ | refine g_get hv 1 rfl rfl rfl rfl ?_)
                refine g_n6 hv 3 hk6 rfl rfl ?_
                repeat (first | refine g_px rfl rfl rfl ?_ | refine g_get hv 0 rfl rfl rfl rfl ?_ | refine g_get hv 1 rfl rfl rfl rfl ?_)
                refine g_n6 hv 2 hm rfl rfl ?_
                refine g_ic rfl (fun cq => ?_) (fun cq => ?_)
                · simp (disch := omega) only [mj_cp, k_6, k_7, k_8, k_9, k_10, k_12, k_15, k_16, k_18, k_20, k_24, k_25, k_26, k_27, k_28, k_32, k_36, k_48, k_57, k_59, k_63, k_74, k_75, k_84, k_90, k_97, k_99, k_100, k_122, k_200, k_255, k_420, k_448, k_720, k_800, k_999, k_bit, k_shl, fa_and, nI_add, bl_1, bl_0, bl_n1, bl_n0, bl_i1, nI_lt0, nI_0le, nI_eq0, nI_eqT, nI_leI, nI_ltI, nI_eq, Nat.not_le, Nat.not_lt, Bool.not_eq_true, Bool.not_eq_false, not_true_eq_false, not_false_eq_true, Decidable.not_not] at cq
                  have hok1 : ok k = true := by rw [okd, hb, decide_eq_false hkm, decide_eq_true hs3, decide_eq_true (by omega), decide_eq_true cq]; rfl
                  repeat (first | refine g_px rfl rfl rfl ?_)
                  refine g_ic rfl (fun cq => ?_) (fun cq => ?_)
                  · have cq : snd (chn ok A k) = (Int8.ofInt (-2)).toInt32 := cq
                    rw [snd_n2 (fun p hp => by have := hsm p hp; omega)] at cq
                    refine g_run 2 rfl ?_
                    exact next (some k) h (by rw [chn, cq]; simp [hok1]) hv
                  · have cq : ¬ snd (chn ok A k) = (Int8.ofInt (-2)).toInt32 := cq
                    rw [snd_n2 (fun p hp => by have := hsm p hp; omega)] at cq
                    cases e : chn ok A k with
                    | none => exact absurd e cq
                    | some p =>
                      have hp6 := hsm p e
                      have hAp := hA p
                      repeat (first | refine g_px rfl rfl rfl ?_ | refine g_get hv 0 rfl rfl rfl rfl ?_ | refine g_get hv 1 rfl rfl rfl rfl ?_)
                      refine g_n6 hv 3 hk6 rfl rfl ?_
                      repeat (first | refine g_px rfl rfl rfl ?_ | refine g_get hv 0 rfl rfl rfl rfl ?_ | refine g_get hv 1 rfl rfl rfl rfl ?_)
                      refine g_n6 hv 3 (k := p) hp6 rfl rfl ?_
                      refine g_ic rfl (fun cq => ?_) (fun cq => ?_)
                      · simp (disch := omega) only [mj_cp, k_6, k_7, k_8, k_9, k_10, k_12, k_15, k_16, k_18, k_20, k_24, k_25, k_26, k_27, k_28, k_32, k_36, k_48, k_57, k_59, k_63, k_74, k_75, k_84, k_90, k_97, k_99, k_100, k_122, k_200, k_255, k_420, k_448, k_720, k_800, k_999, k_bit, k_shl, fa_and, nI_add, bl_1, bl_0, bl_n1, bl_n0, bl_i1, nI_lt0, nI_0le, nI_eq0, nI_eqT, nI_leI, nI_ltI, nI_eq, Nat.not_le, Nat.not_lt, Bool.not_eq_true, Bool.not_eq_false, not_true_eq_false, not_false_eq_true, Decidable.not_not] at cq
                        have hnx := next (some p) h (by rw [chn, e]; simp [show ¬ A k < A p by omega]) hv
                        exact hnx
                      · simp (disch := omega) only [mj_cp, k_6, k_7, k_8, k_9, k_10, k_12, k_15, k_16, k_18, k_20, k_24, k_25, k_26, k_27, k_28, k_32, k_36, k_48, k_57, k_59, k_63, k_74, k_75, k_84, k_90, k_97, k_99, k_100, k_122, k_200, k_255, k_420, k_448, k_720, k_800, k_999, k_bit, k_shl, fa_and, nI_add, bl_1, bl_0, bl_n1, bl_n0, bl_i1, nI_lt0, nI_0le, nI_eq0, nI_eqT, nI_leI, nI_ltI, nI_eq, Nat.not_le, Nat.not_lt, Bool.not_eq_true, Bool.not_eq_false, not_true_eq_false, not_false_eq_true, Decidable.not_not] at cq
                        refine g_run 2 rfl ?_
                        exact next (some k) h (by rw [chn, e]; simp [hok1, show A k < A p by omega]) hv
                · simp (disch := omega) only [mj_cp, k_6, k_7, k_8, k_9, k_10, k_12, k_15, k_16, k_18, k_20, k_24, k_25, k_26, k_27, k_28, k_32, k_36, k_48, k_57, k_59, k_63, k_74, k_75, k_84, k_90, k_97, k_99, k_100, k_122, k_200, k_255, k_420, k_448, k_720, k_800, k_999, k_bit, k_shl, fa_and, nI_add, bl_1, bl_0, bl_n1, bl_n0, bl_i1, nI_lt0, nI_0le, nI_eq0, nI_eqT, nI_leI, nI_ltI, nI_eq, Nat.not_le, Nat.not_lt, Bool.not_eq_true, Bool.not_eq_false, not_true_eq_false, not_false_eq_true, Decidable.not_not] at cq
                  refine g_run 1 rfl ?_
                  exact next _ h (skip (by rw [okd, decide_eq_false (p := A k < W m) (by omega), Bool.and_false, Bool.and_false, Bool.and_false])) hv
  refine g_run 4 rfl ?_
  exact loop (D 1) 0 h0 (by omega) hv
/-- rows of those called are laid empty -/
def clr (r : Nat → Nat) (g : Nat → Option Nat) : Nat → Nat → Option Nat
  | 0 => g
  | k + 1 => va_up (clr r g k) (r k) none
theorem clr_at {r : Nat → Nat} {g : Nat → Option Nat} : ∀ k m, clr r g k m = none ∧ (∃ i, i < k ∧ r i = m) ∨ clr r g k m = g m ∧ ¬ ∃ i, i < k ∧ r i = m
  | 0, m => Or.inr ⟨rfl, fun ⟨i, hi, _⟩ => by omega⟩
  | k + 1, m => by
    rw [clr]
    unfold va_up
    by_cases h : m = r k
    · rw [if_pos h]; exact Or.inl ⟨rfl, k, by omega, h.symm⟩
    · rw [if_neg h]
      rcases clr_at (r := r) (g := g) k m with ⟨h1, i, hi, e⟩ | ⟨h1, h2⟩
      · exact Or.inl ⟨h1, i, by omega, e⟩
      · refine Or.inr ⟨h1, fun ⟨i, hi, e⟩ => ?_⟩
        by_cases hik : i = k
        · subst hik; exact h e.symm
        · exact h2 ⟨i, by omega, e⟩
theorem clr_n {n : Nat} {r : Nat → Nat} {g : Nat → Option Nat} (hp : prm n r) : clr r g n = mix n g (fun _ => none) := by
  funext m
  unfold mix
  rcases clr_at (r := r) (g := g) n m with ⟨h1, i, hi, e⟩ | ⟨h1, h2⟩
  · rw [h1, if_pos (by rw [← e]; exact hp.1 i hi)]
  · by_cases hm : m < n
    · exact absurd (prm_onto hp hm) h2
    · rw [h1, if_neg hm]
theorem mix_in {α : Type} {n k : Nat} {f f' : Nat → α} {x : α} (hk : k < n) : va_up (mix n f f') k x = mix n f (va_up f' k x) := by
  funext i
  unfold va_up mix
  by_cases h : i = k
  · subst h; simp [hk]
  · simp [h]
theorem s_Mplays (L : Nat) (C : Nat → Nat) (hV : ∀ i, i < 6 → V (6 + i) = nI (C i)) (hp : prm (D 1) r) (hn : D 1 ≤ 6) (ht : D 0 ≤ 6) (hL : L < 16) (hW : bd 1000 W) (hA : bd 1000 A) (hK : bd 64 K) (hsn : bd 4 sn) (hC : bd 1000 C) : mj_Sx sta (d + 3) 202 [.ref 151] (wg (mo th tr wh (some q) rd F wd ac im (nI L) tk st sh ru rz aw al sd) q D hi er se W A K V r sn g f) (fun v w => v = none ∧ w = wg (mo th tr wh (some q) rd F wd ac im (nI L) (nI (rT (D 1) (D 0) L sn K r)) (nI (rS (D 1) (D 0) L sn K W A C r)) sh ru rz aw al sd) q D hi er se W A K V r sn (mix (D 1) g (rG (D 1) (D 0) L sn K W A C r)) (mix (D 1) f (rnf (D 1) (rT (D 1) (D 0) L sn K r) r sn W A C (D 1)))) := by
  refine mj_Sx.mk m_X10_plays (by decide) n_X10_plays rfl (fun h0 hv => ?_)
  generalize hT : mj_rx m_X10_plays h0 _ _ = T
  have hrG := rG_n (t := D 0) (lw := L) (sn := sn) (kin := K) (W := W) (A := A) (C := C) hp
  have hTl : rT (D 1) (D 0) L sn K r < 64 := cms_lt' hn hp (D 1) (Nat.le_refl _)
  have eT : rT (D 1) (D 0) L sn K r = (cms (D 0) r sn K L (D 1)).1 := rfl
  rw [hrG.1, hrG.2] at hT
  generalize hTT : rT (D 1) (D 0) L sn K r = TT at *
  have loop2 : ∀ j k h o1 o2, k + j = D 1 → mj_Vw h0 (wg (mo th tr wh (some q) rd F wd ac im (nI L) (nI TT) (nI (rns (D 1) TT r sn W A C k).1) sh ru rz aw al sd) q D hi er se W A K V r sn (mix (D 1) g (rns (D 1) TT r sn W A C k).2) (mix (D 1) f (rnf (D 1) TT r sn W A C k))) h → mj_go sta (mj_Cl sta (d + 2)) m_X10_plays T 116 [some (.ref 151), some (.int (nI k)), o1, o2] [] h := by
    intro j
    induction j with
    | zero =>
      intro k h o1 o2 hk hv
      have hk : k = D 1 := by omega
      subst hk
      repeat (first | refine g_px rfl rfl rfl ?_ | refine g_get hv 0 rfl rfl rfl rfl ?_ | refine g_get hv 1 rfl rfl rfl rfl ?_)
      refine g_ic rfl (fun cq => ?_) (fun cq => ?_)
      · subst hT
        exact g_vret hv rfl rfl rfl ⟨rfl, rfl⟩
      · simp (disch := omega) only [mj_cp, k_6, k_7, k_8, k_9, k_10, k_12, k_15, k_16, k_18, k_20, k_24, k_25, k_26, k_27, k_28, k_32, k_36, k_48, k_57, k_59, k_63, k_74, k_75, k_84, k_90, k_97, k_99, k_100, k_122, k_200, k_255, k_420, k_448, k_720, k_800, k_999, k_bit, k_shl, fa_and, nI_add, bl_1, bl_0, bl_n1, bl_n0, bl_i1, nI_lt0, nI_0le, nI_eq0, nI_eqT, nI_leI, nI_ltI, nI_eq, Nat.not_le, Nat.not_lt, Bool.not_eq_true, Bool.not_eq_false, not_true_eq_false, not_false_eq_true, Decidable.not_not] at cq
        omega
    | succ j ih =>
      intro k h o1 o2 hk hv
      have hk6 : k < 6 := by omega
      have hrk := hp.1 k (by omega)
      have hS := rns_lt (T := TT) (r := r) (sn := sn) (W := W) (A := A) (C := C) hn k
      have next : ∀ h o1 o2, mj_Vw h0 (wg (mo th tr wh (some q) rd F wd ac im (nI L) (nI TT) (nI (rns (D 1) TT r sn W A C (k + 1)).1) sh ru rz aw al sd) q D hi er se W A K V r sn (mix (D 1) g (rns (D 1) TT r sn W A C (k + 1)).2) (mix (D 1) f (rnf (D 1) TT r sn W A C (k + 1)))) h → mj_go sta (mj_Cl sta (d + 2)) m_X10_plays T 198 [some (.ref 151), some (.int (nI k)), o1, o2] [] h := by
        intro h o1 o2 hv
        refine g_run 2 rfl ?_
        have hnx := ih (k + 1) h o1 o2 (by omega) hv
        rw [nI_succ] at hnx
        exact hnx
      repeat (first | refine g_px rfl rfl rfl ?_ | refine g_get hv 0 rfl rfl rfl rfl ?_ | refine g_get hv 1 rfl rfl rfl rfl ?_)
      refine g_ic rfl (fun cq => ?_) (fun cq => ?_)
      · simp (disch := omega) only [mj_cp, k_6, k_7, k_8, k_9, k_10, k_12, k_15, k_16, k_18, k_20, k_24, k_25, k_26, k_27, k_28, k_32, k_36, k_48, k_57, k_59, k_63, k_74, k_75, k_84, k_90, k_97, k_99, k_100, k_122, k_200, k_255, k_420, k_448, k_720, k_800, k_999, k_bit, k_shl, fa_and, nI_add, bl_1, bl_0, bl_n1, bl_n0, bl_i1, nI_lt0, nI_0le, nI_eq0, nI_eqT, nI_leI, nI_ltI, nI_eq, Nat.not_le, Nat.not_lt, Bool.not_eq_true, Bool.not_eq_false, not_true_eq_false, not_false_eq_true, Decidable.not_not] at cq
        omega
      · repeat (first | refine g_px rfl rfl rfl ?_ | refine g_get hv 0 rfl rfl rfl rfl ?_)
        refine g_n6 hv 6 hk6 rfl rfl ?_
        repeat (first | refine g_px rfl rfl rfl ?_ | refine g_get hv 0 rfl rfl rfl rfl ?_)
        refine g_callS hv [] rfl rfl rfl rfl rfl rfl rfl (by decide) (s_Mbit sta (d + 1) TT (r k) (by omega) (by omega)) (fun v w' h hp hk2 hv => ?_)
        obtain ⟨rfl, rfl⟩ := hp
        refine g_if rfl (fun cq => ?_) (fun cq => ?_)
        · have cq : ¬ bl (TT.testBit (r k)) = 0 := cq
          rw [bl_0, Bool.not_eq_false] at cq
          have hbt := cq
          have hne : chn (okn (TT ||| (rns (D 1) TT r sn W A C k).1) sn A (C (r k)) (W (r k))) A (D 1) = (rns (D 1) TT r sn W A C (k + 1)).2 (r k) := by
            rw [rns, if_pos cq]
            exact (if_pos rfl).symm
          have hbar : (TT ||| (rns (D 1) TT r sn W A C k).1) ||| 2 ^ r k = TT ||| (rns (D 1) TT r sn W A C k).1 := by
            apply Nat.eq_of_testBit_eq
            intro i
            rw [fb_bit_set, Nat.testBit_or]
            by_cases hi : i = r k
            · subst hi; rw [hbt]; rfl
            · simp [hi]
          repeat (first | refine g_px rfl rfl rfl ?_ | refine g_get hv 0 rfl rfl rfl rfl ?_)
          rw [fa_or]
          refine g_callV hv [0, 1, 2, 3, 5, 7] 0 rfl rfl rfl rfl rfl rfl rfl rfl (by decide) (s_Mcheapest sta d th tr wh q rd F wd ac im (nI L) (nI TT) (nI (rns (D 1) TT r sn W A C k).1) sh ru rz aw al sd D hi er se W A V sn (r k) (TT ||| (rns (D 1) TT r sn W A C k).1) C hV hn (by omega) (or64 _ hTl _ hS).1 hW hA hsn hC) (fun v w' h hp hk2 hv => ?_)
          obtain ⟨rfl, rfl⟩ := hp
          rw [hbar]
          generalize ho : chn (okn (TT ||| (rns (D 1) TT r sn W A C k).1) sn A (C (r k)) (W (r k))) A (D 1) = o
          have hv : mj_Vw h0 (wg (mo th tr wh (some q) rd F wd ac im (nI L) (nI TT) (nI (rns (D 1) TT r sn W A C k).1) sh ru rz aw al sd) q D hi er se W A K V r sn (mix (D 1) g (rns (D 1) TT r sn W A C k).2) (mix (D 1) f (rnf (D 1) TT r sn W A C k))) h := hv
          cases o with
          | none =>
            repeat (first | refine g_px rfl rfl rfl ?_)
            refine g_ic rfl (fun cq => absurd rfl cq) (fun cq => ?_)
            refine g_run 1 rfl ?_
            refine next h _ _ ?_
            have e : (rns (D 1) TT r sn W A C k).2 (r k) = none := by
              cases e : (rns (D 1) TT r sn W A C k).2 (r k) with
              | none => rfl
              | some x =>
                obtain ⟨i, hi, he⟩ := (rnf_iff (T := TT) (sn := sn) (W := W) (A := A) (C := C) hp k (by omega)).2.1 _ _ e
                exact absurd he (hp.2 i k (by omega) (by omega) (by omega))
            rw [rns, if_pos hbt, ho, rnf, if_pos hbt, ho]
            dsimp only
            have e2 : va_up (rns (D 1) TT r sn W A C k).2 (r k) none = (rns (D 1) TT r sn W A C k).2 := by
              funext x
              unfold va_up
              split
              · rename_i e3; rw [e3, e]
              · rfl
            rw [e2]
            exact hv
          | some p =>
            have hpn := (chn_ok ho).1
            repeat (first | refine g_px rfl rfl rfl ?_)
            refine g_ic rfl (fun cq => ?_) (fun cq => absurd (fun z => by have := (snd_n2 (o := some p) (fun x hx => by cases hx; omega)).mp z; cases this) cq)
            repeat (first | refine g_px rfl rfl rfl ?_ | refine g_get hv 0 rfl rfl rfl rfl ?_)
            refine g_sst (o := some p) hv 8 (k := r k) (by omega) rfl rfl (fun h hv => ?_)
            repeat (first | refine g_px rfl rfl rfl ?_ | refine g_get hv 0 rfl rfl rfl rfl ?_)
            refine g_sst (o := some (r k)) hv 9 (k := p) (by omega) rfl rfl (fun h hv => ?_)
            repeat (first | refine g_px rfl rfl rfl ?_ | refine g_get hv 0 rfl rfl rfl rfl ?_)
            rw [show snd (some p) = nI p from rfl, k_shl (show p < 31 by omega), fa_or]
            refine g_put hv 0 rfl rfl rfl rfl rfl rfl (fun h hv => ?_)
            refine next h _ _ ?_
            rw [rns, if_pos hbt, ho, rnf, if_pos hbt, ho]
            dsimp only
            rw [← mix_in hrk, ← mix_in hpn]
            exact hv
        · simp (disch := omega) only [mj_cp, k_6, k_7, k_8, k_9, k_10, k_12, k_15, k_16, k_18, k_20, k_24, k_25, k_26, k_27, k_28, k_32, k_36, k_48, k_57, k_59, k_63, k_74, k_75, k_84, k_90, k_97, k_99, k_100, k_122, k_200, k_255, k_420, k_448, k_720, k_800, k_999, k_bit, k_shl, fa_and, nI_add, bl_1, bl_0, bl_n1, bl_n0, bl_i1, nI_lt0, nI_0le, nI_eq0, nI_eqT, nI_leI, nI_ltI, nI_eq, Nat.not_le, Nat.not_lt, Bool.not_eq_true, Bool.not_eq_false, not_true_eq_false, not_false_eq_true, Decidable.not_not] at cq
          refine g_run 1 rfl ?_
          refine next h _ _ ?_
          rw [rns, if_neg (by rw [cq]; decide), rnf, if_neg (by rw [cq]; decide)]
          exact hv
  have loop1 : ∀ j k h o1 o2, k + j = D 1 → mj_Vw h0 (wg (mo th tr wh (some q) rd F wd ac im (nI L) (nI (cms (D 0) r sn K L k).1) 0 sh ru rz aw al sd) q D hi er se W A K V r sn (clr r g k) (clr r f k)) h → mj_go sta (mj_Cl sta (d + 2)) m_X10_plays T 12 [some (.ref 151), some (.int (nI k)), o1, o2] [] h := by
    intro j
    induction j with
    | zero =>
      intro k h o1 o2 hk hv
      have hk : k = D 1 := by omega
      subst hk
      repeat (first | refine g_px rfl rfl rfl ?_ | refine g_get hv 0 rfl rfl rfl rfl ?_ | refine g_get hv 1 rfl rfl rfl rfl ?_)
      refine g_ic rfl (fun cq => ?_) (fun cq => ?_)
      · refine g_run 2 rfl ?_
        refine loop2 (D 1) 0 h o1 o2 (by omega) ?_
        rw [clr_n hp, clr_n hp, ← eT] at hv
        exact hv
      · simp (disch := omega) only [mj_cp, k_6, k_7, k_8, k_9, k_10, k_12, k_15, k_16, k_18, k_20, k_24, k_25, k_26, k_27, k_28, k_32, k_36, k_48, k_57, k_59, k_63, k_74, k_75, k_84, k_90, k_97, k_99, k_100, k_122, k_200, k_255, k_420, k_448, k_720, k_800, k_999, k_bit, k_shl, fa_and, nI_add, bl_1, bl_0, bl_n1, bl_n0, bl_i1, nI_lt0, nI_0le, nI_eq0, nI_eqT, nI_leI, nI_ltI, nI_eq, Nat.not_le, Nat.not_lt, Bool.not_eq_true, Bool.not_eq_false, not_true_eq_false, not_false_eq_true, Decidable.not_not] at cq
        omega
    | succ j ih =>
      intro k h o1 o2 hk hv
      have hk6 : k < 6 := by omega
      have hrk := hp.1 k (by omega)
      have hTk := cms_lt' (t := D 0) (sn := sn) (kin := K) (lw := L) hn hp k (by omega)
      have hpo := cms_pop (t := D 0) (sn := sn) (kin := K) (lw := L) hn hp k (by omega)
      have hKr := hK (r k)
      have hsr := hsn (r k)
      have next : ∀ h o1 o2, mj_Vw h0 (wg (mo th tr wh (some q) rd F wd ac im (nI L) (nI (cms (D 0) r sn K L (k + 1)).1) 0 sh ru rz aw al sd) q D hi er se W A K V r sn (clr r g (k + 1)) (clr r f (k + 1))) h → mj_go sta (mj_Cl sta (d + 2)) m_X10_plays T 108 [some (.ref 151), some (.int (nI k)), o1, o2] [] h := by
        intro h o1 o2 hv
        refine g_run 2 rfl ?_
        have hnx := ih (k + 1) h o1 o2 (by omega) hv
        rw [nI_succ] at hnx
        exact hnx
      have same : ∀ h o1 o2, ¬ ((cms (D 0) r sn K L k).2 < D 0 ∧ L.testBit (sn (r k)) = false ∧ K (r k) &&& (cms (D 0) r sn K L k).1 = 0) → mj_Vw h0 (wg (mo th tr wh (some q) rd F wd ac im (nI L) (nI (cms (D 0) r sn K L k).1) 0 sh ru rz aw al sd) q D hi er se W A K V r sn (clr r g (k + 1)) (clr r f (k + 1))) h → mj_go sta (mj_Cl sta (d + 2)) m_X10_plays T 108 [some (.ref 151), some (.int (nI k)), o1, o2] [] h := by
        intro h o1 o2 hno hv
        refine next h o1 o2 ?_
        rw [cms, if_neg hno]
        exact hv
      repeat (first | refine g_px rfl rfl rfl ?_ | refine g_get hv 0 rfl rfl rfl rfl ?_ | refine g_get hv 1 rfl rfl rfl rfl ?_)
      refine g_ic rfl (fun cq => ?_) (fun cq => ?_)
      · simp (disch := omega) only [mj_cp, k_6, k_7, k_8, k_9, k_10, k_12, k_15, k_16, k_18, k_20, k_24, k_25, k_26, k_27, k_28, k_32, k_36, k_48, k_57, k_59, k_63, k_74, k_75, k_84, k_90, k_97, k_99, k_100, k_122, k_200, k_255, k_420, k_448, k_720, k_800, k_999, k_bit, k_shl, fa_and, nI_add, bl_1, bl_0, bl_n1, bl_n0, bl_i1, nI_lt0, nI_0le, nI_eq0, nI_eqT, nI_leI, nI_ltI, nI_eq, Nat.not_le, Nat.not_lt, Bool.not_eq_true, Bool.not_eq_false, not_true_eq_false, not_false_eq_true, Decidable.not_not] at cq
        omega
      · repeat (first | refine g_px rfl rfl rfl ?_ | refine g_get hv 0 rfl rfl rfl rfl ?_)
        refine g_n6 hv 6 hk6 rfl rfl ?_
        repeat (first | refine g_px rfl rfl rfl ?_ | refine g_get hv 0 rfl rfl rfl rfl ?_)
        refine g_sst (o := none) hv 8 (k := r k) (by omega) rfl rfl (fun h hv => ?_)
        repeat (first | refine g_px rfl rfl rfl ?_ | refine g_get hv 0 rfl rfl rfl rfl ?_)
        refine g_sst (o := none) hv 9 (k := r k) (by omega) rfl rfl (fun h hv => ?_)
        have hv : mj_Vw h0 (wg (mo th tr wh (some q) rd F wd ac im (nI L) (nI (cms (D 0) r sn K L k).1) 0 sh ru rz aw al sd) q D hi er se W A K V r sn (clr r g (k + 1)) (clr r f (k + 1))) h := hv
        repeat (first | refine g_px rfl rfl rfl ?_ | refine g_get hv 0 rfl rfl rfl rfl ?_)
        refine g_callS hv [] rfl rfl rfl rfl rfl rfl rfl (by decide) (s_Mbits sta (d + 1) _ hTk) (fun v w' h hp hk2 hv => ?_)
        obtain ⟨rfl, rfl⟩ := hp
        have hv : mj_Vw h0 (wg (mo th tr wh (some q) rd F wd ac im (nI L) (nI (cms (D 0) r sn K L k).1) 0 sh ru rz aw al sd) q D hi er se W A K V r sn (clr r g (k + 1)) (clr r f (k + 1))) h := hv
        rw [hpo]
        have h2le := pop_lt (cms (D 0) r sn K L k).1
        repeat (first | refine g_px rfl rfl rfl ?_ | refine g_get hv 0 rfl rfl rfl rfl ?_ | refine g_get hv 1 rfl rfl rfl rfl ?_)
        refine g_ic rfl (fun cq => ?_) (fun cq => ?_)
        · simp (disch := omega) only [mj_cp, k_6, k_7, k_8, k_9, k_10, k_12, k_15, k_16, k_18, k_20, k_24, k_25, k_26, k_27, k_28, k_32, k_36, k_48, k_57, k_59, k_63, k_74, k_75, k_84, k_90, k_97, k_99, k_100, k_122, k_200, k_255, k_420, k_448, k_720, k_800, k_999, k_bit, k_shl, fa_and, nI_add, bl_1, bl_0, bl_n1, bl_n0, bl_i1, nI_lt0, nI_0le, nI_eq0, nI_eqT, nI_leI, nI_ltI, nI_eq, Nat.not_le, Nat.not_lt, Bool.not_eq_true, Bool.not_eq_false, not_true_eq_false, not_false_eq_true, Decidable.not_not] at cq
          exact same h _ _ (fun z => by omega) hv
        · simp (disch := omega) only [mj_cp, k_6, k_7, k_8, k_9, k_10, k_12, k_15, k_16, k_18, k_20, k_24, k_25, k_26, k_27, k_28, k_32, k_36, k_48, k_57, k_59, k_63, k_74, k_75, k_84, k_90, k_97, k_99, k_100, k_122, k_200, k_255, k_420, k_448, k_720, k_800, k_999, k_bit, k_shl, fa_and, nI_add, bl_1, bl_0, bl_n1, bl_n0, bl_i1, nI_lt0, nI_0le, nI_eq0, nI_eqT, nI_leI, nI_ltI, nI_eq, Nat.not_le, Nat.not_lt, Bool.not_eq_true, Bool.not_eq_false, not_true_eq_false, not_false_eq_true, Decidable.not_not] at cq
          have hcnt := cq
          repeat (first | refine g_px rfl rfl rfl ?_ | refine g_get hv 0 rfl rfl rfl rfl ?_)
          refine g_n6 hv 7 (k := r k) (by omega) rfl rfl ?_
          refine g_callS hv [] rfl rfl rfl rfl rfl rfl rfl (by decide) (s_Mbit sta (d + 1) L (sn (r k)) (by omega) (by omega)) (fun v w' h hp hk2 hv => ?_)
          obtain ⟨rfl, rfl⟩ := hp
          have hv : mj_Vw h0 (wg (mo th tr wh (some q) rd F wd ac im (nI L) (nI (cms (D 0) r sn K L k).1) 0 sh ru rz aw al sd) q D hi er se W A K V r sn (clr r g (k + 1)) (clr r f (k + 1))) h := hv
          refine g_if rfl (fun cq => ?_) (fun cq => ?_)
          · have cq : ¬ bl (L.testBit (sn (r k))) = 0 := cq
            rw [bl_0, Bool.not_eq_false] at cq
            exact same h _ _ (fun z => by rw [cq] at z; cases z.2.1) hv
          · simp (disch := omega) only [mj_cp, k_6, k_7, k_8, k_9, k_10, k_12, k_15, k_16, k_18, k_20, k_24, k_25, k_26, k_27, k_28, k_32, k_36, k_48, k_57, k_59, k_63, k_74, k_75, k_84, k_90, k_97, k_99, k_100, k_122, k_200, k_255, k_420, k_448, k_720, k_800, k_999, k_bit, k_shl, fa_and, nI_add, bl_1, bl_0, bl_n1, bl_n0, bl_i1, nI_lt0, nI_0le, nI_eq0, nI_eqT, nI_leI, nI_ltI, nI_eq, Nat.not_le, Nat.not_lt, Bool.not_eq_true, Bool.not_eq_false, not_true_eq_false, not_false_eq_true, Decidable.not_not] at cq
            have hlw := cq
            repeat (first | refine g_px rfl rfl rfl ?_ | refine g_get hv 0 rfl rfl rfl rfl ?_ | refine g_get hv 1 rfl rfl rfl rfl ?_)
            refine g_n6 hv 4 (k := r k) (by omega) rfl rfl ?_
            repeat (first | refine g_px rfl rfl rfl ?_ | refine g_get hv 0 rfl rfl rfl rfl ?_)
            refine g_if rfl (fun cq => ?_) (fun cq => ?_)
            · have cq : ¬ nI (K (r k)) &&& nI (cms (D 0) r sn K L k).1 = 0 := cq
              rw [and0 _ hKr _ hTk] at cq
              exact same h _ _ (fun z => cq z.2.2) hv
            · have cq : ¬ ¬ nI (K (r k)) &&& nI (cms (D 0) r sn K L k).1 = 0 := cq
              rw [and0 _ hKr _ hTk] at cq
              repeat (first | refine g_px rfl rfl rfl ?_ | refine g_get hv 0 rfl rfl rfl rfl ?_)
              rw [k_shl (show r k < 31 by omega), fa_or]
              refine g_put hv 0 rfl rfl rfl rfl rfl rfl (fun h hv => ?_)
              refine next h _ _ ?_
              rw [cms, if_pos ⟨by omega, hlw, Decidable.not_not.mp cq⟩]
              exact hv
  repeat (first | refine g_px rfl rfl rfl ?_)
  refine g_put hv 0 rfl rfl rfl rfl rfl rfl (fun h hv => ?_)
  repeat (first | refine g_px rfl rfl rfl ?_)
  refine g_put hv 0 rfl rfl rfl rfl rfl rfl (fun h hv => ?_)
  refine g_run 2 rfl ?_
  exact loop1 (D 1) 0 h none none (by omega) hv
end Mg
