/-! LowNumber: harm, fills, bestLaw, toSpare -/
section Laws
variable (sta : mj_S) (d : Nat) (tr : Int32) (sl : Bool) (a b : Nat) (D : Nat → Nat) (DA : Nat → Nat → Nat) (N : Nat → Nat) (NA : Nat → Nat → Nat) (g : Nat → Option Nat) (X : CX) (kn fi : Nat) (hm : Nat → Int64)
theorem s_harm (l : Nat) (hl : l < 16) (lo : Bool) (hF : stF sta) (hD : okD D DA) (h1 : 1 ≤ D 1) (hN : okN N NA g) (hX : okX X) (hk : lwk D DA (NA 0) (NA 1) kn fi hm) :
    mj_Sx sta (d + 6) 92 [.ref 0, (.int (nI l)), .int (bl lo)] (wln tr true a b sl D DA N NA g X kn fi hm) (fun v w => v = some (.long (lN (pfr (lsT D DA l (NA 0) (NA 1) (2 ^ D 1 - 1)) (fac (D 1)) lo))) ∧ ∃ X' kn' fi' hm', okX X' ∧ lwk D DA (NA 0) (NA 1) kn' fi' hm' ∧ w = wln 0 true a b sl D DA N NA g X' kn' fi' hm') := by
  refine mj_Sx.mk m_X8_harm (by decide) n_X8_harm rfl (fun h0 hv => ?_)
  generalize hT : mj_rx m_X8_harm h0 _ _ = T
  have hD2 := hD
  obtain ⟨d0, d1, d3, d4, d5, d6, d7, d8, d2, a0, a1, a2, a3, a4, a5⟩ := hD2
  have hW : bd 1000 (DA 1) := bd_le a1 (by decide)
  have hA : bd 1000 (DA 3) := bd_le a3 (by decide)
  repeat (first | refine g_px rfl rfl rfl ?_ | refine g_get hv 0 rfl rfl rfl rfl ?_)
  refine g_if rfl (fun cq => ?_) (fun cq => absurd (show ¬ bl true = 0 by decide) cq)
  repeat (first | refine g_px rfl rfl rfl ?_)
  refine g_callS hv [] rfl rfl rfl rfl rfl rfl rfl (by simp) (s_isLaw sta (d + 4) (nI l)) (fun v w' h hp hk2 hv => ?_)
  obtain ⟨rfl, rfl⟩ := hp
  rw [inR_k hl (by decide)]
  refine g_if rfl (fun cq => ?_) (fun cq => absurd (show ¬ bl true = 0 by decide) cq)
  have hv : mj_Vw h0 (wln tr true a b sl D DA N NA g X kn fi hm) h := hv
  repeat (first | refine g_px rfl rfl rfl ?_)
  refine g_callV hv [0, 1, 2, 3, 4, 5, 6, 7, 8, 9, 10, 11, 12, 13, 14, 15, 16, 17, 18, 19, 20, 21] 0 rfl rfl rfl rfl rfl rfl rfl rfl (by decide) (s_learn sta d tr sl a b D DA N NA g X kn fi hm l hl hF hD h1 hN hX hk) (fun v w' h hp hk2 hv => ?_)
  obtain ⟨rfl, X', kn', fi', hm', hX', hk', hbit, rfl⟩ := hp
  have hv : mj_Vw h0 (wln tr true a b sl D DA N NA g X' kn' fi' hm') h := hv
  repeat (first | refine g_px rfl rfl rfl ?_ | refine g_get hv 0 rfl rfl rfl rfl ?_ | refine g_get hv 20 rfl rfl rfl rfl ?_)
  refine g_lald hv 21 rfl rfl (vp_in_nI hl (by decide)) ?_
  rw [nI_clamp (by omega), ((hk'.2.2 l hl).1 hbit).1]
  have hll := lsT_lt (lw := l) (sn := NA 0) (C := NA 1) (cl := 2 ^ D 1 - 1) d1 hW hA
  repeat (first | refine g_px rfl rfl rfl ?_)
  refine g_callV hv [0, 1] 0 rfl rfl rfl rfl rfl rfl rfl rfl (by decide) (s_odds sta hF (d + 2) (lsT D DA l (NA 0) (NA 1) (2 ^ D 1 - 1)) tr true sl lo a b D d1 (by omega)) (fun v w' h hp hk2 hv => ?_)
  obtain ⟨rfl, rfl⟩ := hp
  subst hT
  exact g_lret hv rfl rfl rfl ⟨rfl, X', kn', fi', hm', hX', hk', rfl⟩
theorem s_fills (l : Nat) (hl : l < 16) (hF : stF sta) (hD : okD D DA) (h1 : 1 ≤ D 1) (hN : okN N NA g) (hX : okX X) (hk : lwk D DA (NA 0) (NA 1) kn fi hm) :
    mj_Sx sta (d + 6) 93 [.ref 0, (.int (nI l))] (wln tr true a b sl D DA N NA g X kn fi hm) (fun v w => v = some (.int (bl (decide (shT D DA l (NA 0) (NA 1) = 0)))) ∧ ∃ X' kn' fi' hm', okX X' ∧ lwk D DA (NA 0) (NA 1) kn' fi' hm' ∧ w = wln 0 true a b sl D DA N NA g X' kn' fi' hm') := by
  refine mj_Sx.mk m_X8_fills (by decide) n_X8_fills rfl (fun h0 hv => ?_)
  generalize hT : mj_rx m_X8_fills h0 _ _ = T
  repeat (first | refine g_px rfl rfl rfl ?_ | refine g_get hv 0 rfl rfl rfl rfl ?_)
  refine g_if rfl (fun cq => ?_) (fun cq => absurd (show ¬ bl true = 0 by decide) cq)
  repeat (first | refine g_px rfl rfl rfl ?_)
  refine g_callS hv [] rfl rfl rfl rfl rfl rfl rfl (by simp) (s_isLaw sta (d + 4) (nI l)) (fun v w' h hp hk2 hv => ?_)
  obtain ⟨rfl, rfl⟩ := hp
  rw [inR_k hl (by decide)]
  refine g_if rfl (fun cq => ?_) (fun cq => absurd (show ¬ bl true = 0 by decide) cq)
  have hv : mj_Vw h0 (wln tr true a b sl D DA N NA g X kn fi hm) h := hv
  repeat (first | refine g_px rfl rfl rfl ?_)
  refine g_callV hv [0, 1, 2, 3, 4, 5, 6, 7, 8, 9, 10, 11, 12, 13, 14, 15, 16, 17, 18, 19, 20, 21] 0 rfl rfl rfl rfl rfl rfl rfl rfl (by decide) (s_learn sta d tr sl a b D DA N NA g X kn fi hm l hl hF hD h1 hN hX hk) (fun v w' h hp hk2 hv => ?_)
  obtain ⟨rfl, X', kn', fi', hm', hX', hk', hbit, rfl⟩ := hp
  have hv : mj_Vw h0 (wln tr true a b sl D DA N NA g X' kn' fi' hm') h := hv
  repeat (first | refine g_px rfl rfl rfl ?_ | refine g_get hv 0 rfl rfl rfl rfl ?_ | refine g_get hv 20 rfl rfl rfl rfl ?_)
  rw [k_bit (by have := hk'.2.1; omega) (by omega), ((hk'.2.2 l hl).1 hbit).2]
  refine g_callV hv [0] 0 rfl rfl rfl rfl rfl rfl rfl rfl (by decide) (s_answer' sta (d + 4) tr true sl a b _) (fun v w' h hp hk2 hv => ?_)
  obtain ⟨rfl, rfl⟩ := hp
  subst hT
  exact g_iret hv rfl rfl rfl rfl ⟨rfl, X', kn', fi', hm', hX', hk', rfl⟩
theorem s_bestLaw (hF : stF sta) (hD : okD D DA) (h1 : 1 ≤ D 1) (hN : okN N NA g) (hX : okX X) (hk : lwk D DA (NA 0) (NA 1) kn fi hm) :
    mj_Sx sta (d + 6) 94 [.ref 0] (wln tr true a b sl D DA N NA g X kn fi hm) (fun v w => v = some (.int (snd (pick (fun l => decide (shT D DA l (NA 0) (NA 1) = 0)) (fun l => lsT D DA l (NA 0) (NA 1) (2 ^ D 1 - 1)) 16).1)) ∧ ∃ X' kn' fi' hm', okX X' ∧ lwk D DA (NA 0) (NA 1) kn' fi' hm' ∧ w = wln 0 true a b sl D DA N NA g X' kn' fi' hm') := by
  refine mj_Sx.mk m_X8_bestLaw (by decide) n_X8_bestLaw rfl (fun h0 hv => ?_)
  generalize hT : mj_rx m_X8_bestLaw h0 _ _ = T
  have hD2 := hD
  obtain ⟨d0, d1, d3, d4, d5, d6, d7, d8, d2, a0, a1, a2, a3, a4, a5⟩ := hD2
  have hW : bd 1000 (DA 1) := bd_le a1 (by decide)
  have hA : bd 1000 (DA 3) := bd_le a3 (by decide)
  have hpl := pick_lt (ok := fun l => decide (shT D DA l (NA 0) (NA 1) = 0)) (L := fun l => lsT D DA l (NA 0) (NA 1) (2 ^ D 1 - 1)) (c := 5000000) (by decide) (fun m => lsT_lt d1 hW hA)
  generalize hP : pick (fun l => decide (shT D DA l (NA 0) (NA 1) = 0)) (fun l => lsT D DA l (NA 0) (NA 1) (2 ^ D 1 - 1)) = P at *
  have loop : ∀ j l h X kn fi hm, l + j = 16 → okX X → lwk D DA (NA 0) (NA 1) kn fi hm → mj_Vw h0 (wln tr true a b sl D DA N NA g X kn fi hm) h → mj_go sta (mj_Cl sta (d + 5)) m_X8_bestLaw T 21 [some (.ref 0), some (.int (snd (P l).1)), some (.long (lN ((P l).2))), none, some (.int (nI l))] [] h := by
    intro j
    induction j with
    | zero =>
      intro l h X kn fi hm hl hX hk hv
      have hl : l = 16 := by omega
      subst hl
      repeat (first | refine g_px rfl rfl rfl ?_)
      refine g_ic rfl (fun cq => ?_) (fun cq => ?_)
      · repeat (first | refine g_px rfl rfl rfl ?_)
        refine g_callV hv [0] 0 rfl rfl rfl rfl rfl rfl rfl rfl (by decide) (s_answer' sta (d + 4) tr true sl a b _) (fun v w' h hp hk2 hv => ?_)
        obtain ⟨rfl, rfl⟩ := hp
        subst hT
        exact g_iret hv rfl rfl rfl rfl ⟨rfl, X, kn, fi, hm, hX, hk, rfl⟩
      · simp (disch := omega) only [mj_cp, k_6, k_7, k_8, k_9, k_10, k_12, k_15, k_16, k_18, k_20, k_24, k_25, k_26, k_27, k_28, k_32, k_36, k_48, k_57, k_59, k_63, k_74, k_75, k_84, k_90, k_97, k_99, k_100, k_122, k_200, k_255, k_420, k_448, k_720, k_800, k_999, k_bit, k_shl, fa_and, nI_add, bl_1, bl_0, bl_n1, bl_n0, bl_i1, nI_lt0, nI_0le, nI_eq0, nI_eqT, nI_leI, nI_ltI, nI_eq, Nat.not_le, Nat.not_lt, Bool.not_eq_true, Bool.not_eq_false, not_true_eq_false, not_false_eq_true, Decidable.not_not] at cq
        omega
    | succ j ih =>
      intro l h X kn fi hm hl hX hk hv
      have hl16 : l < 16 := by omega
      have hpl := hpl l
      have hll := lsT_lt (lw := l) (sn := NA 0) (C := NA 1) (cl := 2 ^ D 1 - 1) d1 hW hA
      repeat (first | refine g_px rfl rfl rfl ?_)
      refine g_ic rfl (fun cq => ?_) (fun cq => ?_)
      · simp (disch := omega) only [mj_cp, k_6, k_7, k_8, k_9, k_10, k_12, k_15, k_16, k_18, k_20, k_24, k_25, k_26, k_27, k_28, k_32, k_36, k_48, k_57, k_59, k_63, k_74, k_75, k_84, k_90, k_97, k_99, k_100, k_122, k_200, k_255, k_420, k_448, k_720, k_800, k_999, k_bit, k_shl, fa_and, nI_add, bl_1, bl_0, bl_n1, bl_n0, bl_i1, nI_lt0, nI_0le, nI_eq0, nI_eqT, nI_leI, nI_ltI, nI_eq, Nat.not_le, Nat.not_lt, Bool.not_eq_true, Bool.not_eq_false, not_true_eq_false, not_false_eq_true, Decidable.not_not] at cq
        omega
      · repeat (first | refine g_px rfl rfl rfl ?_)
        refine g_callV hv [0, 1, 2, 3, 4, 5, 6, 7, 8, 9, 10, 11, 12, 13, 14, 15, 16, 17, 18, 19, 20, 21] 0 rfl rfl rfl rfl rfl rfl rfl rfl (by decide) (s_learn sta d tr sl a b D DA N NA g X kn fi hm l hl16 hF hD h1 hN hX hk) (fun v w' h hp hk2 hv => ?_)
        obtain ⟨rfl, X', kn', fi', hm', hX', hk', hbit, rfl⟩ := hp
        have hv : mj_Vw h0 (wln tr true a b sl D DA N NA g X' kn' fi' hm') h := hv
        obtain ⟨e1, e2⟩ := (hk'.2.2 l hl16).1 hbit
        have hfi := hk'.2.1
        have hnx := ih (l + 1) h X' kn' fi' hm' (by omega) hX' hk' hv
        have hst : P (l + 1) = if decide (shT D DA l (NA 0) (NA 1) = 0) = true ∧ ((P l).1 = none ∨ lsT D DA l (NA 0) (NA 1) (2 ^ D 1 - 1) < (P l).2) then (some l, lsT D DA l (NA 0) (NA 1) (2 ^ D 1 - 1)) else P l := by rw [← hP, pick]
        rw [nI_succ, hst] at hnx
        repeat (first | refine g_px rfl rfl rfl ?_ | refine g_get hv 0 rfl rfl rfl rfl ?_ | refine g_get hv 20 rfl rfl rfl rfl ?_)
        refine g_ic rfl (fun cq => ?_) (fun cq => ?_)
        · simp (disch := omega) only [mj_cp, k_6, k_7, k_8, k_9, k_10, k_12, k_15, k_16, k_18, k_20, k_24, k_25, k_26, k_27, k_28, k_32, k_36, k_48, k_57, k_59, k_63, k_74, k_75, k_84, k_90, k_97, k_99, k_100, k_122, k_200, k_255, k_420, k_448, k_720, k_800, k_999, k_bit, k_shl, fa_and, nI_add, bl_1, bl_0, bl_n1, bl_n0, bl_i1, nI_lt0, nI_0le, nI_eq0, nI_eqT, nI_leI, nI_ltI, nI_eq, Nat.not_le, Nat.not_lt, Bool.not_eq_true, Bool.not_eq_false, not_true_eq_false, not_false_eq_true, Decidable.not_not] at cq
          rw [e2] at cq
          rw [if_neg (fun z => by rw [cq] at z; cases z.1)] at hnx
          refine g_run 2 rfl ?_
          exact hnx
        · simp (disch := omega) only [mj_cp, k_6, k_7, k_8, k_9, k_10, k_12, k_15, k_16, k_18, k_20, k_24, k_25, k_26, k_27, k_28, k_32, k_36, k_48, k_57, k_59, k_63, k_74, k_75, k_84, k_90, k_97, k_99, k_100, k_122, k_200, k_255, k_420, k_448, k_720, k_800, k_999, k_bit, k_shl, fa_and, nI_add, bl_1, bl_0, bl_n1, bl_n0, bl_i1, nI_lt0, nI_0le, nI_eq0, nI_eqT, nI_leI, nI_ltI, nI_eq, Nat.not_le, Nat.not_lt, Bool.not_eq_true, Bool.not_eq_false, not_true_eq_false, not_false_eq_true, Decidable.not_not] at cq
          rw [e2] at cq
          have hy := cq
          repeat (first | refine g_px rfl rfl rfl ?_)
          have take : mj_go sta (mj_Cl sta (d + 5)) m_X8_bestLaw T 71 [some (.ref 0), some (.int (snd (P l).1)), some (.long (lN ((P l).2))), none, some (.int (nI l))] [] h → True := fun _ => trivial
          have tk : ((P l).1 = none ∨ lsT D DA l (NA 0) (NA 1) (2 ^ D 1 - 1) < (P l).2) → mj_go sta (mj_Cl sta (d + 5)) m_X8_bestLaw T 71 [some (.ref 0), some (.int (snd (P l).1)), some (.long (lN ((P l).2))), none, some (.int (nI l))] [] h := by
            intro hc
            rw [if_pos ⟨hy, hc⟩] at hnx
            repeat (first | refine g_px rfl rfl rfl ?_ | refine g_get hv 0 rfl rfl rfl rfl ?_ | refine g_get hv 20 rfl rfl rfl rfl ?_)
            refine g_lald hv 21 rfl rfl (vp_in_nI hl16 (by decide)) ?_
            rw [nI_clamp (by omega), e1]
            refine g_run 3 rfl ?_
            exact hnx
          refine g_ic rfl (fun cq => ?_) (fun cq => ?_)
          · have cq : snd (P l).1 = (Int8.ofInt (-2)).toInt32 := cq
            rw [snd_n2 (fun q hq => by have := hpl.2 q hq; omega)] at cq
            exact tk (Or.inl cq)
          · have cq : ¬ snd (P l).1 = (Int8.ofInt (-2)).toInt32 := cq
            rw [snd_n2 (fun q hq => by have := hpl.2 q hq; omega)] at cq
            have hno := cq
            repeat (first | refine g_px rfl rfl rfl ?_ | refine g_get hv 0 rfl rfl rfl rfl ?_ | refine g_get hv 20 rfl rfl rfl rfl ?_)
            refine g_lald hv 21 rfl rfl (vp_in_nI hl16 (by decide)) ?_
            rw [nI_clamp (by omega), e1]
            repeat (first | refine g_px rfl rfl rfl ?_)
            refine g_if rfl (fun cq => ?_) (fun cq => ?_)
            · have cq : 0 ≤ lg_cmp (lN (lsT D DA l (NA 0) (NA 1) (2 ^ D 1 - 1))) (lN (P l).2) := cq
              rw [lg_cmp_ge, pk_lLE (by omega) (by omega)] at cq
              rw [if_neg (fun z => z.2.elim hno (fun z => by omega))] at hnx
              refine g_run 2 rfl ?_
              exact hnx
            · have cq : ¬ 0 ≤ lg_cmp (lN (lsT D DA l (NA 0) (NA 1) (2 ^ D 1 - 1))) (lN (P l).2) := cq
              rw [lg_cmp_ge, pk_lLE (by omega) (by omega)] at cq
              exact tk (Or.inr (by omega))
  repeat (first | refine g_px rfl rfl rfl ?_ | refine g_get hv 0 rfl rfl rfl rfl ?_)
  refine g_if rfl (fun cq => ?_) (fun cq => absurd (show ¬ bl true = 0 by decide) cq)
  refine g_run 6 rfl ?_
  have hl := loop 16 0 h0 X kn fi hm (by omega) hX hk hv
  rw [← hP] at hl
  exact hl
theorem s_toSpare (hF : stF sta) (hD : okD D DA) (h1 : 1 ≤ D 1) (hN : okN N NA g) (hX : okX X) (hk : lwk D DA (NA 0) (NA 1) kn fi hm) :
    mj_Sx sta (d + 6) 95 [.ref 0] (wln tr true a b sl D DA N NA g X kn fi hm) (fun v w => v = some (.int (snd (pick (fun s => !(N 0).testBit s) (fun s => lsT D DA (N 0 ||| 2 ^ s) (NA 0) (NA 1) (2 ^ D 1 - 1)) 4).1)) ∧ ∃ X' kn' fi' hm', okX X' ∧ lwk D DA (NA 0) (NA 1) kn' fi' hm' ∧ w = wln 0 true a b sl D DA N NA g X' kn' fi' hm') := by
  refine mj_Sx.mk m_X8_toSpare (by decide) n_X8_toSpare rfl (fun h0 hv => ?_)
  generalize hT : mj_rx m_X8_toSpare h0 _ _ = T
  have hD2 := hD
  obtain ⟨d0, d1, d3, d4, d5, d6, d7, d8, d2, a0, a1, a2, a3, a4, a5⟩ := hD2
  have hW : bd 1000 (DA 1) := bd_le a1 (by decide)
  have hA : bd 1000 (DA 3) := bd_le a3 (by decide)
  have hpl := pick_lt (ok := fun s => !(N 0).testBit s) (L := fun s => lsT D DA (N 0 ||| 2 ^ s) (NA 0) (NA 1) (2 ^ D 1 - 1)) (c := 5000000) (by decide) (fun m => lsT_lt d1 hW hA)
  generalize hP : pick (fun s => !(N 0).testBit s) (fun s => lsT D DA (N 0 ||| 2 ^ s) (NA 0) (NA 1) (2 ^ D 1 - 1)) = P at *
  have n0 := hN.1
  have loop : ∀ j s h o X kn fi hm, s + j = 4 → okX X → lwk D DA (NA 0) (NA 1) kn fi hm → mj_Vw h0 (wln tr true a b sl D DA N NA g X kn fi hm) h → mj_go sta (mj_Cl sta (d + 5)) m_X8_toSpare T 21 [some (.ref 0), some (.int (snd (P s).1)), some (.long (lN ((P s).2))), none, some (.int (nI s)), o] [] h := by
    intro j
    induction j with
    | zero =>
      intro s h o X kn fi hm hl hX hk hv
      have hl : s = 4 := by omega
      subst hl
      repeat (first | refine g_px rfl rfl rfl ?_)
      refine g_ic rfl (fun cq => ?_) (fun cq => absurd (show Int32.ofInt 4 ≤ nI 4 by decide) cq)
      repeat (first | refine g_px rfl rfl rfl ?_)
      refine g_callV hv [0] 0 rfl rfl rfl rfl rfl rfl rfl rfl (by decide) (s_answer' sta (d + 4) tr true sl a b _) (fun v w' h hp hk2 hv => ?_)
      obtain ⟨rfl, rfl⟩ := hp
      subst hT
      exact g_iret hv rfl rfl rfl rfl ⟨rfl, X, kn, fi, hm, hX, hk, rfl⟩
    | succ j ih =>
      intro s h o X kn fi hm hl hX hk hv
      have hs4 : s < 4 := by omega
      have hpl := hpl s
      have hlw : N 0 ||| 2 ^ s < 16 := Nat.or_lt_two_pow (n := 4) n0 (Nat.pow_lt_pow_right (by decide) hs4)
      have hll := lsT_lt (lw := N 0 ||| 2 ^ s) (sn := NA 0) (C := NA 1) (cl := 2 ^ D 1 - 1) d1 hW hA
      have hst : P (s + 1) = if (!(N 0).testBit s) = true ∧ ((P s).1 = none ∨ lsT D DA (N 0 ||| 2 ^ s) (NA 0) (NA 1) (2 ^ D 1 - 1) < (P s).2) then (some s, lsT D DA (N 0 ||| 2 ^ s) (NA 0) (NA 1) (2 ^ D 1 - 1)) else P s := by rw [← hP, pick]
      repeat (first | refine g_px rfl rfl rfl ?_)
      refine g_ic rfl (fun cq => ?_) (fun cq => ?_)
      · have cq : nI 4 ≤ nI s := cq
        simp (disch := omega) only [mj_cp, k_6, k_7, k_8, k_9, k_10, k_12, k_15, k_16, k_18, k_20, k_24, k_25, k_26, k_27, k_28, k_32, k_36, k_48, k_57, k_59, k_63, k_74, k_75, k_84, k_90, k_97, k_99, k_100, k_122, k_200, k_255, k_420, k_448, k_720, k_800, k_999, k_bit, k_shl, fa_and, nI_add, bl_1, bl_0, bl_n1, bl_n0, bl_i1, nI_lt0, nI_0le, nI_eq0, nI_eqT, nI_leI, nI_ltI, nI_eq, Nat.not_le, Nat.not_lt, Bool.not_eq_true, Bool.not_eq_false, not_true_eq_false, not_false_eq_true, Decidable.not_not] at cq
        omega
      · repeat (first | refine g_px rfl rfl rfl ?_ | refine g_get hv 0 rfl rfl rfl rfl ?_ | refine g_get hv 8 rfl rfl rfl rfl ?_)
        refine g_if rfl (fun cq => ?_) (fun cq => ?_)
        · simp (disch := omega) only [mj_cp, k_6, k_7, k_8, k_9, k_10, k_12, k_15, k_16, k_18, k_20, k_24, k_25, k_26, k_27, k_28, k_32, k_36, k_48, k_57, k_59, k_63, k_74, k_75, k_84, k_90, k_97, k_99, k_100, k_122, k_200, k_255, k_420, k_448, k_720, k_800, k_999, k_bit, k_shl, fa_and, nI_add, bl_1, bl_0, bl_n1, bl_n0, bl_i1, nI_lt0, nI_0le, nI_eq0, nI_eqT, nI_leI, nI_ltI, nI_eq, Nat.not_le, Nat.not_lt, Bool.not_eq_true, Bool.not_eq_false, not_true_eq_false, not_false_eq_true, Decidable.not_not] at cq
          have hnx := ih (s + 1) h o X kn fi hm (by omega) hX hk hv
          rw [nI_succ, hst, if_neg (by simp [cq])] at hnx
          refine g_run 2 rfl ?_
          exact hnx
        · simp (disch := omega) only [mj_cp, k_6, k_7, k_8, k_9, k_10, k_12, k_15, k_16, k_18, k_20, k_24, k_25, k_26, k_27, k_28, k_32, k_36, k_48, k_57, k_59, k_63, k_74, k_75, k_84, k_90, k_97, k_99, k_100, k_122, k_200, k_255, k_420, k_448, k_720, k_800, k_999, k_bit, k_shl, fa_and, nI_add, bl_1, bl_0, bl_n1, bl_n0, bl_i1, nI_lt0, nI_0le, nI_eq0, nI_eqT, nI_leI, nI_ltI, nI_eq, Nat.not_le, Nat.not_lt, Bool.not_eq_true, Bool.not_eq_false, not_true_eq_false, not_false_eq_true, Decidable.not_not] at cq
          have hy : (!(N 0).testBit s) = true := by rw [cq]; rfl
          refine g_run 1 rfl ?_
          refine g_get hv 0 rfl rfl rfl rfl ?_
          refine g_get hv 8 rfl rfl rfl rfl ?_
          refine g_run 4 rfl ?_
          rw [k_shl (show s < 31 by omega), fa_or]
          repeat (first | refine g_px rfl rfl rfl ?_)
          refine g_callV hv [0, 1, 2, 3, 4, 5, 6, 7, 8, 9, 10, 11, 12, 13, 14, 15, 16, 17, 18, 19, 20, 21] 0 rfl rfl rfl rfl rfl rfl rfl rfl (by decide) (s_learn sta d tr sl a b D DA N NA g X kn fi hm (N 0 ||| 2 ^ s) hlw hF hD h1 hN hX hk) (fun v w' h hp hk2 hv => ?_)
          obtain ⟨rfl, X', kn', fi', hm', hX', hk', hbit, rfl⟩ := hp
          have hv : mj_Vw h0 (wln tr true a b sl D DA N NA g X' kn' fi' hm') h := hv
          obtain ⟨e1, e2⟩ := (hk'.2.2 _ hlw).1 hbit
          have hnx := ih (s + 1) h (some (.int (nI (N 0 ||| 2 ^ s)))) X' kn' fi' hm' (by omega) hX' hk' hv
          rw [nI_succ, hst] at hnx
          generalize N 0 ||| 2 ^ s = lw at *
          have tk : ((P s).1 = none ∨ lsT D DA lw (NA 0) (NA 1) (2 ^ D 1 - 1) < (P s).2) → mj_go sta (mj_Cl sta (d + 5)) m_X8_toSpare T 83 [some (.ref 0), some (.int (snd (P s).1)), some (.long (lN ((P s).2))), none, some (.int (nI s)), some (.int (nI lw))] [] h := by
            intro hc
            rw [if_pos ⟨hy, hc⟩] at hnx
            repeat (first | refine g_px rfl rfl rfl ?_ | refine g_get hv 0 rfl rfl rfl rfl ?_ | refine g_get hv 20 rfl rfl rfl rfl ?_)
            refine g_lald hv 21 rfl rfl (vp_in_nI hlw (by decide)) ?_
            rw [nI_clamp (by omega), e1]
            refine g_run 3 rfl ?_
            exact hnx
          repeat (first | refine g_px rfl rfl rfl ?_)
          refine g_ic rfl (fun cq => ?_) (fun cq => ?_)
          · have cq : snd (P s).1 = (Int8.ofInt (-2)).toInt32 := cq
            rw [snd_n2 (fun q hq => by have := hpl.2 q hq; omega)] at cq
            exact tk (Or.inl cq)
          · have cq : ¬ snd (P s).1 = (Int8.ofInt (-2)).toInt32 := cq
            rw [snd_n2 (fun q hq => by have := hpl.2 q hq; omega)] at cq
            have hno := cq
            repeat (first | refine g_px rfl rfl rfl ?_ | refine g_get hv 0 rfl rfl rfl rfl ?_ | refine g_get hv 20 rfl rfl rfl rfl ?_)
            refine g_lald hv 21 rfl rfl (vp_in_nI hlw (by decide)) ?_
            rw [nI_clamp (by omega), e1]
            repeat (first | refine g_px rfl rfl rfl ?_)
            refine g_if rfl (fun cq => ?_) (fun cq => ?_)
            · have cq : 0 ≤ lg_cmp (lN (lsT D DA lw (NA 0) (NA 1) (2 ^ D 1 - 1))) (lN (P s).2) := cq
              rw [lg_cmp_ge, pk_lLE (by omega) (by omega)] at cq
              rw [if_neg (fun z => z.2.elim hno (fun z => by omega))] at hnx
              refine g_run 2 rfl ?_
              exact hnx
            · have cq : ¬ 0 ≤ lg_cmp (lN (lsT D DA lw (NA 0) (NA 1) (2 ^ D 1 - 1))) (lN (P s).2) := cq
              rw [lg_cmp_ge, pk_lLE (by omega) (by omega)] at cq
              exact tk (Or.inr (by omega))
  repeat (first | refine g_px rfl rfl rfl ?_ | refine g_get hv 0 rfl rfl rfl rfl ?_)
  refine g_if rfl (fun cq => ?_) (fun cq => absurd (show ¬ bl true = 0 by decide) cq)
  refine g_run 6 rfl ?_
  have hl := loop 4 0 h0 none X kn fi hm (by omega) hX hk hv
  rw [← hP] at hl
  exact hl
end Laws
