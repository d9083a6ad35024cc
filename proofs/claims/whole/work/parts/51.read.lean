/-! Tape: kin, went, a line, the whole -/
section Rd2
variable (sta : mj_S) (d : Nat) (c : Nat → Nat) (n i : Nat) (len fa pl va : Int32) (na nl : Nat → Nat) (b : Nat) (D : Nat → Nat) (DA : Nat → Nat → Nat)
theorem s_readKin (tdb : Bool) (nm : Nat → List Nat) (hD : okD D DA) (hnm : nmR c n na nl nm (D 1)) (hc : bd 256 c) (hn : n ≤ 800) (hi : i ≤ n) : mj_Sx sta (d + 5) 48 [.ref 1, .ref b] (wtp c n i len fa pl (bl tdb) va na nl b D DA) (pst c n b len fa pl (lKin c n (i, tdb, D, DA, nm))) := by
  refine mj_Sx.mk m_X6_readKin (by decide) n_X6_readKin rfl (fun h0 hv => ?_)
  generalize hT : mj_rx m_X6_readKin h0 _ _ = T
  have hx := nxt_ge c n hi
  have hx2 := nxt_ge c n hx.2
  have hx3 := nxt_ge c n hx2.2
  have hD2 := hD
  obtain ⟨d0, d1, d3, d4, d5, d6, d7, d8, d2, a0, a1, a2, a3, a4, a5⟩ := hD2
  unfold lKin at hT
  dsimp only at hT
  repeat (first | refine g_px rfl rfl rfl ?_ | refine g_get hv 4 rfl rfl rfl rfl ?_)
  refine g_ic rfl (fun cq => ?_) (fun cq => ?_)
  · simp (disch := omega) only [mj_cp, k_6, k_7, k_8, k_9, k_10, k_12, k_15, k_16, k_18, k_20, k_24, k_25, k_26, k_27, k_28, k_32, k_36, k_48, k_57, k_59, k_63, k_74, k_75, k_84, k_90, k_97, k_99, k_100, k_122, k_200, k_255, k_420, k_448, k_720, k_800, k_999, k_bit, k_shl, fa_and, nI_add, bl_1, bl_0, bl_n1, bl_n0, bl_i1, nI_lt0, nI_0le, nI_eq0, nI_eqT, nI_leI, nI_ltI, nI_eq, Nat.not_le, Nat.not_lt, Bool.not_eq_true, Bool.not_eq_false, not_true_eq_false, not_false_eq_true, Decidable.not_not] at cq
    rw [if_neg (by omega)] at hT
    repeat (first | refine g_px rfl rfl rfl ?_)
    refine g_callV hv [0, 1] 0 rfl rfl rfl rfl rfl rfl rfl rfl (by decide) (s_stepT sta (d + 1) c n i len fa pl (bl tdb) va hc hn hi) (fun v w' h hp hk2 hv => ?_)
    obtain ⟨rfl, rfl⟩ := hp
    have hv : mj_Vw h0 (wtp c n (nxt c n i) len fa pl (bl tdb) va na nl b D DA) h := hv
    repeat (first | refine g_px rfl rfl rfl ?_)
    refine g_callV hv [0, 1, 2, 3, 4] 0 rfl rfl rfl rfl rfl rfl rfl rfl (by decide) (s_isTold' sta d c n (nxt c n i) len fa pl (bl tdb) va na nl b D nm d1 hnm hc hn hx.2) (fun v w' h hp hk2 hv => ?_)
    obtain hp := hp
    cases e1 : pM c n nm (D 1) (nxt c n i) with
    | inr e =>
      rw [e1] at hp hT
      obtain ⟨rfl, va', rfl⟩ := hp
      refine g_if rfl (fun cq => absurd rfl cq) (fun cq => ?_)
      repeat (first | refine g_px rfl rfl rfl ?_)
      subst hT
      exact g_iret hv rfl rfl rfl rfl ⟨rfl, _, _, _, na, nl, D, DA, hD, rfl⟩
    | inl x =>
      rw [e1] at hp hT
      obtain ⟨rfl, rfl⟩ := hp
      have hxm := pM_lt c n _ e1
      dsimp only at hT
      refine g_if rfl (fun cq => ?_) (fun cq => absurd (show ¬ bl true = 0 by decide) cq)
      have hv : mj_Vw h0 (wtp c n (nxt c n i) len fa pl (bl tdb) (nI x) na nl b D DA) h := hv
      repeat (first | refine g_px rfl rfl rfl ?_ | refine g_get hv 0 rfl rfl rfl rfl ?_)
      refine g_callV hv [0, 1] 0 rfl rfl rfl rfl rfl rfl rfl rfl (by decide) (s_stepT sta (d + 1) c n (nxt c n i) len fa pl (bl tdb) (nI x) hc hn hx.2) (fun v w' h hp hk2 hv => ?_)
      obtain ⟨rfl, rfl⟩ := hp
      have hv : mj_Vw h0 (wtp c n (nxt c n (nxt c n i)) len fa pl (bl tdb) (nI x) na nl b D DA) h := hv
      repeat (first | refine g_px rfl rfl rfl ?_)
      refine g_callV hv [0, 1, 2, 3, 4] 0 rfl rfl rfl rfl rfl rfl rfl rfl (by decide) (s_isTold' sta d c n (nxt c n (nxt c n i)) len fa pl (bl tdb) (nI x) na nl b D nm d1 hnm hc hn hx2.2) (fun v w' h hp hk2 hv => ?_)
      obtain hp := hp
      cases e2 : pM c n nm (D 1) (nxt c n (nxt c n i)) with
      | inr e =>
        rw [e2] at hp hT
        obtain ⟨rfl, va', rfl⟩ := hp
        refine g_if rfl (fun cq => absurd rfl cq) (fun cq => ?_)
        repeat (first | refine g_px rfl rfl rfl ?_)
        subst hT
        exact g_iret hv rfl rfl rfl rfl ⟨rfl, _, _, _, na, nl, D, DA, hD, rfl⟩
      | inl y =>
        rw [e2] at hp hT
        obtain ⟨rfl, rfl⟩ := hp
        have hym := pM_lt c n _ e2
        have hkx := a4 x
        have hky := a4 y
        dsimp only at hT
        refine g_if rfl (fun cq => ?_) (fun cq => absurd (show ¬ bl true = 0 by decide) cq)
        have hv : mj_Vw h0 (wtp c n (nxt c n (nxt c n i)) len fa pl (bl tdb) (nI y) na nl b D DA) h := hv
        have no : (x = y ∨ (DA 4 x).testBit y = true) → mj_go sta (mj_Cl sta (d + 4)) m_X6_readKin T 72 [some (.ref 1), some (.ref b), some (.int (nI x)), some (.int (nI y))] [] h := by
          intro hno
          rw [if_pos hno] at hT
          repeat (first | refine g_px rfl rfl rfl ?_)
          refine g_callV hv [0] 0 rfl rfl rfl rfl rfl rfl rfl rfl (by decide) (s_fail sta (d + 3) len fa pl (bl tdb) (nI y) _ _ _ _ _) (fun v w' h hp hk2 hv => ?_)
          obtain ⟨rfl, rfl⟩ := hp
          subst hT
          exact g_iret hv rfl rfl rfl rfl ⟨rfl, _, _, _, na, nl, D, DA, hD, rfl⟩
        repeat (first | refine g_px rfl rfl rfl ?_ | refine g_get hv 0 rfl rfl rfl rfl ?_)
        refine g_ic rfl (fun cq => ?_) (fun cq => ?_)
        · simp (disch := omega) only [mj_cp, k_6, k_7, k_8, k_9, k_10, k_12, k_15, k_16, k_18, k_20, k_24, k_25, k_26, k_27, k_28, k_32, k_36, k_48, k_57, k_59, k_63, k_74, k_75, k_84, k_90, k_97, k_99, k_100, k_122, k_200, k_255, k_420, k_448, k_720, k_800, k_999, k_bit, k_shl, fa_and, nI_add, bl_1, bl_0, bl_n1, bl_n0, bl_i1, nI_lt0, nI_0le, nI_eq0, nI_eqT, nI_leI, nI_ltI, nI_eq, Nat.not_le, Nat.not_lt, Bool.not_eq_true, Bool.not_eq_false, not_true_eq_false, not_false_eq_true, Decidable.not_not] at cq
          exact no (Or.inl cq)
        · simp (disch := omega) only [mj_cp, k_6, k_7, k_8, k_9, k_10, k_12, k_15, k_16, k_18, k_20, k_24, k_25, k_26, k_27, k_28, k_32, k_36, k_48, k_57, k_59, k_63, k_74, k_75, k_84, k_90, k_97, k_99, k_100, k_122, k_200, k_255, k_420, k_448, k_720, k_800, k_999, k_bit, k_shl, fa_and, nI_add, bl_1, bl_0, bl_n1, bl_n0, bl_i1, nI_lt0, nI_0le, nI_eq0, nI_eqT, nI_leI, nI_ltI, nI_eq, Nat.not_le, Nat.not_lt, Bool.not_eq_true, Bool.not_eq_false, not_true_eq_false, not_false_eq_true, Decidable.not_not] at cq
          have hne := cq
          repeat (first | refine g_px rfl rfl rfl ?_ | refine g_get hv 4 rfl rfl rfl rfl ?_)
          refine g_n6 hv 9 (k := x) (by omega) rfl rfl ?_
          repeat (first | refine g_px rfl rfl rfl ?_)
          rw [k_bit (show DA 4 x < 2 ^ 31 by omega) (show y < 32 by omega)]
          refine g_ic rfl (fun cq => ?_) (fun cq => ?_)
          · simp (disch := omega) only [mj_cp, k_6, k_7, k_8, k_9, k_10, k_12, k_15, k_16, k_18, k_20, k_24, k_25, k_26, k_27, k_28, k_32, k_36, k_48, k_57, k_59, k_63, k_74, k_75, k_84, k_90, k_97, k_99, k_100, k_122, k_200, k_255, k_420, k_448, k_720, k_800, k_999, k_bit, k_shl, fa_and, nI_add, bl_1, bl_0, bl_n1, bl_n0, bl_i1, nI_lt0, nI_0le, nI_eq0, nI_eqT, nI_leI, nI_ltI, nI_eq, Nat.not_le, Nat.not_lt, Bool.not_eq_true, Bool.not_eq_false, not_true_eq_false, not_false_eq_true, Decidable.not_not] at cq
            have hb := cq
            rw [if_neg (fun z => z.elim hne (fun z => by rw [hb] at z; cases z))] at hT
            repeat (first | refine g_px rfl rfl rfl ?_ | refine g_get hv 4 rfl rfl rfl rfl ?_)
            refine g_n6 hv 9 (k := x) (by omega) rfl rfl ?_
            repeat (first | refine g_px rfl rfl rfl ?_)
            rw [k_shl (show y < 31 by omega), fa_or]
            refine g_nst hv 9 (k := x) (by omega) rfl rfl (fun h hv => ?_)
            have hv : mj_Vw h0 (wtp c n (nxt c n (nxt c n i)) len fa pl (bl tdb) (nI y) na nl b D (va_up DA 4 (va_up (DA 4) x (DA 4 x ||| 2 ^ y)))) h := hv
            repeat (first | refine g_px rfl rfl rfl ?_ | refine g_get hv 4 rfl rfl rfl rfl ?_)
            refine g_n6 hv 9 (k := y) (by omega) rfl rfl ?_
            repeat (first | refine g_px rfl rfl rfl ?_)
            rw [k_shl (show x < 31 by omega), fa_or]
            refine g_nst hv 9 (k := y) (by omega) rfl rfl (fun h hv => ?_)
            have hv : mj_Vw h0 (wtp c n (nxt c n (nxt c n i)) len fa pl (bl tdb) (nI y) na nl b D (va_up DA 4 (va_up (va_up (DA 4) x (DA 4 x ||| 2 ^ y)) y (va_up (DA 4) x (DA 4 x ||| 2 ^ y) y ||| 2 ^ x)))) h := hv
            repeat (first | refine g_px rfl rfl rfl ?_ | refine g_get hv 4 rfl rfl rfl rfl ?_)
            rw [show nI (D 2) + Int32.ofInt 1 = nI (D 2 + 1) from (nI_succ _).symm]
            refine g_put hv 4 rfl rfl rfl rfl rfl rfl (fun h hv => ?_)
            have hv : mj_Vw h0 (wtp c n (nxt c n (nxt c n i)) len fa pl (bl tdb) (nI y) na nl b (va_up D 2 (D 2 + 1)) (va_up DA 4 (va_up (va_up (DA 4) x (DA 4 x ||| 2 ^ y)) y (va_up (DA 4) x (DA 4 x ||| 2 ^ y) y ||| 2 ^ x)))) h := hv
            repeat (first | refine g_px rfl rfl rfl ?_)
            refine g_callV hv [0, 1] 0 rfl rfl rfl rfl rfl rfl rfl rfl (by decide) (s_stepT sta (d + 1) c n (nxt c n (nxt c n i)) len fa pl (bl tdb) (nI y) hc hn hx2.2) (fun v w' h hp hk2 hv => ?_)
            obtain ⟨rfl, rfl⟩ := hp
            repeat (first | refine g_px rfl rfl rfl ?_)
            have u1 : bd 64 (va_up (DA 4) x (DA 4 x ||| 2 ^ y)) := up_bd a4 (bt_lt _ hkx _ (by omega))
            subst hT
            refine g_iret hv rfl rfl rfl rfl ⟨rfl, hx3.2, ⟨d0, d1, d3, d4, d5, d6, d7, d8, by show D 2 + 1 ≤ 6; omega, a0, a1, a2, a3, up_bd u1 (bt_lt _ (u1 y) _ (by omega)), a5⟩, _, na, nl, hnm, rfl⟩
          · simp (disch := omega) only [mj_cp, k_6, k_7, k_8, k_9, k_10, k_12, k_15, k_16, k_18, k_20, k_24, k_25, k_26, k_27, k_28, k_32, k_36, k_48, k_57, k_59, k_63, k_74, k_75, k_84, k_90, k_97, k_99, k_100, k_122, k_200, k_255, k_420, k_448, k_720, k_800, k_999, k_bit, k_shl, fa_and, nI_add, bl_1, bl_0, bl_n1, bl_n0, bl_i1, nI_lt0, nI_0le, nI_eq0, nI_eqT, nI_leI, nI_ltI, nI_eq, Nat.not_le, Nat.not_lt, Bool.not_eq_true, Bool.not_eq_false, not_true_eq_false, not_false_eq_true, Decidable.not_not] at cq
            exact no (Or.inr cq)
  · simp (disch := omega) only [mj_cp, k_6, k_7, k_8, k_9, k_10, k_12, k_15, k_16, k_18, k_20, k_24, k_25, k_26, k_27, k_28, k_32, k_36, k_48, k_57, k_59, k_63, k_74, k_75, k_84, k_90, k_97, k_99, k_100, k_122, k_200, k_255, k_420, k_448, k_720, k_800, k_999, k_bit, k_shl, fa_and, nI_add, bl_1, bl_0, bl_n1, bl_n0, bl_i1, nI_lt0, nI_0le, nI_eq0, nI_eqT, nI_leI, nI_ltI, nI_eq, Nat.not_le, Nat.not_lt, Bool.not_eq_true, Bool.not_eq_false, not_true_eq_false, not_false_eq_true, Decidable.not_not] at cq
    rw [if_pos (by omega)] at hT
    repeat (first | refine g_px rfl rfl rfl ?_)
    refine g_callV hv [0] 0 rfl rfl rfl rfl rfl rfl rfl rfl (by decide) (s_fail sta (d + 3) len fa pl (bl tdb) va _ _ _ _ _) (fun v w' h hp hk2 hv => ?_)
    obtain ⟨rfl, rfl⟩ := hp
    subst hT
    exact g_iret hv rfl rfl rfl rfl ⟨rfl, i, _, _, na, nl, D, DA, hD, rfl⟩
theorem s_readWent (tdb : Bool) (nm : Nat → List Nat) (hD : okD D DA) (hnm : nmR c n na nl nm (D 1)) (hc : bd 256 c) (hn : n ≤ 800) (hi : i ≤ n) : mj_Sx sta (d + 5) 51 [.ref 1, .ref b] (wtp c n i len fa pl (bl tdb) va na nl b D DA) (pst c n b len fa pl (lWent c n (i, tdb, D, DA, nm))) := by
  refine mj_Sx.mk m_X6_readWent (by decide) n_X6_readWent rfl (fun h0 hv => ?_)
  generalize hT : mj_rx m_X6_readWent h0 _ _ = T
  have hx := nxt_ge c n hi
  have hx2 := nxt_ge c n hx.2
  have hD2 := hD
  obtain ⟨d0, d1, d3, d4, d5, d6, d7, d8, d2, a0, a1, a2, a3, a4, a5⟩ := hD2
  unfold lWent at hT
  dsimp only at hT
  repeat (first | refine g_px rfl rfl rfl ?_ | refine g_get hv 4 rfl rfl rfl rfl ?_)
  refine g_ic rfl (fun cq => ?_) (fun cq => ?_)
  · have cq : nI (D 8) < nI 3 := cq
    rw [nI_ltI (by omega) (by decide)] at cq
    rw [if_neg (by omega)] at hT
    repeat (first | refine g_px rfl rfl rfl ?_)
    refine g_callV hv [0, 1] 0 rfl rfl rfl rfl rfl rfl rfl rfl (by decide) (s_stepT sta (d + 1) c n i len fa pl (bl tdb) va hc hn hi) (fun v w' h hp hk2 hv => ?_)
    obtain ⟨rfl, rfl⟩ := hp
    have hv : mj_Vw h0 (wtp c n (nxt c n i) len fa pl (bl tdb) va na nl b D DA) h := hv
    repeat (first | refine g_px rfl rfl rfl ?_)
    refine g_callV hv [0, 1, 2, 3, 4] 0 rfl rfl rfl rfl rfl rfl rfl rfl (by decide) (s_isTold' sta d c n (nxt c n i) len fa pl (bl tdb) va na nl b D nm d1 hnm hc hn hx.2) (fun v w' h hp hk2 hv => ?_)
    obtain hp := hp
    cases e1 : pM c n nm (D 1) (nxt c n i) with
    | inr e =>
      rw [e1] at hp hT
      obtain ⟨rfl, va', rfl⟩ := hp
      refine g_if rfl (fun cq => absurd rfl cq) (fun cq => ?_)
      repeat (first | refine g_px rfl rfl rfl ?_)
      subst hT
      exact g_iret hv rfl rfl rfl rfl ⟨rfl, _, _, _, na, nl, D, DA, hD, rfl⟩
    | inl x =>
      rw [e1] at hp hT
      obtain ⟨rfl, rfl⟩ := hp
      have hxm := pM_lt c n _ e1
      dsimp only at hT
      refine g_if rfl (fun cq => ?_) (fun cq => absurd (show ¬ bl true = 0 by decide) cq)
      have hv : mj_Vw h0 (wtp c n (nxt c n i) len fa pl (bl tdb) (nI x) na nl b D DA) h := hv
      generalize hF : frs (fun k => decide (DA 5 k = x)) (D 8) 0 = F at hT
      have loop : ∀ y k h, k + y = D 8 → F = frs (fun k => decide (DA 5 k = x)) y k → mj_Vw h0 (wtp c n (nxt c n i) len fa pl (bl tdb) (nI x) na nl b D DA) h → mj_go sta (mj_Cl sta (d + 4)) m_X6_readWent T 30 [some (.ref 1), some (.ref b), some (.int (nI k))] [] h := by
        intro y
        induction y with
        | zero =>
          intro k h hk he hv
          rw [frs] at he
          subst he
          rw [if_neg (by decide)] at hT
          repeat (first | refine g_px rfl rfl rfl ?_ | refine g_get hv 4 rfl rfl rfl rfl ?_)
          refine g_ic rfl (fun cq2 => ?_) (fun cq2 => ?_)
          · repeat (first | refine g_px rfl rfl rfl ?_ | refine g_get hv 4 rfl rfl rfl rfl ?_ | refine g_get hv 0 rfl rfl rfl rfl ?_)
            refine g_nLs (L := 3) hv 10 (k := D 8) (by omega) (by decide) rfl rfl (fun h hv => ?_)
            have hv : mj_Vw h0 (wtp c n (nxt c n i) len fa pl (bl tdb) (nI x) na nl b D (va_up DA 5 (va_up (DA 5) (D 8) x))) h := hv
            repeat (first | refine g_px rfl rfl rfl ?_ | refine g_get hv 4 rfl rfl rfl rfl ?_)
            rw [show nI (D 8) + Int32.ofInt 1 = nI (D 8 + 1) from (nI_succ _).symm]
            refine g_put hv 4 rfl rfl rfl rfl rfl rfl (fun h hv => ?_)
            have hv : mj_Vw h0 (wtp c n (nxt c n i) len fa pl (bl tdb) (nI x) na nl b (va_up D 8 (D 8 + 1)) (va_up DA 5 (va_up (DA 5) (D 8) x))) h := hv
            repeat (first | refine g_px rfl rfl rfl ?_)
            refine g_callV hv [0, 1] 0 rfl rfl rfl rfl rfl rfl rfl rfl (by decide) (s_stepT sta (d + 1) c n (nxt c n i) len fa pl (bl tdb) (nI x) hc hn hx.2) (fun v w' h hp hk2 hv => ?_)
            obtain ⟨rfl, rfl⟩ := hp
            repeat (first | refine g_px rfl rfl rfl ?_)
            subst hT
            refine g_iret hv rfl rfl rfl rfl ⟨rfl, hx2.2, ⟨d0, d1, d3, d4, d5, d6, d7, by show D 8 + 1 ≤ 3; omega, d2, a0, a1, a2, a3, a4, up_bd a5 (by omega)⟩, _, na, nl, hnm, rfl⟩
          · have cq2 : ¬ nI (D 8) ≤ nI k := cq2
            rw [nI_leI (by omega) (by omega)] at cq2
            omega
        | succ y ih =>
          intro k h hk he hv
          rw [frs] at he
          have h6 := a5 k
          repeat (first | refine g_px rfl rfl rfl ?_ | refine g_get hv 4 rfl rfl rfl rfl ?_)
          refine g_ic rfl (fun cq2 => ?_) (fun cq2 => ?_)
          · have cq2 : nI (D 8) ≤ nI k := cq2
            rw [nI_leI (by omega) (by omega)] at cq2
            omega
          · repeat (first | refine g_px rfl rfl rfl ?_ | refine g_get hv 4 rfl rfl rfl rfl ?_)
            refine g_nL (L := 3) hv 10 (k := k) (by omega) (by decide) rfl rfl ?_
            repeat (first | refine g_px rfl rfl rfl ?_ | refine g_get hv 0 rfl rfl rfl rfl ?_)
            refine g_ic rfl (fun cq2 => ?_) (fun cq2 => ?_)
            · have cq2 : ¬ nI (DA 5 k) = nI x := cq2
              rw [nI_eq (by omega) (by omega)] at cq2
              rw [decide_eq_false cq2] at he
              refine g_run 2 rfl ?_
              have hnx := ih (k + 1) h (by omega) he hv
              rw [nI_succ] at hnx
              exact hnx
            · have cq2 : ¬ ¬ nI (DA 5 k) = nI x := cq2
              rw [nI_eq (by omega) (by omega)] at cq2
              rw [decide_eq_true (Decidable.not_not.mp cq2)] at he
              have he : F = some k := he
              subst he
              rw [if_pos (show (some k).isSome = true from rfl)] at hT
              repeat (first | refine g_px rfl rfl rfl ?_)
              refine g_callV hv [0] 0 rfl rfl rfl rfl rfl rfl rfl rfl (by decide) (s_fail sta (d + 3) len fa pl (bl tdb) (nI x) _ _ _ _ _) (fun v w' h hp hk2 hv => ?_)
              obtain ⟨rfl, rfl⟩ := hp
              subst hT
              exact g_iret hv rfl rfl rfl rfl ⟨rfl, _, _, _, na, nl, D, DA, hD, rfl⟩
      refine g_run 2 rfl ?_
      exact loop (D 8) 0 h (by omega) hF.symm hv
  · have cq : ¬ nI (D 8) < nI 3 := cq
    rw [nI_ltI (by omega) (by decide)] at cq
    rw [if_pos (by omega)] at hT
    repeat (first | refine g_px rfl rfl rfl ?_)
    refine g_callV hv [0] 0 rfl rfl rfl rfl rfl rfl rfl rfl (by decide) (s_fail sta (d + 3) len fa pl (bl tdb) va _ _ _ _ _) (fun v w' h hp hk2 hv => ?_)
    obtain ⟨rfl, rfl⟩ := hp
    subst hT
    exact g_iret hv rfl rfl rfl rfl ⟨rfl, i, _, _, na, nl, D, DA, hD, rfl⟩
theorem pst_b {c : Nat → Nat} {n b : Nat} {len fa pl : Int32} {R : PS ⊕ FP} {v : Option Value} {w : mj_W} (h : pst c n b len fa pl R v w) : ∃ q : Bool, v = some (.int (bl q)) ∧ q = (match R with | .inl _ => true | .inr _ => false) := by
  cases R with
  | inl t => exact ⟨true, h.1, rfl⟩
  | inr e => exact ⟨false, h.1, rfl⟩
theorem pst_w {c : Nat → Nat} {n b : Nat} {len fa pl : Int32} {R : PS ⊕ FP} {v : Option Value} {w : mj_W} (h : pst c n b len fa pl R v w) : ∃ i fa' pl' td va na nl D DA, w = wtp c n i len fa' pl' td va na nl b D DA := by
  cases R with
  | inl t => obtain ⟨-, -, -, va, na, nl, -, e⟩ := h; exact ⟨_, _, _, _, _, _, _, _, _, e⟩
  | inr e => obtain ⟨-, i, td, va, na, nl, D, DA, -, e⟩ := h; exact ⟨_, _, _, _, _, _, _, _, _, e⟩
theorem s_readLine (tdb : Bool) (nm : Nat → List Nat) (hD : okD D DA) (hnm : nmR c n na nl nm (D 1)) (hc : bd 256 c) (hn : n ≤ 800) (hi : i ≤ n) : mj_Sx sta (d + 6) 44 [.ref 1, .ref b] (wtp c n i len fa pl (bl tdb) va na nl b D DA) (pst c n b len fa pl (lLine c n (i, tdb, D, DA, nm))) := by
  refine mj_Sx.mk m_X6_readLine (by decide) n_X6_readLine rfl (fun h0 hv => ?_)
  generalize hT : mj_rx m_X6_readLine h0 _ _ = T
  have hl7 := lkd_le c n i
  unfold lLine at hT
  dsimp only at hT
  repeat (first | refine g_px rfl rfl rfl ?_)
  refine g_callV hv [0, 1] 0 rfl rfl rfl rfl rfl rfl rfl rfl (by decide) (s_lineKind sta (d + 2) c n i len fa pl (bl tdb) va hc hn hi) (fun v w' h hp hk2 hv => ?_)
  obtain ⟨rfl, rfl⟩ := hp
  have hv : mj_Vw h0 (wtp c n i len fa pl (bl tdb) va na nl b D DA) h := hv
  generalize lkd c n i = L at *
  have no : (L = 0 ∨ L = 7) → mj_go sta (mj_Cl sta (d + 5)) m_X6_readLine T 15 [some (.ref 1), some (.ref b), some (.int (nI L))] [] h := by
    intro hno
    rw [if_pos hno] at hT
    repeat (first | refine g_px rfl rfl rfl ?_)
    refine g_callV hv [0] 0 rfl rfl rfl rfl rfl rfl rfl rfl (by decide) (s_fail sta (d + 4) len fa pl (bl tdb) va _ _ _ _ _) (fun v w' h hp hk2 hv => ?_)
    obtain ⟨rfl, rfl⟩ := hp
    subst hT
    exact g_iret hv rfl rfl rfl rfl ⟨rfl, i, _, _, na, nl, D, DA, hD, rfl⟩
  repeat (first | refine g_px rfl rfl rfl ?_)
  refine g_if rfl (fun cq => ?_) (fun cq => ?_)
  · have cq : nI L = 0 := cq
    rw [nI_eq0 (by omega)] at cq
    exact no (Or.inl cq)
  · have cq : ¬ nI L = 0 := cq
    rw [nI_eq0 (by omega)] at cq
    have h0' := cq
    repeat (first | refine g_px rfl rfl rfl ?_)
    refine g_ic rfl (fun cq => ?_) (fun cq => ?_)
    · simp (disch := omega) only [mj_cp, k_6, k_7, k_8, k_9, k_10, k_12, k_15, k_16, k_18, k_20, k_24, k_25, k_26, k_27, k_28, k_32, k_36, k_48, k_57, k_59, k_63, k_74, k_75, k_84, k_90, k_97, k_99, k_100, k_122, k_200, k_255, k_420, k_448, k_720, k_800, k_999, k_bit, k_shl, fa_and, nI_add, bl_1, bl_0, bl_n1, bl_n0, bl_i1, nI_lt0, nI_0le, nI_eq0, nI_eqT, nI_leI, nI_ltI, nI_eq, Nat.not_le, Nat.not_lt, Bool.not_eq_true, Bool.not_eq_false, not_true_eq_false, not_false_eq_true, Decidable.not_not] at cq
      rw [if_neg (by omega)] at hT
      have fin : ∀ (R : PS ⊕ FP) (v : Option Value) (w' : mj_W) (h : mj_H) (pc : Nat), mj_Vw h0 (mj_pb (wtp c n i len fa pl (bl tdb) va na nl b D DA) [0, 1, 2, 3, 4, 5, 6, 7, 8, 9, 10] w') h → pst c n b len fa pl R v w' → mj_rx m_X6_readLine h0 (mj_ks (wtp c n i len fa pl (bl tdb) va na nl b D DA)) (pst c n b len fa pl R) = T → (∃ q raw wp, mj_ent (mj_cd m_X6_readLine) pc = some (q, .ireturn, 1, raw, wp)) → mj_go sta (mj_Cl sta (d + 5)) m_X6_readLine T pc [some (.ref 1), some (.ref b), some (.int (nI L))] (v.toList ++ []) h := by
        intro R v w' h pc hv hp hT he
        obtain ⟨q, rfl, -⟩ := pst_b hp
        obtain ⟨i', fa', pl', td', va', na', nl', D', DA', rfl⟩ := pst_w hp
        obtain ⟨q1, raw, wp, he⟩ := he
        subst hT
        exact g_iret hv he rfl (bl_ns q) rfl hp
      have sw : L ≠ 1 → tdb = true → mj_go sta (mj_Cl sta (d + 5)) m_X6_readLine T 40 [some (.ref 1), some (.ref b), some (.int (nI L))] [] h := by
        intro h1 htd
        subst htd
        rw [if_neg h1, if_neg (by decide)] at hT
        refine g_run 1 rfl ?_
        have hL : L = 2 ∨ L = 3 ∨ L = 4 ∨ L = 5 ∨ L = 6 := by omega
        rcases hL with rfl | rfl | rfl | rfl | rfl
        · rw [if_pos rfl] at hT
          refine g_swk (off := 41) rfl (by decide) (by decide) ?_
          refine g_run 2 rfl ?_
          refine g_callV hv [0, 1, 2, 3, 4, 5, 6, 7, 8, 9, 10] 0 rfl rfl rfl rfl rfl rfl rfl rfl (by decide) (s_readMan sta d c n i len fa pl va na nl b D DA true nm hD hnm hc hn hi) (fun v w' h hp hk2 hv => ?_)
          obtain hp := hp
          exact fin _ v w' h 87 hv hp hT ⟨_, _, _, rfl⟩
        · rw [if_neg (by decide), if_pos rfl] at hT
          refine g_swk (off := 47) rfl (by decide) (by decide) ?_
          refine g_run 2 rfl ?_
          refine g_callV hv [0, 1, 2, 3, 4, 5, 6, 7, 8, 9, 10] 0 rfl rfl rfl rfl rfl rfl rfl rfl (by decide) (s_readKin sta d c n i len fa pl va na nl b D DA true nm hD hnm hc hn hi) (fun v w' h hp hk2 hv => ?_)
          obtain hp := hp
          exact fin _ v w' h 93 hv hp hT ⟨_, _, _, rfl⟩
        · rw [if_neg (by decide), if_neg (by decide), if_pos rfl] at hT
          refine g_swk (off := 53) rfl (by decide) (by decide) ?_
          refine g_run 2 rfl ?_
          refine g_callV hv [0, 1, 2, 3, 4, 5, 6, 7, 8, 9, 10] 0 rfl rfl rfl rfl rfl rfl rfl rfl (by decide) (s_readSpares sta d c n i len fa pl va na nl b D DA true nm hD hnm hc hn hi) (fun v w' h hp hk2 hv => ?_)
          obtain hp := hp
          exact fin _ v w' h 99 hv hp hT ⟨_, _, _, rfl⟩
        · rw [if_neg (by decide), if_neg (by decide), if_neg (by decide), if_pos rfl] at hT
          refine g_swk (off := 59) rfl (by decide) (by decide) ?_
          refine g_run 2 rfl ?_
          refine g_callV hv [0, 1, 2, 3, 4, 5, 6, 7, 8, 9, 10] 0 rfl rfl rfl rfl rfl rfl rfl rfl (by decide) (s_readDoctor sta d c n i len fa pl va na nl b D DA true nm hD hnm hc hn hi) (fun v w' h hp hk2 hv => ?_)
          obtain hp := hp
          exact fin _ v w' h 105 hv hp hT ⟨_, _, _, rfl⟩
        · rw [if_neg (by decide), if_neg (by decide), if_neg (by decide), if_neg (by decide)] at hT
          refine g_swd rfl (by decide) ?_
          refine g_run 2 rfl ?_
          refine g_callV hv [0, 1, 2, 3, 4, 5, 6, 7, 8, 9, 10] 0 rfl rfl rfl rfl rfl rfl rfl rfl (by decide) (s_readWent sta d c n i len fa pl va na nl b D DA true nm hD hnm hc hn hi) (fun v w' h hp hk2 hv => ?_)
          obtain hp := hp
          exact fin _ v w' h 111 hv hp hT ⟨_, _, _, rfl⟩
      repeat (first | refine g_px rfl rfl rfl ?_)
      refine g_ic rfl (fun cq => ?_) (fun cq => ?_)
      · have cq : nI L = nI 1 := cq
        rw [nI_eq (by omega) (by decide)] at cq
        subst cq
        rw [if_pos rfl] at hT
        refine g_run 1 rfl ?_
        refine g_swk (off := 35) rfl (by decide) (by decide) ?_
        refine g_run 2 rfl ?_
        refine g_callV hv [0, 1, 2, 3, 4, 5, 6, 7, 8, 9, 10] 0 rfl rfl rfl rfl rfl rfl rfl rfl (by decide) (s_readTakes sta d c n i len fa pl va na nl b D DA tdb nm hD hnm hc hn hi) (fun v w' h hp hk2 hv => ?_)
        obtain hp := hp
        exact fin _ v w' h 81 hv hp hT ⟨_, _, _, rfl⟩
      · have cq : ¬ nI L = nI 1 := cq
        rw [nI_eq (by omega) (by decide)] at cq
        repeat (first | refine g_px rfl rfl rfl ?_ | refine g_get hv 0 rfl rfl rfl rfl ?_)
        refine g_if rfl (fun cq2 => ?_) (fun cq2 => ?_)
        · have cq2 : ¬ bl tdb = 0 := cq2
          rw [bl_0] at cq2
          exact sw cq (by cases tdb <;> simp_all)
        · have cq2 : ¬ ¬ bl tdb = 0 := cq2
          rw [bl_0] at cq2
          rw [if_neg cq, if_pos (Decidable.not_not.mp cq2)] at hT
          repeat (first | refine g_px rfl rfl rfl ?_)
          refine g_callV hv [0] 0 rfl rfl rfl rfl rfl rfl rfl rfl (by decide) (s_fail sta (d + 4) len fa pl (bl tdb) va _ _ _ _ _) (fun v w' h hp hk2 hv => ?_)
          obtain ⟨rfl, rfl⟩ := hp
          subst hT
          exact g_iret hv rfl rfl rfl rfl ⟨rfl, i, _, _, na, nl, D, DA, hD, rfl⟩
    · simp (disch := omega) only [mj_cp, k_6, k_7, k_8, k_9, k_10, k_12, k_15, k_16, k_18, k_20, k_24, k_25, k_26, k_27, k_28, k_32, k_36, k_48, k_57, k_59, k_63, k_74, k_75, k_84, k_90, k_97, k_99, k_100, k_122, k_200, k_255, k_420, k_448, k_720, k_800, k_999, k_bit, k_shl, fa_and, nI_add, bl_1, bl_0, bl_n1, bl_n0, bl_i1, nI_lt0, nI_0le, nI_eq0, nI_eqT, nI_leI, nI_ltI, nI_eq, Nat.not_le, Nat.not_lt, Bool.not_eq_true, Bool.not_eq_false, not_true_eq_false, not_false_eq_true, Decidable.not_not] at cq
      exact no (Or.inr cq)
end Rd2
