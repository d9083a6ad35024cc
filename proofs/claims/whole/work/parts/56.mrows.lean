/-! the reference: rows, losses -/
section Mr
variable (sta : mj_S) (d : Nat) (th tr wh : Int32) (q : Nat) (dr rd : Option Nat) (F : Nat → Int32) (wd : Int64) (ac im lw tk st : Int32) (sh ru : Int64) (rz aw al sd : Int32) (D : Nat → Nat) (hi er se : Int32) (r : Nat → Nat)
theorem s_Mswaps (i j : Nat) (h1 : i < 6) (h2 : j < 6) : mj_Sx sta (d + 1) 208 [.ref 151, (.int (nI i)), (.int (nI j))] [(mo th tr wh dr rd F wd ac im lw tk st sh ru rz aw al sd), (156, an r)] (fun v w => v = none ∧ w = [(mo th tr wh dr rd F wd ac im lw tk st sh ru rz aw al sd), (156, an (swp r i j))]) := by
  refine mj_Sx.mk m_X10_swaps (by decide) n_X10_swaps rfl (fun h0 hv => ?_)
  generalize hT : mj_rx m_X10_swaps h0 _ _ = T
  repeat (first | refine g_px rfl rfl rfl ?_ | refine g_get hv 0 rfl rfl rfl rfl ?_)
  refine g_n6 hv 1 h1 rfl rfl ?_
  repeat (first | refine g_px rfl rfl rfl ?_ | refine g_get hv 0 rfl rfl rfl rfl ?_)
  refine g_n6 hv 1 h2 rfl rfl ?_
  refine g_nst hv 1 h1 rfl rfl (fun h hv => ?_)
  repeat (first | refine g_px rfl rfl rfl ?_ | refine g_get hv 0 rfl rfl rfl rfl ?_)
  refine g_nst hv 1 h2 rfl rfl (fun h hv => ?_)
  subst hT
  exact g_vret hv rfl rfl rfl ⟨rfl, rfl⟩
theorem s_MfirstRow : mj_Sx sta (d + 1) 206 [.ref 151] [(mo th tr wh dr rd F wd ac im lw tk st sh ru rz aw al sd), (156, an r)] (fun v w => v = none ∧ w = [(mo th tr wh dr rd F wd ac im lw tk st sh ru rz aw al sd), (156, an (fun i => i))]) := by
  refine mj_Sx.mk m_X10_firstRow (by decide) n_X10_firstRow rfl (fun h0 hv => ?_)
  generalize hT : mj_rx m_X10_firstRow h0 _ _ = T
  have loop : ∀ j k h, k + j = 6 → mj_Vw h0 [(mo th tr wh dr rd F wd ac im lw tk st sh ru rz aw al sd), (156, an (mix k r (fun i => i)))] h → mj_go sta (mj_Cl sta d) m_X10_firstRow T 2 [some (.ref 151), some (.int (nI k))] [] h := by
    intro j
    induction j with
    | zero =>
      intro k h hk hv
      have hk : k = 6 := by omega
      subst hk
      repeat (first | refine g_px rfl rfl rfl ?_)
      refine g_ic rfl (fun cq => ?_) (fun cq => absurd (cpT (by decide)) cq)
      rw [an_mix] at hv
      subst hT
      exact g_vret hv rfl rfl rfl ⟨rfl, rfl⟩
    | succ j ih =>
      intro k h hk hv
      repeat (first | refine g_px rfl rfl rfl ?_)
      refine g_ic rfl (fun cq => ?_) (fun cq => ?_)
      · simp (disch := omega) only [mj_cp, k_6, k_7, k_8, k_9, k_10, k_12, k_15, k_16, k_18, k_20, k_24, k_25, k_26, k_27, k_28, k_32, k_36, k_48, k_57, k_59, k_63, k_74, k_75, k_84, k_90, k_97, k_99, k_100, k_122, k_200, k_255, k_420, k_448, k_720, k_800, k_999, k_bit, k_shl, fa_and, nI_add, bl_1, bl_0, bl_n1, bl_n0, bl_i1, nI_lt0, nI_0le, nI_eq0, nI_eqT, nI_leI, nI_ltI, nI_eq, Nat.not_le, Nat.not_lt, Bool.not_eq_true, Bool.not_eq_false, not_true_eq_false, not_false_eq_true, Decidable.not_not] at cq
        omega
      · repeat (first | refine g_px rfl rfl rfl ?_ | refine g_get hv 0 rfl rfl rfl rfl ?_)
        refine g_nst hv 1 (k := k) (by omega) rfl rfl (fun h hv => ?_)
        rw [show va_up (mix k r (fun i => i)) k k = mix (k + 1) r (fun i => i) from mix_up (f' := fun i => i)] at hv
        refine g_run 2 rfl ?_
        have hnx := ih (k + 1) h (by omega) hv
        rw [nI_succ] at hnx
        exact hnx
  refine g_run 2 rfl ?_
  exact loop 6 0 h0 (by omega) (by rw [mix_0]; exact hv)
theorem nxr_n {n : Nat} {r : Nat → Nat} : nxr n n r = (match fdi r (n - 1) with
    | 0 => (r, false)
    | i + 1 => (trn 3 (swp r i (fdj r i (n - 1))) (i + 1) (n - 1), true)) := by
  unfold nxr
  have e : trn 3 r n (n - 1) = r := by rw [trn, if_neg (by omega)]
  rw [e]
  cases fdi r (n - 1) <;> rfl
theorem s_MnextRow (hn : 1 ≤ D 1 ∧ D 1 ≤ 6) (hr : ∀ i, i < D 1 → r i < 6) : mj_Sx sta (d + 2) 207 [.ref 151] [(mo th tr wh (some q) rd F wd ac im lw tk st sh ru rz aw al sd), mdh q D hi er se, (156, an r)] (fun v w => v = some (.int (bl (nxr (D 1) (D 1) r).2)) ∧ w = [(mo th tr wh (some q) rd F wd ac im lw tk st sh ru rz aw al sd), mdh q D hi er se, (156, an (nxr (D 1) (D 1) r).1)]) := by
  refine mj_Sx.mk m_X10_nextRow (by decide) n_X10_nextRow rfl (fun h0 hv => ?_)
  generalize hT : mj_rx m_X10_nextRow h0 _ _ = T
  rw [nxr_n] at hT
  have l3 : ∀ (fu : Nat) (r' : Nat → Nat) (i j : Nat) (h : mj_H) (o1 o2 : Nat) (R : Nat → Nat), i ≤ 6 → j < 6 → j < i + 2 * fu → trn fu r' i j = R → mj_rx m_X10_nextRow h0 (mj_ks [(mo th tr wh (some q) rd F wd ac im lw tk st sh ru rz aw al sd), mdh q D hi er se, (156, an r)]) (fun v w => v = some (.int (bl true)) ∧ w = [(mo th tr wh (some q) rd F wd ac im lw tk st sh ru rz aw al sd), mdh q D hi er se, (156, an R)]) = T → mj_Vw h0 [(mo th tr wh (some q) rd F wd ac im lw tk st sh ru rz aw al sd), mdh q D hi er se, (156, an r')] h → mj_go sta (mj_Cl sta (d + 1)) m_X10_nextRow T 95 [some (.ref 151), some (.int (nI o1)), some (.int (nI o2)), some (.int (nI i)), some (.int (nI j))] [] h := by
    intro fu
    induction fu with
    | zero =>
      intro r' i j h o1 o2 R h1 h2 h3 he hT hv
      rw [trn] at he
      subst he
      repeat (first | refine g_px rfl rfl rfl ?_)
      refine g_ic rfl (fun cq => ?_) (fun cq => ?_)
      · repeat (first | refine g_px rfl rfl rfl ?_)
        subst hT
        exact g_iret hv rfl rfl rfl rfl ⟨rfl, rfl⟩
      · simp (disch := omega) only [mj_cp, k_6, k_7, k_8, k_9, k_10, k_12, k_15, k_16, k_18, k_20, k_24, k_25, k_26, k_27, k_28, k_32, k_36, k_48, k_57, k_59, k_63, k_74, k_75, k_84, k_90, k_97, k_99, k_100, k_122, k_200, k_255, k_420, k_448, k_720, k_800, k_999, k_bit, k_shl, fa_and, nI_add, bl_1, bl_0, bl_n1, bl_n0, bl_i1, nI_lt0, nI_0le, nI_eq0, nI_eqT, nI_leI, nI_ltI, nI_eq, Nat.not_le, Nat.not_lt, Bool.not_eq_true, Bool.not_eq_false, not_true_eq_false, not_false_eq_true, Decidable.not_not] at cq
        omega
    | succ fu ih =>
      intro r' i j h o1 o2 R h1 h2 h3 he hT hv
      rw [trn] at he
      repeat (first | refine g_px rfl rfl rfl ?_)
      refine g_ic rfl (fun cq => ?_) (fun cq => ?_)
      · simp (disch := omega) only [mj_cp, k_6, k_7, k_8, k_9, k_10, k_12, k_15, k_16, k_18, k_20, k_24, k_25, k_26, k_27, k_28, k_32, k_36, k_48, k_57, k_59, k_63, k_74, k_75, k_84, k_90, k_97, k_99, k_100, k_122, k_200, k_255, k_420, k_448, k_720, k_800, k_999, k_bit, k_shl, fa_and, nI_add, bl_1, bl_0, bl_n1, bl_n0, bl_i1, nI_lt0, nI_0le, nI_eq0, nI_eqT, nI_leI, nI_ltI, nI_eq, Nat.not_le, Nat.not_lt, Bool.not_eq_true, Bool.not_eq_false, not_true_eq_false, not_false_eq_true, Decidable.not_not] at cq
        rw [if_neg (by omega)] at he
        subst he
        repeat (first | refine g_px rfl rfl rfl ?_)
        subst hT
        exact g_iret hv rfl rfl rfl rfl ⟨rfl, rfl⟩
      · simp (disch := omega) only [mj_cp, k_6, k_7, k_8, k_9, k_10, k_12, k_15, k_16, k_18, k_20, k_24, k_25, k_26, k_27, k_28, k_32, k_36, k_48, k_57, k_59, k_63, k_74, k_75, k_84, k_90, k_97, k_99, k_100, k_122, k_200, k_255, k_420, k_448, k_720, k_800, k_999, k_bit, k_shl, fa_and, nI_add, bl_1, bl_0, bl_n1, bl_n0, bl_i1, nI_lt0, nI_0le, nI_eq0, nI_eqT, nI_leI, nI_ltI, nI_eq, Nat.not_le, Nat.not_lt, Bool.not_eq_true, Bool.not_eq_false, not_true_eq_false, not_false_eq_true, Decidable.not_not] at cq
        rw [if_pos (by omega)] at he
        repeat (first | refine g_px rfl rfl rfl ?_)
        refine g_callV hv [0, 2] 0 rfl rfl rfl rfl rfl rfl rfl rfl (by decide) (s_Mswaps sta d th tr wh (some q) rd F wd ac im lw tk st sh ru rz aw al sd r' i j (by omega) (by omega)) (fun v w' h hp hk2 hv => ?_)
        obtain ⟨rfl, rfl⟩ := hp
        have hv : mj_Vw h0 ([(mo th tr wh (some q) rd F wd ac im lw tk st sh ru rz aw al sd), mdh q D hi er se, (156, an (swp r' i j))]) h := hv
        refine g_run 3 rfl ?_
        have hnx := ih (swp r' i j) (i + 1) (j - 1) h o1 o2 R (by omega) (by omega) (by omega) he hT hv
        rw [nI_succ, ← nI_m1 (by omega)] at hnx
        exact hnx
  have l2 : ∀ (i : Nat), i + 1 < D 1 → r i ≤ r (i + 1) → mj_rx m_X10_nextRow h0 (mj_ks [(mo th tr wh (some q) rd F wd ac im lw tk st sh ru rz aw al sd), mdh q D hi er se, (156, an r)]) (fun v w => v = some (.int (bl true)) ∧ w = [(mo th tr wh (some q) rd F wd ac im lw tk st sh ru rz aw al sd), mdh q D hi er se, (156, an (trn 3 (swp r i (fdj r i (D 1 - 1))) (i + 1) (D 1 - 1)))]) = T → ∀ j, j < D 1 → i < j → fdj r i j = fdj r i (D 1 - 1) → mj_go sta (mj_Cl sta (d + 1)) m_X10_nextRow T 53 [some (.ref 151), some (.int (nI i)), some (.int (nI j)), none, none] [] h0 := by
    intro i hi1 hii hT j
    induction j with
    | zero => intro h1 h2; omega
    | succ j ih =>
      intro h1 h2 he
      have r1 := hr (j + 1) h1
      have r2 := hr i (by omega)
      repeat (first | refine g_px rfl rfl rfl ?_ | refine g_get hv 0 rfl rfl rfl rfl ?_)
      refine g_n6 hv 2 (k := j + 1) (by omega) rfl rfl ?_
      repeat (first | refine g_px rfl rfl rfl ?_ | refine g_get hv 0 rfl rfl rfl rfl ?_)
      refine g_n6 hv 2 (k := i) (by omega) rfl rfl ?_
      refine g_ic rfl (fun cq => ?_) (fun cq => ?_)
      · have cq : nI (r i) ≤ nI (r (j + 1)) := cq
        rw [nI_leI (by omega) (by omega)] at cq
        have hj : fdj r i (D 1 - 1) = j + 1 := by rw [← he, fdj, if_neg (by omega)]
        rw [hj] at hT
        repeat (first | refine g_px rfl rfl rfl ?_)
        refine g_callV hv [0, 2] 0 rfl rfl rfl rfl rfl rfl rfl rfl (by decide) (s_Mswaps sta d th tr wh (some q) rd F wd ac im lw tk st sh ru rz aw al sd r i (j + 1) (by omega) (by omega)) (fun v w' h hp hk2 hv => ?_)
        obtain ⟨rfl, rfl⟩ := hp
        have hv : mj_Vw h0 ([(mo th tr wh (some q) rd F wd ac im lw tk st sh ru rz aw al sd), mdh q D hi er se, (156, an (swp r i (j + 1)))]) h := hv
        refine g_run 4 rfl ?_
        refine g_run 1 rfl ?_
        refine g_get hv 0 rfl rfl rfl rfl ?_
        refine g_get hv 1 rfl rfl rfl rfl ?_
        refine g_run 3 rfl ?_
        rw [show nI i + Int32.ofInt 1 = nI (i + 1) from (nI_succ i).symm, show nI (D 1) - Int32.ofInt 1 = nI (D 1 - 1) from pk_sub (b := 1) hn.1]
        exact l3 3 _ (i + 1) (D 1 - 1) h _ _ _ (by omega) (by omega) (by omega) rfl hT hv
      · have cq : ¬ nI (r i) ≤ nI (r (j + 1)) := cq
        rw [nI_leI (by omega) (by omega)] at cq
        by_cases hij : i = j
        · subst hij; omega
        · refine g_run 2 rfl ?_
          have hnx := ih (by omega) (by omega) (by rw [← he, fdj, if_pos ⟨by omega, by omega⟩])
          rw [show nI j = nI (j + 1) + Int32.ofInt (-1) from (nI_m1 (j := j + 1) (by omega)).symm] at hnx
          exact hnx
  have l1 : ∀ k, k < D 1 → fdi r k = fdi r (D 1 - 1) → mj_go sta (mj_Cl sta (d + 1)) m_X10_nextRow T 10 [some (.ref 151), some (.int (nI k - 1)), none, none, none] [] h0 := by
    intro k
    induction k with
    | zero =>
      intro hk hf
      rw [← hf] at hT
      repeat (first | refine g_px rfl rfl rfl ?_)
      refine g_if rfl (fun cq => ?_) (fun cq => absurd (cpT (by decide)) cq)
      repeat (first | refine g_px rfl rfl rfl ?_)
      refine g_if rfl (fun cq => absurd cq (cpF (by decide))) (fun cq => ?_)
      repeat (first | refine g_px rfl rfl rfl ?_)
      subst hT
      exact g_iret hv rfl rfl rfl rfl ⟨rfl, rfl⟩
    | succ k ih =>
      intro hk hf
      have r1 := hr k (by omega)
      have r2 := hr (k + 1) hk
      rw [nI_pred]
      repeat (first | refine g_px rfl rfl rfl ?_)
      refine g_if rfl (fun cq => absurd cq (nI_pos (by omega))) (fun cq => ?_)
      repeat (first | refine g_px rfl rfl rfl ?_ | refine g_get hv 0 rfl rfl rfl rfl ?_)
      refine g_n6 hv 2 (k := k) (by omega) rfl rfl ?_
      repeat (first | refine g_px rfl rfl rfl ?_ | refine g_get hv 0 rfl rfl rfl rfl ?_)
      rw [show nI k + Int32.ofInt 1 = nI (k + 1) from (nI_succ k).symm]
      refine g_n6 hv 2 (k := k + 1) (by omega) rfl rfl ?_
      refine g_ic rfl (fun cq => ?_) (fun cq => ?_)
      · have cq : nI (r k) ≤ nI (r (k + 1)) := cq
        rw [nI_leI (by omega) (by omega)] at cq
        have hle := cq
        have e : fdi r (D 1 - 1) = k + 1 := by rw [← hf, fdi, if_neg (by omega)]
        rw [e] at hT
        repeat (first | refine g_px rfl rfl rfl ?_)
        refine g_if rfl (fun cq => ?_) (fun cq => absurd (nI_pos' (n := k) (by omega)) cq)
        refine g_run 1 rfl ?_
        refine g_get hv 0 rfl rfl rfl rfl ?_
        refine g_get hv 1 rfl rfl rfl rfl ?_
        refine g_run 3 rfl ?_
        rw [show nI (D 1) - Int32.ofInt 1 = nI (D 1 - 1) from pk_sub (b := 1) hn.1]
        exact l2 k hk hle hT (D 1 - 1) (by omega) (by omega) rfl
      · have cq : ¬ nI (r k) ≤ nI (r (k + 1)) := cq
        rw [nI_leI (by omega) (by omega)] at cq
        refine g_run 2 rfl ?_
        have hnx := ih (by omega) (by rw [← hf, fdi, if_pos (by omega)])
        rw [sub1 (nI k)] at hnx
        exact hnx
  refine g_run 1 rfl ?_
  refine g_get hv 0 rfl rfl rfl rfl ?_
  refine g_get hv 1 rfl rfl rfl rfl ?_
  refine g_run 3 rfl ?_
  have e2 : nI (D 1) - Int32.ofInt 2 = nI (D 1 - 1) - 1 := by
    rw [show nI (D 1 - 1) = nI (D 1) - 1 from (pk_sub (b := 1) hn.1).symm, Int32.sub_sub]
    rfl
  rw [e2]
  exact l1 (D 1 - 1) (by omega) rfl
theorem s_McodeOfRow (hn : D 1 ≤ 6) : mj_Sx sta (d + 1) 210 [.ref 151] [(mo th tr wh (some q) rd F wd ac im lw tk st sh ru rz aw al sd), mdh q D hi er se, (156, an r)] (fun v w => v = some (.int (nI (rno r (D 1)))) ∧ w = [(mo th tr wh (some q) rd F wd ac im lw tk st sh ru rz aw al sd), mdh q D hi er se, (156, an r)]) := by
  refine mj_Sx.mk m_X10_codeOfRow (by decide) n_X10_codeOfRow rfl (fun h0 hv => ?_)
  generalize hT : mj_rx m_X10_codeOfRow h0 _ _ = T
  have loop : ∀ j k, k + j = D 1 → mj_go sta (mj_Cl sta d) m_X10_codeOfRow T 4 [some (.ref 151), some (.int (nI (rno r k))), some (.int (nI k))] [] h0 := by
    intro j
    induction j with
    | zero =>
      intro k hk
      have hk : k = D 1 := by omega
      subst hk
      repeat (first | refine g_px rfl rfl rfl ?_ | refine g_get hv 0 rfl rfl rfl rfl ?_ | refine g_get hv 1 rfl rfl rfl rfl ?_)
      refine g_ic rfl (fun cq => ?_) (fun cq => ?_)
      · repeat (first | refine g_px rfl rfl rfl ?_)
        subst hT
        exact g_iret hv rfl rfl rfl rfl ⟨rfl, rfl⟩
      · simp (disch := omega) only [mj_cp, k_6, k_7, k_8, k_9, k_10, k_12, k_15, k_16, k_18, k_20, k_24, k_25, k_26, k_27, k_28, k_32, k_36, k_48, k_57, k_59, k_63, k_74, k_75, k_84, k_90, k_97, k_99, k_100, k_122, k_200, k_255, k_420, k_448, k_720, k_800, k_999, k_bit, k_shl, fa_and, nI_add, bl_1, bl_0, bl_n1, bl_n0, bl_i1, nI_lt0, nI_0le, nI_eq0, nI_eqT, nI_leI, nI_ltI, nI_eq, Nat.not_le, Nat.not_lt, Bool.not_eq_true, Bool.not_eq_false, not_true_eq_false, not_false_eq_true, Decidable.not_not] at cq
        omega
    | succ j ih =>
      intro k hk
      repeat (first | refine g_px rfl rfl rfl ?_ | refine g_get hv 0 rfl rfl rfl rfl ?_ | refine g_get hv 1 rfl rfl rfl rfl ?_)
      refine g_ic rfl (fun cq => ?_) (fun cq => ?_)
      · simp (disch := omega) only [mj_cp, k_6, k_7, k_8, k_9, k_10, k_12, k_15, k_16, k_18, k_20, k_24, k_25, k_26, k_27, k_28, k_32, k_36, k_48, k_57, k_59, k_63, k_74, k_75, k_84, k_90, k_97, k_99, k_100, k_122, k_200, k_255, k_420, k_448, k_720, k_800, k_999, k_bit, k_shl, fa_and, nI_add, bl_1, bl_0, bl_n1, bl_n0, bl_i1, nI_lt0, nI_0le, nI_eq0, nI_eqT, nI_leI, nI_ltI, nI_eq, Nat.not_le, Nat.not_lt, Bool.not_eq_true, Bool.not_eq_false, not_true_eq_false, not_false_eq_true, Decidable.not_not] at cq
        omega
      · repeat (first | refine g_px rfl rfl rfl ?_ | refine g_get hv 0 rfl rfl rfl rfl ?_)
        refine g_n6 hv 2 (k := k) (by omega) rfl rfl ?_
        refine g_run 4 rfl ?_
        have hnx := ih (k + 1) (by omega)
        rw [nI_succ, rno, show nI (10 * rno r k + r k) = (Int8.ofInt 10).toInt32 * nI (rno r k) + nI (r k) by rw [show (Int8.ofInt 10).toInt32 = nI 10 from rfl, pk_mul, nI_add]] at hnx
        exact hnx
  refine g_run 4 rfl ?_
  exact loop (D 1) 0 (by omega)
variable (W A : Nat → Nat) (g : Nat → Option Nat)
theorem s_MlossOf (T m : Nat) (hT6 : T < 64) (hm : m < 6) (hg : ∀ p, g m = some p → p < 6) : mj_Sx sta (d + 2) 203 [.ref 151, (.int (nI m))] [(mo th tr wh (some q) rd F wd ac im lw (nI T) st sh ru rz aw al sd), mdh q D hi er se, (q + 2, an W), (q + 4, an A), (158, sq g)] (fun v w => v = some (.int (nI (los T g W A m))) ∧ w = [(mo th tr wh (some q) rd F wd ac im lw (nI T) st sh ru rz aw al sd), mdh q D hi er se, (q + 2, an W), (q + 4, an A), (158, sq g)]) := by
  generalize hTT : T = T' at *
  clear hTT
  refine mj_Sx.mk m_X10_lossOf (by decide) n_X10_lossOf rfl (fun h0 hv => ?_)
  generalize hT : mj_rx m_X10_lossOf h0 _ _ = T
  repeat (first | refine g_px rfl rfl rfl ?_ | refine g_get hv 0 rfl rfl rfl rfl ?_)
  refine g_callS hv [] rfl rfl rfl rfl rfl rfl rfl (by decide) (s_Mbit sta d T' m (by omega) (by omega)) (fun v w' h hp hk2 hv => ?_)
  obtain ⟨rfl, rfl⟩ := hp
  refine g_if rfl (fun cq => ?_) (fun cq => ?_)
  · have cq : ¬ bl (T'.testBit m) = 0 := cq
    rw [bl_0, Bool.not_eq_false] at cq
    have hb := cq
    repeat (first | refine g_px rfl rfl rfl ?_ | refine g_get hv 0 rfl rfl rfl rfl ?_)
    refine g_s6 hv 4 hm rfl rfl ?_
    repeat (first | refine g_px rfl rfl rfl ?_)
    cases e : g m with
    | none =>
      refine g_ic rfl (fun cq => absurd rfl cq) (fun cq => ?_)
      repeat (first | refine g_px rfl rfl rfl ?_ | refine g_get hv 0 rfl rfl rfl rfl ?_ | refine g_get hv 1 rfl rfl rfl rfl ?_)
      refine g_n6 hv 2 hm rfl rfl ?_
      repeat (first | refine g_px rfl rfl rfl ?_)
      subst hT
      refine g_iret hv rfl rfl rfl rfl ?_
      exact ⟨by rw [los, hb, e]; rfl, rfl⟩
    | some p =>
      have hp := hg p e
      refine g_ic rfl (fun cq => ?_) (fun cq => absurd (fun z => by have := (snd_n2 (o := some p) (fun x hx => by cases hx; omega)).mp z; cases this) cq)
      repeat (first | refine g_px rfl rfl rfl ?_ | refine g_get hv 0 rfl rfl rfl rfl ?_ | refine g_get hv 1 rfl rfl rfl rfl ?_)
      refine g_s6 hv 4 hm rfl rfl ?_
      rw [e]
      refine g_n6 hv 3 hp rfl rfl ?_
      subst hT
      refine g_iret hv rfl rfl rfl rfl ?_
      exact ⟨by rw [los, hb, e]; rfl, rfl⟩
  · simp (disch := omega) only [mj_cp, k_6, k_7, k_8, k_9, k_10, k_12, k_15, k_16, k_18, k_20, k_24, k_25, k_26, k_27, k_28, k_32, k_36, k_48, k_57, k_59, k_63, k_74, k_75, k_84, k_90, k_97, k_99, k_100, k_122, k_200, k_255, k_420, k_448, k_720, k_800, k_999, k_bit, k_shl, fa_and, nI_add, bl_1, bl_0, bl_n1, bl_n0, bl_i1, nI_lt0, nI_0le, nI_eq0, nI_eqT, nI_leI, nI_ltI, nI_eq, Nat.not_le, Nat.not_lt, Bool.not_eq_true, Bool.not_eq_false, not_true_eq_false, not_false_eq_true, Decidable.not_not] at cq
    repeat (first | refine g_px rfl rfl rfl ?_)
    subst hT
    refine g_iret hv rfl rfl rfl rfl ?_
    exact ⟨by rw [los, cq]; rfl, rfl⟩
def gmg (S T : Nat) (g : Nat → Option Nat) : Nat → Nat
  | 0 => S
  | m + 1 => if T.testBit m && (g m).isNone then gmg S T g m ||| 2 ^ m else gmg S T g m
theorem gmg_lt {S T : Nat} {g : Nat → Option Nat} (hS : S < 64) : ∀ m, m ≤ 6 → gmg S T g m < 64
  | 0, _ => hS
  | m + 1, h => by
    have ih := gmg_lt (T := T) (g := g) hS m (by omega)
    rw [gmg]
    split
    · exact bt_lt _ ih _ (by omega)
    · exact ih
theorem s_Mgoing (S T : Nat) (hS6 : S < 64) (hT6 : T < 64) (hn : D 1 ≤ 6) (hg : ∀ m p, m < D 1 → g m = some p → p < 6) : mj_Sx sta (d + 2) 204 [.ref 151] [(mo th tr wh (some q) rd F wd ac im lw (nI T) (nI S) sh ru rz aw al sd), mdh q D hi er se, (158, sq g)] (fun v w => v = some (.int (nI (gmg S T g (D 1)))) ∧ w = [(mo th tr wh (some q) rd F wd ac im lw (nI T) (nI S) sh ru rz aw al sd), mdh q D hi er se, (158, sq g)]) := by
  generalize hTT : T = T' at *
  clear hTT
  refine mj_Sx.mk m_X10_going (by decide) n_X10_going rfl (fun h0 hv => ?_)
  generalize hT : mj_rx m_X10_going h0 _ _ = T
  have loop : ∀ j k h, k + j = D 1 → mj_Vw h0 [(mo th tr wh (some q) rd F wd ac im lw (nI T') (nI S) sh ru rz aw al sd), mdh q D hi er se, (158, sq g)] h → mj_go sta (mj_Cl sta (d + 1)) m_X10_going T 7 [some (.ref 151), some (.int (nI (gmg S T' g k))), some (.int (nI k))] [] h := by
    intro j
    induction j with
    | zero =>
      intro k h hk hv
      have hk : k = D 1 := by omega
      subst hk
      repeat (first | refine g_px rfl rfl rfl ?_ | refine g_get hv 0 rfl rfl rfl rfl ?_ | refine g_get hv 1 rfl rfl rfl rfl ?_)
      refine g_ic rfl (fun cq => ?_) (fun cq => ?_)
      · repeat (first | refine g_px rfl rfl rfl ?_)
        subst hT
        exact g_iret hv rfl rfl rfl rfl ⟨rfl, rfl⟩
      · simp (disch := omega) only [mj_cp, k_6, k_7, k_8, k_9, k_10, k_12, k_15, k_16, k_18, k_20, k_24, k_25, k_26, k_27, k_28, k_32, k_36, k_48, k_57, k_59, k_63, k_74, k_75, k_84, k_90, k_97, k_99, k_100, k_122, k_200, k_255, k_420, k_448, k_720, k_800, k_999, k_bit, k_shl, fa_and, nI_add, bl_1, bl_0, bl_n1, bl_n0, bl_i1, nI_lt0, nI_0le, nI_eq0, nI_eqT, nI_leI, nI_ltI, nI_eq, Nat.not_le, Nat.not_lt, Bool.not_eq_true, Bool.not_eq_false, not_true_eq_false, not_false_eq_true, Decidable.not_not] at cq
        omega
    | succ j ih =>
      intro k h hk hv
      have hk6 : k < 6 := by omega
      have hl := gmg_lt (T := T') (g := g) hS6 k (by omega)
      have next : ∀ (x : Nat) (h : mj_H), gmg S T' g k ||| x = gmg S T' g (k + 1) → mj_Vw h0 [(mo th tr wh (some q) rd F wd ac im lw (nI T') (nI S) sh ru rz aw al sd), mdh q D hi er se, (158, sq g)] h → mj_go sta (mj_Cl sta (d + 1)) m_X10_going T 48 [some (.ref 151), some (.int (nI (gmg S T' g k))), some (.int (nI k))] [(.int (nI x)), (.int (nI (gmg S T' g k)))] h := by
        intro x h he hv
        refine g_run 1 rfl ?_
        rw [fa_or, he]
        refine g_run 3 rfl ?_
        have hnx := ih (k + 1) h (by omega) hv
        rw [nI_succ] at hnx
        exact hnx
      repeat (first | refine g_px rfl rfl rfl ?_ | refine g_get hv 0 rfl rfl rfl rfl ?_ | refine g_get hv 1 rfl rfl rfl rfl ?_)
      refine g_ic rfl (fun cq => ?_) (fun cq => ?_)
      · simp (disch := omega) only [mj_cp, k_6, k_7, k_8, k_9, k_10, k_12, k_15, k_16, k_18, k_20, k_24, k_25, k_26, k_27, k_28, k_32, k_36, k_48, k_57, k_59, k_63, k_74, k_75, k_84, k_90, k_97, k_99, k_100, k_122, k_200, k_255, k_420, k_448, k_720, k_800, k_999, k_bit, k_shl, fa_and, nI_add, bl_1, bl_0, bl_n1, bl_n0, bl_i1, nI_lt0, nI_0le, nI_eq0, nI_eqT, nI_leI, nI_ltI, nI_eq, Nat.not_le, Nat.not_lt, Bool.not_eq_true, Bool.not_eq_false, not_true_eq_false, not_false_eq_true, Decidable.not_not] at cq
        omega
      · repeat (first | refine g_px rfl rfl rfl ?_ | refine g_get hv 0 rfl rfl rfl rfl ?_)
        refine g_callS hv [] rfl rfl rfl rfl rfl rfl rfl (by decide) (s_Mbit sta d T' k (by omega) (by omega)) (fun v w' h hp hk2 hv => ?_)
        obtain ⟨rfl, rfl⟩ := hp
        refine g_if rfl (fun cq => ?_) (fun cq => ?_)
        · simp (disch := omega) only [mj_cp, k_6, k_7, k_8, k_9, k_10, k_12, k_15, k_16, k_18, k_20, k_24, k_25, k_26, k_27, k_28, k_32, k_36, k_48, k_57, k_59, k_63, k_74, k_75, k_84, k_90, k_97, k_99, k_100, k_122, k_200, k_255, k_420, k_448, k_720, k_800, k_999, k_bit, k_shl, fa_and, nI_add, bl_1, bl_0, bl_n1, bl_n0, bl_i1, nI_lt0, nI_0le, nI_eq0, nI_eqT, nI_leI, nI_ltI, nI_eq, Nat.not_le, Nat.not_lt, Bool.not_eq_true, Bool.not_eq_false, not_true_eq_false, not_false_eq_true, Decidable.not_not] at cq
          refine g_run 1 rfl ?_
          exact next 0 h (by rw [gmg, cq, Nat.or_zero]; rfl) hv
        · simp (disch := omega) only [mj_cp, k_6, k_7, k_8, k_9, k_10, k_12, k_15, k_16, k_18, k_20, k_24, k_25, k_26, k_27, k_28, k_32, k_36, k_48, k_57, k_59, k_63, k_74, k_75, k_84, k_90, k_97, k_99, k_100, k_122, k_200, k_255, k_420, k_448, k_720, k_800, k_999, k_bit, k_shl, fa_and, nI_add, bl_1, bl_0, bl_n1, bl_n0, bl_i1, nI_lt0, nI_0le, nI_eq0, nI_eqT, nI_leI, nI_ltI, nI_eq, Nat.not_le, Nat.not_lt, Bool.not_eq_true, Bool.not_eq_false, not_true_eq_false, not_false_eq_true, Decidable.not_not] at cq
          have hb := cq
          repeat (first | refine g_px rfl rfl rfl ?_ | refine g_get hv 0 rfl rfl rfl rfl ?_)
          refine g_s6 hv 2 hk6 rfl rfl ?_
          repeat (first | refine g_px rfl rfl rfl ?_)
          cases e : g k with
          | none =>
            refine g_ic rfl (fun cq => absurd rfl cq) (fun cq => ?_)
            refine g_run 3 rfl ?_
            rw [k_shl (show k < 31 by omega)]
            refine g_run 1 rfl ?_
            exact next (2 ^ k) h (by rw [gmg, hb, e]; rfl) hv
          | some p =>
            have hp := hg k p (by omega) e
            refine g_ic rfl (fun cq => ?_) (fun cq => absurd (fun z => by have := (snd_n2 (o := some p) (fun x hx => by cases hx; omega)).mp z; cases this) cq)
            refine g_run 1 rfl ?_
            exact next 0 h (by rw [gmg, e, Nat.or_zero]; simp) hv
  refine g_run 1 rfl ?_
  refine g_get hv 0 rfl rfl rfl rfl ?_
  refine g_run 3 rfl ?_
  exact loop (D 1) 0 h0 (by omega) hv
theorem s_MlossOfAll (T cl : Nat) (hT6 : T < 64) (hcl : cl < 64) (hn : D 1 ≤ 6) (hg : ∀ m p, m < D 1 → g m = some p → p < 6) : mj_Sx sta (d + 3) 205 [.ref 151, (.int (nI cl))] [(mo th tr wh (some q) rd F wd ac im lw (nI T) st sh ru rz aw al sd), mdh q D hi er se, (q + 2, an W), (q + 4, an A), (158, sq g)] (fun v w => v = some (.int (nI (fb_sm (lsc cl T g W A) (D 1)))) ∧ w = [(mo th tr wh (some q) rd F wd ac im lw (nI T) st sh ru rz aw al sd), mdh q D hi er se, (q + 2, an W), (q + 4, an A), (158, sq g)]) := by
  generalize hTT : T = T' at *
  clear hTT
  refine mj_Sx.mk m_X10_lossOfAll (by decide) n_X10_lossOfAll rfl (fun h0 hv => ?_)
  generalize hT : mj_rx m_X10_lossOfAll h0 _ _ = T
  have loop : ∀ j k h, k + j = D 1 → mj_Vw h0 [(mo th tr wh (some q) rd F wd ac im lw (nI T') st sh ru rz aw al sd), mdh q D hi er se, (q + 2, an W), (q + 4, an A), (158, sq g)] h → mj_go sta (mj_Cl sta (d + 2)) m_X10_lossOfAll T 4 [some (.ref 151), some (.int (nI cl)), some (.int (nI (fb_sm (lsc cl T' g W A) k))), some (.int (nI k))] [] h := by
    intro j
    induction j with
    | zero =>
      intro k h hk hv
      have hk : k = D 1 := by omega
      subst hk
      repeat (first | refine g_px rfl rfl rfl ?_ | refine g_get hv 0 rfl rfl rfl rfl ?_ | refine g_get hv 1 rfl rfl rfl rfl ?_)
      refine g_ic rfl (fun cq => ?_) (fun cq => ?_)
      · repeat (first | refine g_px rfl rfl rfl ?_)
        subst hT
        exact g_iret hv rfl rfl rfl rfl ⟨rfl, rfl⟩
      · simp (disch := omega) only [mj_cp, k_6, k_7, k_8, k_9, k_10, k_12, k_15, k_16, k_18, k_20, k_24, k_25, k_26, k_27, k_28, k_32, k_36, k_48, k_57, k_59, k_63, k_74, k_75, k_84, k_90, k_97, k_99, k_100, k_122, k_200, k_255, k_420, k_448, k_720, k_800, k_999, k_bit, k_shl, fa_and, nI_add, bl_1, bl_0, bl_n1, bl_n0, bl_i1, nI_lt0, nI_0le, nI_eq0, nI_eqT, nI_leI, nI_ltI, nI_eq, Nat.not_le, Nat.not_lt, Bool.not_eq_true, Bool.not_eq_false, not_true_eq_false, not_false_eq_true, Decidable.not_not] at cq
        omega
    | succ j ih =>
      intro k h hk hv
      have next : ∀ (x : Nat) (h : mj_H), x = lsc cl T' g W A k → mj_Vw h0 [(mo th tr wh (some q) rd F wd ac im lw (nI T') st sh ru rz aw al sd), mdh q D hi er se, (q + 2, an W), (q + 4, an A), (158, sq g)] h → mj_go sta (mj_Cl sta (d + 2)) m_X10_lossOfAll T 33 [some (.ref 151), some (.int (nI cl)), some (.int (nI (fb_sm (lsc cl T' g W A) k))), some (.int (nI k))] [(.int (nI x)), (.int (nI (fb_sm (lsc cl T' g W A) k)))] h := by
        intro x h he hv
        subst he
        refine g_run 1 rfl ?_
        rw [nI_add, ← fb_sm_succ]
        refine g_run 3 rfl ?_
        have hnx := ih (k + 1) h (by omega) hv
        rw [nI_succ] at hnx
        exact hnx
      repeat (first | refine g_px rfl rfl rfl ?_ | refine g_get hv 0 rfl rfl rfl rfl ?_ | refine g_get hv 1 rfl rfl rfl rfl ?_)
      refine g_ic rfl (fun cq => ?_) (fun cq => ?_)
      · simp (disch := omega) only [mj_cp, k_6, k_7, k_8, k_9, k_10, k_12, k_15, k_16, k_18, k_20, k_24, k_25, k_26, k_27, k_28, k_32, k_36, k_48, k_57, k_59, k_63, k_74, k_75, k_84, k_90, k_97, k_99, k_100, k_122, k_200, k_255, k_420, k_448, k_720, k_800, k_999, k_bit, k_shl, fa_and, nI_add, bl_1, bl_0, bl_n1, bl_n0, bl_i1, nI_lt0, nI_0le, nI_eq0, nI_eqT, nI_leI, nI_ltI, nI_eq, Nat.not_le, Nat.not_lt, Bool.not_eq_true, Bool.not_eq_false, not_true_eq_false, not_false_eq_true, Decidable.not_not] at cq
        omega
      · repeat (first | refine g_px rfl rfl rfl ?_)
        refine g_callS hv [] rfl rfl rfl rfl rfl rfl rfl (by decide) (s_Mbit sta (d + 1) cl k (by omega) (by omega)) (fun v w' h hp hk2 hv => ?_)
        obtain ⟨rfl, rfl⟩ := hp
        refine g_if rfl (fun cq => ?_) (fun cq => ?_)
        · simp (disch := omega) only [mj_cp, k_6, k_7, k_8, k_9, k_10, k_12, k_15, k_16, k_18, k_20, k_24, k_25, k_26, k_27, k_28, k_32, k_36, k_48, k_57, k_59, k_63, k_74, k_75, k_84, k_90, k_97, k_99, k_100, k_122, k_200, k_255, k_420, k_448, k_720, k_800, k_999, k_bit, k_shl, fa_and, nI_add, bl_1, bl_0, bl_n1, bl_n0, bl_i1, nI_lt0, nI_0le, nI_eq0, nI_eqT, nI_leI, nI_ltI, nI_eq, Nat.not_le, Nat.not_lt, Bool.not_eq_true, Bool.not_eq_false, not_true_eq_false, not_false_eq_true, Decidable.not_not] at cq
          refine g_run 1 rfl ?_
          exact next 0 h (by rw [lsc, cq]; rfl) hv
        · simp (disch := omega) only [mj_cp, k_6, k_7, k_8, k_9, k_10, k_12, k_15, k_16, k_18, k_20, k_24, k_25, k_26, k_27, k_28, k_32, k_36, k_48, k_57, k_59, k_63, k_74, k_75, k_84, k_90, k_97, k_99, k_100, k_122, k_200, k_255, k_420, k_448, k_720, k_800, k_999, k_bit, k_shl, fa_and, nI_add, bl_1, bl_0, bl_n1, bl_n0, bl_i1, nI_lt0, nI_0le, nI_eq0, nI_eqT, nI_leI, nI_ltI, nI_eq, Nat.not_le, Nat.not_lt, Bool.not_eq_true, Bool.not_eq_false, not_true_eq_false, not_false_eq_true, Decidable.not_not] at cq
          repeat (first | refine g_px rfl rfl rfl ?_)
          refine g_callV hv [0, 1, 2, 3, 4] 0 rfl rfl rfl rfl rfl rfl rfl rfl (by decide) (s_MlossOf sta d th tr wh q rd F wd ac im lw st sh ru rz aw al sd D hi er se W A g T' k hT6 (by omega) (fun p hp => hg k p (by omega) hp)) (fun v w' h hp hk2 hv => ?_)
          obtain ⟨rfl, rfl⟩ := hp
          refine g_run 1 rfl ?_
          exact next _ h (by rw [lsc, if_pos cq]) hv
  refine g_run 4 rfl ?_
  exact loop (D 1) 0 h0 (by omega) hv
end Mr
