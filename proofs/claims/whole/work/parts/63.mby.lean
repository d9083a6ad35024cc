/-! the reference: rows by number, firstTaken, wouldGo -/
theorem neg_dig {x : Int32} (hx : x < 0) (hd : ¬ x - x / (Int8.ofInt 10).toInt32 * (Int8.ofInt 10).toInt32 < 0) : x / (Int8.ofInt 10).toInt32 < 0 := by
  have e10 : ((Int8.ofInt 10).toInt32).toInt = 10 := by decide
  have z : (0 : Int32).toInt = 0 := by decide
  rw [fa_lt, z] at hx hd ⊢
  have h1 : (x / (Int8.ofInt 10).toInt32).toInt = -((-x.toInt) / 10) := by
    rw [Int32.toInt_div_of_ne_right _ _ (by decide), e10]
    have : x.toInt.tdiv 10 = -((-x.toInt).tdiv 10) := by rw [Int.neg_tdiv, Int.neg_neg]
    rw [this, Int.tdiv_eq_ediv_of_nonneg (by omega)]
  rw [Int32.toInt_sub, Int32.toInt_mul, h1, e10] at hd
  rw [h1]
  have hb := Int32.le_toInt x
  generalize x.toInt = X at *
  rw [Int.bmod_eq_of_le (n := -(-X / 10) * 10) (by omega) (by omega), Int.bmod_eq_of_le (n := X - -(-X / 10) * 10) (by omega) (by omega)] at hd
  omega
theorem pop_or : ∀ b, b < 64 → ∀ k, k < 6 → pop (b ||| 2 ^ k) ≤ pop b + 1 := by decide +kernel
theorem or_set : ∀ b, b < 64 → ∀ k, k < 6 → b.testBit k = true → b ||| 2 ^ k = b := by decide +kernel
theorem pop_all : ∀ n, n < 7 → ∀ b, b < 64 → b < 2 ^ n → (pop b = n ↔ b = 2 ^ n - 1) := by decide +kernel
theorem sj_lt2 {n k : Nat} : ∀ j, (∀ i, i < j → dj k i < n) → sj k j < 2 ^ n
  | 0, _ => Nat.two_pow_pos n
  | j + 1, h => by
    rw [sj]
    exact Nat.or_lt_two_pow (sj_lt2 j (fun i hi => h i (by omega))) (Nat.pow_lt_pow_right (by decide) (h j (by omega)))
theorem okj_pop {n k : Nat} (hn : n ≤ 6) : ∀ m, (∀ i, i < m → dj k i < n) → (okj n k m = true → pop (sj k m) = m) ∧ (okj n k m = false → pop (sj k m) < m)
  | 0, _ => ⟨fun _ => (show pop 0 = 0 by decide), (fun h => by cases h)⟩
  | m + 1, h => by
    have ih := okj_pop hn m (fun i hi => h i (by omega))
    have hd := h m (by omega)
    have hs : sj k m < 64 := Nat.lt_of_lt_of_le (sj_lt2 m (fun i hi => h i (by omega))) (Nat.pow_le_pow_right (by decide) hn)
    rw [okj, sj, decide_eq_true hd, Bool.true_and]
    cases ho : okj n k m with
    | true =>
      have e := ih.1 ho
      cases hb : (sj k m).testBit (dj k m) with
      | true =>
        rw [or_set _ hs _ (by omega) hb]
        exact ⟨(fun z => by cases z), fun _ => by omega⟩
      | false =>
        rw [pop_set _ hs _ (by omega) hb]
        exact ⟨fun _ => by omega, (fun z => by cases z)⟩
    | false =>
      have e := ih.2 ho
      have := pop_or _ hs (dj k m) (by omega)
      rw [Bool.false_and]
      exact ⟨(fun z => by cases z), fun _ => by omega⟩
theorem okj_all {n k : Nat} (hn : n ≤ 6) (h : ∀ i, i < n → dj k i < n) : okj n k n = decide (sj k n = 2 ^ n - 1) := by
  have h1 := okj_pop hn n h
  have h2 := sj_lt2 n h
  have h3 : sj k n < 64 := Nat.lt_of_lt_of_le h2 (Nat.pow_le_pow_right (by decide) hn)
  have h4 := pop_all n (by omega) _ h3 h2
  cases ho : okj n k n with
  | true => exact (decide_eq_true (h4.mp (h1.1 ho))).symm
  | false =>
    have := h1.2 ho
    exact (decide_eq_false (fun z => by have := h4.mpr z; omega)).symm
theorem sj_bit {k : Nat} : ∀ m i, i < m → (sj k m).testBit (dj k i) = true
  | 0, i, h => by omega
  | m + 1, i, h => by
    rw [sj, Nat.testBit_or]
    by_cases e : i = m
    · subst e; rw [Nat.testBit_two_pow_self, Bool.or_true]
    · rw [sj_bit m i (by omega), Bool.true_or]
theorem okj_ne {n k : Nat} : ∀ m, okj n k m = true → ∀ i j, i < j → j < m → dj k i ≠ dj k j
  | 0, _, i, j, _, hj => by omega
  | m + 1, h, i, j, hi, hj => by
    rw [okj, Bool.and_eq_true, Bool.and_eq_true] at h
    by_cases e : j = m
    · subst e
      intro z
      have := sj_bit (k := k) j i hi
      rw [z] at this
      rw [this] at h
      exact absurd h.2.2 (by decide)
    · exact okj_ne m h.1 i j hi (by omega)
theorem rwo_prm {n k : Nat} (h : okr n k = true) : prm n (rwo n k) := by
  refine ⟨rwo_bd h, fun i j hi hj hij => ?_⟩
  rw [okr, Bool.and_eq_true] at h
  unfold rwo
  rcases Nat.lt_or_gt_of_ne hij with q | q
  · exact (okj_ne n h.1 _ _ (show n - 1 - j < n - 1 - i by omega) (by omega)).symm
  · exact okj_ne n h.1 _ _ (show n - 1 - i < n - 1 - j by omega) (by omega)
section Mr
variable (sta : mj_S) (d : Nat) (th tr wh : Int32) (q : Nat) (dr rd : Option Nat) (F : Nat → Int32) (wd : Int64) (ac im lw tk st : Int32) (sh ru : Int64) (rz aw al sd : Int32) (D : Nat → Nat) (hi er se : Int32) (r : Nat → Nat)
theorem s_Mlays_neg (x : Int32) (hx : x < 0) (hn : D 1 ≤ 6) : mj_Sx sta (d + 2) 211 [.ref 151, .int x] [(mo th tr wh (some q) rd F wd ac im lw tk st sh ru rz aw al sd), mdh q D hi er se, (156, an r)] (fun v w => v = some (.int (bl false)) ∧ ∃ r', w = [(mo th tr wh (some q) rd F wd ac im lw tk st sh ru rz aw al sd), mdh q D hi er se, (156, an r')]) := by
  refine mj_Sx.mk m_X10_lays (by decide) n_X10_lays rfl (fun h0 hv => ?_)
  generalize hT : mj_rx m_X10_lays h0 _ _ = T
  have loop : ∀ p h r s x', p ≤ 6 → x' < 0 → mj_Vw h0 [(mo th tr wh (some q) rd F wd ac im lw tk st sh ru rz aw al sd), mdh q D hi er se, (156, an r)] h → mj_go sta (mj_Cl sta (d + 1)) m_X10_lays T 15 [some (.ref 151), some (.int x), some (.int s), some (.int x'), some (.int (nI p + Int32.ofInt (-1)))] [] h := by
    intro p
    induction p with
    | zero =>
      intro h r s x' hp hx' hv
      repeat (first | refine g_px rfl rfl rfl ?_)
      refine g_if rfl (fun cq => ?_) (fun cq => absurd (show nI 0 + Int32.ofInt (-1) < 0 by decide) cq)
      repeat (first | refine g_px rfl rfl rfl ?_)
      refine g_if rfl (fun cq => ?_) (fun cq => absurd (fun z : x' = 0 => by rw [z] at hx'; exact absurd hx' (by decide)) cq)
      repeat (first | refine g_px rfl rfl rfl ?_)
      subst hT
      exact g_iret hv rfl rfl rfl rfl ⟨rfl, r, rfl⟩
    | succ p ih =>
      intro h r s x' hp hx' hv
      have hng := neg_dig hx'
      rw [nI_m1 (by omega), Nat.add_sub_cancel]
      repeat (first | refine g_px rfl rfl rfl ?_)
      refine g_if rfl (fun cq => absurd cq (nI_pos (by omega))) (fun cq => ?_)
      refine g_run 1 rfl ?_
      refine g_get hv 0 rfl rfl rfl rfl ?_
      refine g_run 4 rfl ?_
      generalize x' - x' / (Int8.ofInt 10).toInt32 * (Int8.ofInt 10).toInt32 = z at hng
      obtain ⟨y, rfl⟩ : ∃ y, z = nI y := ⟨_, (nI_ofU z).symm⟩
      refine g_nst hv 2 (show p < 6 by omega) rfl rfl (fun h hv => ?_)
      refine g_run 5 rfl ?_
      refine g_get hv 0 rfl rfl rfl rfl ?_
      refine g_run 1 rfl ?_
      refine g_n6 hv 2 (show p < 6 by omega) rfl rfl ?_
      rw [show va_up r p y p = y from if_pos rfl]
      refine g_if rfl (fun cq => ?_) (fun cq => ?_)
      · repeat (first | refine g_px rfl rfl rfl ?_)
        subst hT
        exact g_iret hv rfl rfl rfl rfl ⟨rfl, _, rfl⟩
      · have hq := hng cq
        refine g_run 1 rfl ?_
        refine g_get hv 0 rfl rfl rfl rfl ?_
        refine g_run 1 rfl ?_
        refine g_n6 hv 2 (show p < 6 by omega) rfl rfl ?_
        rw [show va_up r p y p = y from if_pos rfl]
        repeat (first | refine g_px rfl rfl rfl ?_ | refine g_get hv 0 rfl rfl rfl rfl ?_ | refine g_get hv 1 rfl rfl rfl rfl ?_)
        refine g_ic rfl (fun cq => ?_) (fun cq => ?_)
        · refine g_run 3 rfl ?_
          refine g_get hv 0 rfl rfl rfl rfl ?_
          refine g_run 1 rfl ?_
          refine g_n6 hv 2 (show p < 6 by omega) rfl rfl ?_
          refine g_run 5 rfl ?_
          exact ih h _ _ _ (by omega) hq hv
        · repeat (first | refine g_px rfl rfl rfl ?_)
          subst hT
          exact g_iret hv rfl rfl rfl rfl ⟨rfl, _, rfl⟩
  refine g_run 5 rfl ?_
  refine g_get hv 0 rfl rfl rfl rfl ?_
  refine g_get hv 1 rfl rfl rfl rfl ?_
  refine g_run 3 rfl ?_
  rw [show nI (D 1) - Int32.ofInt 1 = nI (D 1) + Int32.ofInt (-1) from sub1 _]
  exact loop (D 1) h0 r _ x hn hx hv
theorem s_Mlays_k (k : Nat) (hk : k < 2 ^ 31) (hn : D 1 ≤ 6) : mj_Sx sta (d + 2) 211 [.ref 151, (.int (nI k))] [(mo th tr wh (some q) rd F wd ac im lw tk st sh ru rz aw al sd), mdh q D hi er se, (156, an r)] (fun v w => v = some (.int (bl (okr (D 1) k))) ∧ ∃ r', (okr (D 1) k = true → ∀ i, i < D 1 → r' i = rwo (D 1) k i) ∧ w = [(mo th tr wh (some q) rd F wd ac im lw tk st sh ru rz aw al sd), mdh q D hi er se, (156, an r')]) := by
  refine mj_Sx.mk m_X10_lays (by decide) n_X10_lays rfl (fun h0 hv => ?_)
  generalize hT : mj_rx m_X10_lays h0 _ _ = T
  have hp6 := p6 hn
  have loop : ∀ p j h r, j + p = D 1 → (∀ i, i < j → dj k i < D 1) → (∀ i, p ≤ i → i < D 1 → r i = rwo (D 1) k i) → mj_Vw h0 [(mo th tr wh (some q) rd F wd ac im lw tk st sh ru rz aw al sd), mdh q D hi er se, (156, an r)] h → mj_go sta (mj_Cl sta (d + 1)) m_X10_lays T 15 [some (.ref 151), some (.int (nI k)), some (.int (nI (sj k j))), some (.int (nI (k / 10 ^ j))), some (.int (nI p + Int32.ofInt (-1)))] [] h := by
    intro p
    induction p with
    | zero =>
      intro j h r hj hdl hro hv
      have hj : j = D 1 := by omega
      subst hj
      have hq : k / 10 ^ D 1 < 2 ^ 31 := Nat.lt_of_le_of_lt (Nat.div_le_self _ _) hk
      have hsl : sj k (D 1) < 64 := Nat.lt_of_lt_of_le (sj_lt2 _ hdl) (Nat.pow_le_pow_right (by decide) hn)
      have hoa := okj_all hn hdl
      repeat (first | refine g_px rfl rfl rfl ?_)
      refine g_if rfl (fun cq => ?_) (fun cq => absurd (show nI 0 + Int32.ofInt (-1) < 0 by decide) cq)
      repeat (first | refine g_px rfl rfl rfl ?_)
      refine g_if rfl (fun cq => ?_) (fun cq => ?_)
      · simp (disch := omega) only [mj_cp, k_6, k_7, k_8, k_9, k_10, k_12, k_15, k_16, k_18, k_20, k_24, k_25, k_26, k_27, k_28, k_32, k_36, k_48, k_57, k_59, k_63, k_74, k_75, k_84, k_90, k_97, k_99, k_100, k_122, k_200, k_255, k_420, k_448, k_720, k_800, k_999, k_bit, k_shl, fa_and, nI_add, bl_1, bl_0, bl_n1, bl_n0, bl_i1, nI_lt0, nI_0le, nI_eq0, nI_eqT, nI_leI, nI_ltI, nI_eq, Nat.not_le, Nat.not_lt, Bool.not_eq_true, Bool.not_eq_false, not_true_eq_false, not_false_eq_true, Decidable.not_not] at cq
        have e : okr (D 1) k = false := by rw [okr, decide_eq_false cq, Bool.and_false]
        repeat (first | refine g_px rfl rfl rfl ?_)
        subst hT
        exact g_iret hv rfl rfl rfl rfl ⟨by rw [e]; rfl, r, (fun z => by rw [e] at z; cases z), rfl⟩
      · simp (disch := omega) only [mj_cp, k_6, k_7, k_8, k_9, k_10, k_12, k_15, k_16, k_18, k_20, k_24, k_25, k_26, k_27, k_28, k_32, k_36, k_48, k_57, k_59, k_63, k_74, k_75, k_84, k_90, k_97, k_99, k_100, k_122, k_200, k_255, k_420, k_448, k_720, k_800, k_999, k_bit, k_shl, fa_and, nI_add, bl_1, bl_0, bl_n1, bl_n0, bl_i1, nI_lt0, nI_0le, nI_eq0, nI_eqT, nI_leI, nI_ltI, nI_eq, Nat.not_le, Nat.not_lt, Bool.not_eq_true, Bool.not_eq_false, not_true_eq_false, not_false_eq_true, Decidable.not_not] at cq
        have hz := cq
        repeat (first | refine g_px rfl rfl rfl ?_)
        refine g_callV hv [0, 1] 0 rfl rfl rfl rfl rfl rfl rfl rfl (by decide) (s_Meverybody sta d th tr wh q rd F wd ac im lw tk st sh ru rz aw al sd D hi er se hn) (fun v w' h hp hk2 hv => ?_)
        obtain ⟨rfl, rfl⟩ := hp
        have hv : mj_Vw h0 ([(mo th tr wh (some q) rd F wd ac im lw tk st sh ru rz aw al sd), mdh q D hi er se, (156, an r)]) h := hv
        refine g_ic rfl (fun cq => ?_) (fun cq => ?_)
        · have cq : ¬ nI (sj k (D 1)) = nI (2 ^ D 1 - 1) := cq
          rw [nI_eq (by omega) (by omega)] at cq
          have e : okr (D 1) k = false := by rw [okr, hoa, decide_eq_false cq]; rfl
          repeat (first | refine g_px rfl rfl rfl ?_)
          subst hT
          exact g_iret hv rfl rfl rfl rfl ⟨by rw [e]; rfl, r, (fun z => by rw [e] at z; cases z), rfl⟩
        · have cq : ¬ ¬ nI (sj k (D 1)) = nI (2 ^ D 1 - 1) := cq
          rw [nI_eq (by omega) (by omega), Decidable.not_not] at cq
          have e : okr (D 1) k = true := by rw [okr, hoa, decide_eq_true cq, decide_eq_true hz]; rfl
          repeat (first | refine g_px rfl rfl rfl ?_)
          subst hT
          exact g_iret hv rfl rfl rfl rfl ⟨by rw [e]; rfl, r, fun _ i hi => hro i (Nat.zero_le _) hi, rfl⟩
    | succ p ih =>
      intro j h r hj hdl hro hv
      have hq : k / 10 ^ j < 2 ^ 31 := Nat.lt_of_le_of_lt (Nat.div_le_self _ _) hk
      have hdj : dj k j < 10 := Nat.mod_lt _ (by decide)
      have e1 : nI (k / 10 ^ j) - nI (k / 10 ^ j) / (Int8.ofInt 10).toInt32 * (Int8.ofInt 10).toInt32 = nI (dj k j) := pk_rem (d := 10) hq (by decide) (by decide)
      have e2 : nI (k / 10 ^ j) / (Int8.ofInt 10).toInt32 = nI (k / 10 ^ (j + 1)) := by
        rw [Nat.pow_succ, ← Nat.div_div_eq_div_mul]
        exact pk_div (d := 10) hq (by decide) (by decide)
      rw [nI_m1 (by omega), Nat.add_sub_cancel]
      repeat (first | refine g_px rfl rfl rfl ?_)
      refine g_if rfl (fun cq => absurd cq (nI_pos (by omega))) (fun cq => ?_)
      refine g_run 1 rfl ?_
      refine g_get hv 0 rfl rfl rfl rfl ?_
      refine g_run 4 rfl ?_
      rw [e1]
      refine g_nst hv 2 (show p < 6 by omega) rfl rfl (fun h hv => ?_)
      refine g_run 3 rfl ?_
      rw [e2]
      refine g_run 2 rfl ?_
      refine g_get hv 0 rfl rfl rfl rfl ?_
      refine g_run 1 rfl ?_
      refine g_n6 hv 2 (show p < 6 by omega) rfl rfl ?_
      rw [show va_up r p (dj k j) p = dj k j from if_pos rfl]
      refine g_if rfl (fun cq => absurd cq (nI_pos (by omega))) (fun cq => ?_)
      refine g_run 1 rfl ?_
      refine g_get hv 0 rfl rfl rfl rfl ?_
      refine g_run 1 rfl ?_
      refine g_n6 hv 2 (show p < 6 by omega) rfl rfl ?_
      rw [show va_up r p (dj k j) p = dj k j from if_pos rfl]
      repeat (first | refine g_px rfl rfl rfl ?_ | refine g_get hv 0 rfl rfl rfl rfl ?_ | refine g_get hv 1 rfl rfl rfl rfl ?_)
      refine g_ic rfl (fun cq => ?_) (fun cq => ?_)
      · simp (disch := omega) only [mj_cp, k_6, k_7, k_8, k_9, k_10, k_12, k_15, k_16, k_18, k_20, k_24, k_25, k_26, k_27, k_28, k_32, k_36, k_48, k_57, k_59, k_63, k_74, k_75, k_84, k_90, k_97, k_99, k_100, k_122, k_200, k_255, k_420, k_448, k_720, k_800, k_999, k_bit, k_shl, fa_and, nI_add, bl_1, bl_0, bl_n1, bl_n0, bl_i1, nI_lt0, nI_0le, nI_eq0, nI_eqT, nI_leI, nI_ltI, nI_eq, Nat.not_le, Nat.not_lt, Bool.not_eq_true, Bool.not_eq_false, not_true_eq_false, not_false_eq_true, Decidable.not_not] at cq
        have hlt := cq
        refine g_run 3 rfl ?_
        refine g_get hv 0 rfl rfl rfl rfl ?_
        refine g_run 1 rfl ?_
        refine g_n6 hv 2 (show p < 6 by omega) rfl rfl ?_
        rw [show va_up r p (dj k j) p = dj k j from if_pos rfl]
        refine g_run 1 rfl ?_
        rw [k_shl (show dj k j < 31 by omega)]
        refine g_run 1 rfl ?_
        rw [fa_or]
        refine g_run 3 rfl ?_
        refine ih (j + 1) h (va_up r p (dj k j)) (by omega) (fun i hi => ?_) (fun i hi hi2 => ?_) hv
        · by_cases e : i = j
          · subst e; exact hlt
          · exact hdl i (by omega)
        · unfold va_up
          by_cases e : i = p
          · subst e
            rw [if_pos rfl, rwo, show D 1 - 1 - i = j by omega]
          · rw [if_neg e]
            exact hro i (by omega) hi2
      · simp (disch := omega) only [mj_cp, k_6, k_7, k_8, k_9, k_10, k_12, k_15, k_16, k_18, k_20, k_24, k_25, k_26, k_27, k_28, k_32, k_36, k_48, k_57, k_59, k_63, k_74, k_75, k_84, k_90, k_97, k_99, k_100, k_122, k_200, k_255, k_420, k_448, k_720, k_800, k_999, k_bit, k_shl, fa_and, nI_add, bl_1, bl_0, bl_n1, bl_n0, bl_i1, nI_lt0, nI_0le, nI_eq0, nI_eqT, nI_leI, nI_ltI, nI_eq, Nat.not_le, Nat.not_lt, Bool.not_eq_true, Bool.not_eq_false, not_true_eq_false, not_false_eq_true, Decidable.not_not] at cq
        have e : okr (D 1) k = false := by rw [okr, okj_no (j := j) (by rw [decide_eq_false (by omega), Bool.false_and]) (D 1) (by omega)]; rfl
        repeat (first | refine g_px rfl rfl rfl ?_)
        subst hT
        exact g_iret hv rfl rfl rfl rfl ⟨by rw [e]; rfl, _, (fun z => by rw [e] at z; cases z), rfl⟩
  refine g_run 5 rfl ?_
  refine g_get hv 0 rfl rfl rfl rfl ?_
  refine g_get hv 1 rfl rfl rfl rfl ?_
  refine g_run 3 rfl ?_
  rw [show nI (D 1) - Int32.ofInt 1 = nI (D 1) + Int32.ofInt (-1) from sub1 _]
  have := loop (D 1) 0 h0 r (by omega) (fun i hi => by omega) (fun i hi hi2 => by omega) hv
  rw [Nat.pow_zero, Nat.div_one] at this
  exact this
theorem s_Mlays (x : Int32) (hn : D 1 ≤ 6) : mj_Sx sta (d + 2) 211 [.ref 151, .int x] [(mo th tr wh (some q) rd F wd ac im lw tk st sh ru rz aw al sd), mdh q D hi er se, (156, an r)] (fun v w => v = some (.int (bl (isr (D 1) x))) ∧ ∃ r', (isr (D 1) x = true → ∀ i, i < D 1 → r' i = rwo (D 1) x.toNatClampNeg i) ∧ w = [(mo th tr wh (some q) rd F wd ac im lw tk st sh ru rz aw al sd), mdh q D hi er se, (156, an r')]) := by
  by_cases hx : x < 0
  · have e : isr (D 1) x = false := by rw [isr, decide_eq_false (Int32.not_le.mpr hx), Bool.false_and]
    refine mj_Sx.post (s_Mlays_neg sta d th tr wh q rd F wd ac im lw tk st sh ru rz aw al sd D hi er se r x hx hn) (fun v w' hp hk => ?_)
    obtain ⟨rfl, r', rfl⟩ := hp
    exact ⟨by rw [e], r', (fun z => by rw [e] at z; cases z), rfl⟩
  · obtain ⟨k, hk, rfl⟩ := nI_of hx
    have e : isr (D 1) (nI k) = okr (D 1) k := by rw [isr, nI_clamp hk, decide_eq_true (nI_pos' hk), Bool.true_and]
    refine mj_Sx.post (s_Mlays_k sta d th tr wh q rd F wd ac im lw tk st sh ru rz aw al sd D hi er se r k hk hn) (fun v w' hp hk2 => ?_)
    obtain ⟨rfl, r', h1, rfl⟩ := hp
    exact ⟨by rw [e], r', (fun z => by rw [nI_clamp hk]; exact h1 (by rw [← e]; exact z)), rfl⟩
theorem s_MrefusesRow0 (x : Int32) : mj_Sx sta (d + 1) 218 [.ref 151, .int (bl false), .int x] [] (fun v w => v = some (.int 1) ∧ w = []) := by
  refine mj_Sx.mk m_X10_refusesRow (by decide) n_X10_refusesRow rfl (fun h0 hv => ?_)
  generalize hT : mj_rx m_X10_refusesRow h0 _ _ = T
  repeat (first | refine g_px rfl rfl rfl ?_)
  refine g_if rfl (fun cq => absurd cq (cpF (by decide))) (fun cq => ?_)
  repeat (first | refine g_px rfl rfl rfl ?_)
  subst hT
  exact g_iret hv rfl rfl rfl rfl ⟨rfl, rfl⟩
theorem s_MrefusesRow (x : Int32) (hn : D 1 ≤ 6) : mj_Sx sta (d + 3) 218 [.ref 151, .int (bl true), .int x] [(mo th tr wh (some q) rd F wd ac im lw tk st sh ru rz aw al sd), mdh q D hi er se, (156, an r)] (fun v w => v = some (.int (if isr (D 1) x then 0 else 2)) ∧ ∃ r', (isr (D 1) x = true → ∀ i, i < D 1 → r' i = rwo (D 1) x.toNatClampNeg i) ∧ w = [(mo th tr wh (some q) rd F wd ac im lw tk st sh ru rz aw al sd), mdh q D hi er se, (156, an r')]) := by
  refine mj_Sx.mk m_X10_refusesRow (by decide) n_X10_refusesRow rfl (fun h0 hv => ?_)
  generalize hT : mj_rx m_X10_refusesRow h0 _ _ = T
  repeat (first | refine g_px rfl rfl rfl ?_)
  refine g_if rfl (fun cq => ?_) (fun cq => absurd (cpT (by decide)) cq)
  repeat (first | refine g_px rfl rfl rfl ?_)
  refine g_callV hv [0, 1, 2] 0 rfl rfl rfl rfl rfl rfl rfl rfl (by decide) (s_Mlays sta d th tr wh q rd F wd ac im lw tk st sh ru rz aw al sd D hi er se r x hn) (fun v w' h hp hk2 hv => ?_)
  obtain ⟨rfl, r', hr', rfl⟩ := hp
  have hv : mj_Vw h0 ([(mo th tr wh (some q) rd F wd ac im lw tk st sh ru rz aw al sd), mdh q D hi er se, (156, an r')]) h := hv
  refine g_if rfl (fun cq => ?_) (fun cq => ?_)
  · have cq : bl (isr (D 1) x) = 0 := cq
    rw [bl_0] at cq
    repeat (first | refine g_px rfl rfl rfl ?_)
    subst hT
    exact g_iret hv rfl rfl rfl rfl ⟨by rw [cq]; rfl, r', hr', rfl⟩
  · have cq : ¬ bl (isr (D 1) x) = 0 := cq
    rw [bl_0, Bool.not_eq_false] at cq
    repeat (first | refine g_px rfl rfl rfl ?_)
    subst hT
    exact g_iret hv rfl rfl rfl rfl ⟨by rw [cq]; rfl, r', hr', rfl⟩
variable (MA : Nat → Nat → Nat) (V : Nat → Int32) (sn : Nat → Nat) (g f : Nat → Option Nat)
theorem s_MplaysNow (L : Nat) (SN C : Nat → Nat) (hV : vN V L SN C) (hG : okG D MA SN C L) (hp : prm (D 1) r) : mj_Sx sta (d + 4) 219 [.ref 151] (wg (mo th tr wh (some q) rd F wd ac im lw tk st sh ru rz aw al sd) q D hi er se (MA 1) (MA 3) (MA 4) V r sn g f) (fun v w => v = none ∧ w = wg (mo th tr wh (some q) rd F wd ac im (nI L) (nI (qT D MA L SN r)) (nI (qS D MA L SN C r)) sh ru rz aw al sd) q D hi er se (MA 1) (MA 3) (MA 4) V r SN (mix (D 1) g (qG D MA L SN C r)) (mix (D 1) f (fun m => sdr (qG D MA L SN C r) m (D 1) 0))) := by
  refine mj_Sx.mk m_X10_playsNow (by decide) n_X10_playsNow rfl (fun h0 hv => ?_)
  generalize hT : mj_rx m_X10_playsNow h0 _ _ = T
  obtain ⟨hn, h1, ht, hL, hW, hA, hK, hsn, hC⟩ := hG
  repeat (first | refine g_px rfl rfl rfl ?_)
  refine g_callV hv [0, 5, 7] 0 rfl rfl rfl rfl rfl rfl rfl rfl (by decide) (s_MasNow sta (d + 2) th tr wh q rd F wd ac im lw tk st sh ru rz aw al sd V L SN sn hV.1 hV.2.1) (fun v w' h hp hk2 hv => ?_)
  obtain ⟨rfl, rfl⟩ := hp
  have hv : mj_Vw h0 (wg (mo th tr wh (some q) rd F wd ac im (nI L) tk st sh ru rz aw al sd) q D hi er se (MA 1) (MA 3) (MA 4) V r SN g f) h := hv
  repeat (first | refine g_px rfl rfl rfl ?_)
  refine g_callV hv [0, 1, 2, 3, 4, 5, 6, 7, 8, 9] 0 rfl rfl rfl rfl rfl rfl rfl rfl (by decide) (s_Mplays sta d th tr wh q rd F wd ac im tk st sh ru rz aw al sd D hi er se (MA 1) (MA 3) (MA 4) V r SN g f L C hV.2.2 hp hn ht hL hW hA hK hsn hC) (fun v w' h hp hk2 hv => ?_)
  obtain ⟨rfl, rfl⟩ := hp
  have e : rnf (D 1) (rT (D 1) (D 0) L SN (MA 4) r) r SN (MA 1) (MA 3) C (D 1) = (fun m => sdr (qG D MA L SN C r) m (D 1) 0) := funext fun m => rnf_sdr (MA := MA) (lw := L) (sn := SN) (C := C) hp m
  rw [e] at hv
  subst hT
  exact g_vret hv rfl rfl rfl ⟨rfl, rfl⟩
theorem s_MtakenBy (x : Int32) (L : Nat) (SN C : Nat → Nat) (hV : vN V L SN C) (hG : okG D MA SN C L) : mj_Sx sta (d + 5) 220 [.ref 151, .int x] (wg (mo th tr wh (some q) rd F wd ac im lw tk st sh ru rz aw al sd) q D hi er se (MA 1) (MA 3) (MA 4) V r sn g f) (fun v w => ∃ lw tk st r sn g f, (isr (D 1) x = false ∧ v = some (.int (-1)) ∧ w = wg (mo 0 2 (-1) (some q) rd F wd ac im lw tk st sh ru rz aw al sd) q D hi er se (MA 1) (MA 3) (MA 4) V r sn g f) ∨ (isr (D 1) x = true ∧ v = some (.int (nI (qT D MA L SN (rwo (D 1) x.toNatClampNeg)))) ∧ w = wg (mo 0 0 (-1) (some q) rd F wd ac im lw tk st sh ru rz aw al sd) q D hi er se (MA 1) (MA 3) (MA 4) V r sn g f)) := by
  refine mj_Sx.mk m_X10_takenBy (by decide) n_X10_takenBy rfl (fun h0 hv => ?_)
  generalize hT : mj_rx m_X10_takenBy h0 _ _ = T
  have hG2 := hG
  obtain ⟨hn, h1, ht, hL, hW, hA, hK, hsn, hC⟩ := hG2
  repeat (first | refine g_px rfl rfl rfl ?_)
  refine g_put hv 0 rfl rfl rfl rfl rfl rfl (fun h hv => ?_)
  have hv : mj_Vw h0 (wg (mo 0 tr wh (some q) rd F wd ac im lw tk st sh ru rz aw al sd) q D hi er se (MA 1) (MA 3) (MA 4) V r sn g f) h := hv
  repeat (first | refine g_px rfl rfl rfl ?_ | refine g_get hv 0 rfl rfl rfl rfl ?_)
  refine g_callV hv [0, 1, 6] 0 rfl rfl rfl rfl rfl rfl rfl rfl (by decide) (s_MrefusesRow sta (d + 1) 0 tr wh q rd F wd ac im lw tk st sh ru rz aw al sd D hi er se r x hn) (fun v w' h hp hk2 hv => ?_)
  obtain ⟨rfl, r', hr', rfl⟩ := hp
  have hv : mj_Vw h0 (wg (mo 0 tr wh (some q) rd F wd ac im lw tk st sh ru rz aw al sd) q D hi er se (MA 1) (MA 3) (MA 4) V r' sn g f) h := hv
  cases hi2 : isr (D 1) x with
  | false =>
    repeat (first | refine g_px rfl rfl rfl ?_)
    refine g_if rfl (fun cq => absurd cq (cpF (by decide))) (fun cq => ?_)
    repeat (first | refine g_px rfl rfl rfl ?_)
    refine g_callV hv [0] 0 rfl rfl rfl rfl rfl rfl rfl rfl (by decide) (s_Mrefused sta (d + 3) 0 tr wh (some q) rd F wd ac im lw tk st sh ru rz aw al sd _) (fun v w' h hp hk2 hv => ?_)
    obtain ⟨rfl, rfl⟩ := hp
    subst hT
    exact g_iret hv rfl rfl rfl rfl ⟨_, _, _, _, _, _, _, Or.inl ⟨hi2, rfl, rfl⟩⟩
  | true =>
    have hag := hr' hi2
    have hok : okr (D 1) x.toNatClampNeg = true := by rw [isr, Bool.and_eq_true] at hi2; exact hi2.2
    have hpw := rwo_prm hok
    have hpr : prm (D 1) r' := prm_ag hpw (fun i hi => (hag i hi).symm)
    have hqq := qq_ag (MA := MA) (lw := L) (sn := SN) (C := C) hag hpr.1
    have hT6 : qT D MA L SN r' < 64 := cms_lt' hn hpr (D 1) (Nat.le_refl _)
    have hS6 : qS D MA L SN C r' < 64 := rns_lt hn _
    have hGok := qG_ok (D := D) (DA := MA) (lw := L) (sn := SN) (C := C) (r := r') hn
    repeat (first | refine g_px rfl rfl rfl ?_)
    refine g_if rfl (fun cq => ?_) (fun cq => absurd (cpT (by decide)) cq)
    repeat (first | refine g_px rfl rfl rfl ?_)
    refine g_callV hv [0, 1, 2, 3, 4, 5, 6, 7, 8, 9] 0 rfl rfl rfl rfl rfl rfl rfl rfl (by decide) (s_MplaysNow sta d 0 tr wh q rd F wd ac im lw tk st sh ru rz aw al sd D hi er se r' MA V sn g f L SN C hV hG hpr) (fun v w' h hp hk2 hv => ?_)
    obtain ⟨rfl, rfl⟩ := hp
    have hv : mj_Vw h0 (wg (mo 0 tr wh (some q) rd F wd ac im (nI L) (nI (qT D MA L SN r')) (nI (qS D MA L SN C r')) sh ru rz aw al sd) q D hi er se (MA 1) (MA 3) (MA 4) V r' SN (mix (D 1) g (qG D MA L SN C r')) (mix (D 1) f (fun m => sdr (qG D MA L SN C r') m (D 1) 0))) h := hv
    repeat (first | refine g_px rfl rfl rfl ?_ | refine g_get hv 0 rfl rfl rfl rfl ?_)
    refine g_callV hv [0] 0 rfl rfl rfl rfl rfl rfl rfl rfl (by decide) (s_Mgood sta (d + 3) 0 tr wh (some q) rd F wd ac im (nI L) (nI (qT D MA L SN r')) (nI (qS D MA L SN C r')) sh ru rz aw al sd _) (fun v w' h hp hk2 hv => ?_)
    obtain ⟨rfl, rfl⟩ := hp
    subst hT
    exact g_iret hv rfl rfl rfl rfl ⟨_, _, _, _, _, _, _, Or.inr ⟨hi2, by rw [hqq.1], rfl⟩⟩
theorem s_MtakenBy_u (x : Int32) : mj_Sx sta (d + 5) 220 [.ref 151, .int x] [(mo th tr wh none rd F wd ac im lw tk st sh ru rz aw al sd)] (fun v w => v = some (.int (-1)) ∧ w = [(mo 0 1 (-1) none rd F wd ac im lw tk st sh ru rz aw al sd)]) := by
  refine mj_Sx.mk m_X10_takenBy (by decide) n_X10_takenBy rfl (fun h0 hv => ?_)
  generalize hT : mj_rx m_X10_takenBy h0 _ _ = T
  repeat (first | refine g_px rfl rfl rfl ?_)
  refine g_put hv 0 rfl rfl rfl rfl rfl rfl (fun h hv => ?_)
  have hv : mj_Vw h0 ([(mo 0 tr wh none rd F wd ac im lw tk st sh ru rz aw al sd)]) h := hv
  repeat (first | refine g_px rfl rfl rfl ?_ | refine g_get hv 0 rfl rfl rfl rfl ?_)
  refine g_callV hv [] 0 rfl rfl rfl rfl rfl rfl rfl rfl (by decide) (s_MrefusesRow0 sta (d + 3) x) (fun v w' h hp hk2 hv => ?_)
  obtain ⟨rfl, rfl⟩ := hp
  have hv : mj_Vw h0 ([(mo 0 tr wh none rd F wd ac im lw tk st sh ru rz aw al sd)]) h := hv
  repeat (first | refine g_px rfl rfl rfl ?_)
  refine g_if rfl (fun cq => absurd cq (cpF (by decide))) (fun cq => ?_)
  repeat (first | refine g_px rfl rfl rfl ?_)
  refine g_callV hv [0] 0 rfl rfl rfl rfl rfl rfl rfl rfl (by decide) (s_Mrefused sta (d + 3) 0 tr wh none rd F wd ac im lw tk st sh ru rz aw al sd _) (fun v w' h hp hk2 hv => ?_)
  obtain ⟨rfl, rfl⟩ := hp
  subst hT
  exact g_iret hv rfl rfl rfl rfl ⟨rfl, rfl⟩
theorem s_MgoesBy (x : Int32) (L : Nat) (SN C : Nat → Nat) (hV : vN V L SN C) (hG : okG D MA SN C L) : mj_Sx sta (d + 5) 221 [.ref 151, .int x] (wg (mo th tr wh (some q) rd F wd ac im lw tk st sh ru rz aw al sd) q D hi er se (MA 1) (MA 3) (MA 4) V r sn g f) (fun v w => ∃ lw tk st r sn g f, (isr (D 1) x = false ∧ v = some (.int (-1)) ∧ w = wg (mo 0 2 (-1) (some q) rd F wd ac im lw tk st sh ru rz aw al sd) q D hi er se (MA 1) (MA 3) (MA 4) V r sn g f) ∨ (isr (D 1) x = true ∧ v = some (.int (nI (gmg (qS D MA L SN C (rwo (D 1) x.toNatClampNeg)) (qT D MA L SN (rwo (D 1) x.toNatClampNeg)) (qG D MA L SN C (rwo (D 1) x.toNatClampNeg)) (D 1)))) ∧ w = wg (mo 0 0 (-1) (some q) rd F wd ac im lw tk st sh ru rz aw al sd) q D hi er se (MA 1) (MA 3) (MA 4) V r sn g f)) := by
  refine mj_Sx.mk m_X10_goesBy (by decide) n_X10_goesBy rfl (fun h0 hv => ?_)
  generalize hT : mj_rx m_X10_goesBy h0 _ _ = T
  have hG2 := hG
  obtain ⟨hn, h1, ht, hL, hW, hA, hK, hsn, hC⟩ := hG2
  repeat (first | refine g_px rfl rfl rfl ?_)
  refine g_put hv 0 rfl rfl rfl rfl rfl rfl (fun h hv => ?_)
  have hv : mj_Vw h0 (wg (mo 0 tr wh (some q) rd F wd ac im lw tk st sh ru rz aw al sd) q D hi er se (MA 1) (MA 3) (MA 4) V r sn g f) h := hv
  repeat (first | refine g_px rfl rfl rfl ?_ | refine g_get hv 0 rfl rfl rfl rfl ?_)
  refine g_callV hv [0, 1, 6] 0 rfl rfl rfl rfl rfl rfl rfl rfl (by decide) (s_MrefusesRow sta (d + 1) 0 tr wh q rd F wd ac im lw tk st sh ru rz aw al sd D hi er se r x hn) (fun v w' h hp hk2 hv => ?_)
  obtain ⟨rfl, r', hr', rfl⟩ := hp
  have hv : mj_Vw h0 (wg (mo 0 tr wh (some q) rd F wd ac im lw tk st sh ru rz aw al sd) q D hi er se (MA 1) (MA 3) (MA 4) V r' sn g f) h := hv
  cases hi2 : isr (D 1) x with
  | false =>
    repeat (first | refine g_px rfl rfl rfl ?_)
    refine g_if rfl (fun cq => absurd cq (cpF (by decide))) (fun cq => ?_)
    repeat (first | refine g_px rfl rfl rfl ?_)
    refine g_callV hv [0] 0 rfl rfl rfl rfl rfl rfl rfl rfl (by decide) (s_Mrefused sta (d + 3) 0 tr wh (some q) rd F wd ac im lw tk st sh ru rz aw al sd _) (fun v w' h hp hk2 hv => ?_)
    obtain ⟨rfl, rfl⟩ := hp
    subst hT
    exact g_iret hv rfl rfl rfl rfl ⟨_, _, _, _, _, _, _, Or.inl ⟨hi2, rfl, rfl⟩⟩
  | true =>
    have hag := hr' hi2
    have hok : okr (D 1) x.toNatClampNeg = true := by rw [isr, Bool.and_eq_true] at hi2; exact hi2.2
    have hpw := rwo_prm hok
    have hpr : prm (D 1) r' := prm_ag hpw (fun i hi => (hag i hi).symm)
    have hqq := qq_ag (MA := MA) (lw := L) (sn := SN) (C := C) hag hpr.1
    have hT6 : qT D MA L SN r' < 64 := cms_lt' hn hpr (D 1) (Nat.le_refl _)
    have hS6 : qS D MA L SN C r' < 64 := rns_lt hn _
    have hGok := qG_ok (D := D) (DA := MA) (lw := L) (sn := SN) (C := C) (r := r') hn
    repeat (first | refine g_px rfl rfl rfl ?_)
    refine g_if rfl (fun cq => ?_) (fun cq => absurd (cpT (by decide)) cq)
    repeat (first | refine g_px rfl rfl rfl ?_)
    refine g_callV hv [0, 1, 2, 3, 4, 5, 6, 7, 8, 9] 0 rfl rfl rfl rfl rfl rfl rfl rfl (by decide) (s_MplaysNow sta d 0 tr wh q rd F wd ac im lw tk st sh ru rz aw al sd D hi er se r' MA V sn g f L SN C hV hG hpr) (fun v w' h hp hk2 hv => ?_)
    obtain ⟨rfl, rfl⟩ := hp
    have hv : mj_Vw h0 (wg (mo 0 tr wh (some q) rd F wd ac im (nI L) (nI (qT D MA L SN r')) (nI (qS D MA L SN C r')) sh ru rz aw al sd) q D hi er se (MA 1) (MA 3) (MA 4) V r' SN (mix (D 1) g (qG D MA L SN C r')) (mix (D 1) f (fun m => sdr (qG D MA L SN C r') m (D 1) 0))) h := hv
    repeat (first | refine g_px rfl rfl rfl ?_)
    refine g_callV hv [0, 1, 8] 0 rfl rfl rfl rfl rfl rfl rfl rfl (by decide) (s_Mgoing sta (d + 2) 0 tr wh q rd F wd ac im (nI L) sh ru rz aw al sd D hi er se (mix (D 1) g (qG D MA L SN C r')) (qS D MA L SN C r') (qT D MA L SN r') hS6 hT6 hn (fun y p hy e => by rw [show mix (D 1) g (qG D MA L SN C r') y = qG D MA L SN C r' y from if_pos hy] at e; exact hGok y p e)) (fun v w' h hp hk2 hv => ?_)
    obtain ⟨rfl, rfl⟩ := hp
    rw [gmg_mix (D 1) (Nat.le_refl _)]
    have hv : mj_Vw h0 (wg (mo 0 tr wh (some q) rd F wd ac im (nI L) (nI (qT D MA L SN r')) (nI (qS D MA L SN C r')) sh ru rz aw al sd) q D hi er se (MA 1) (MA 3) (MA 4) V r' SN (mix (D 1) g (qG D MA L SN C r')) (mix (D 1) f (fun m => sdr (qG D MA L SN C r') m (D 1) 0))) h := hv
    refine g_callV hv [0] 0 rfl rfl rfl rfl rfl rfl rfl rfl (by decide) (s_Mgood sta (d + 3) 0 tr wh (some q) rd F wd ac im (nI L) (nI (qT D MA L SN r')) (nI (qS D MA L SN C r')) sh ru rz aw al sd _) (fun v w' h hp hk2 hv => ?_)
    obtain ⟨rfl, rfl⟩ := hp
    subst hT
    exact g_iret hv rfl rfl rfl rfl ⟨_, _, _, _, _, _, _, Or.inr ⟨hi2, by rw [hqq.1, hqq.2.1, hqq.2.2], rfl⟩⟩
theorem s_MgoesBy_u (x : Int32) : mj_Sx sta (d + 5) 221 [.ref 151, .int x] [(mo th tr wh none rd F wd ac im lw tk st sh ru rz aw al sd)] (fun v w => v = some (.int (-1)) ∧ w = [(mo 0 1 (-1) none rd F wd ac im lw tk st sh ru rz aw al sd)]) := by
  refine mj_Sx.mk m_X10_goesBy (by decide) n_X10_goesBy rfl (fun h0 hv => ?_)
  generalize hT : mj_rx m_X10_goesBy h0 _ _ = T
  repeat (first | refine g_px rfl rfl rfl ?_)
  refine g_put hv 0 rfl rfl rfl rfl rfl rfl (fun h hv => ?_)
  have hv : mj_Vw h0 ([(mo 0 tr wh none rd F wd ac im lw tk st sh ru rz aw al sd)]) h := hv
  repeat (first | refine g_px rfl rfl rfl ?_ | refine g_get hv 0 rfl rfl rfl rfl ?_)
  refine g_callV hv [] 0 rfl rfl rfl rfl rfl rfl rfl rfl (by decide) (s_MrefusesRow0 sta (d + 3) x) (fun v w' h hp hk2 hv => ?_)
  obtain ⟨rfl, rfl⟩ := hp
  have hv : mj_Vw h0 ([(mo 0 tr wh none rd F wd ac im lw tk st sh ru rz aw al sd)]) h := hv
  repeat (first | refine g_px rfl rfl rfl ?_)
  refine g_if rfl (fun cq => absurd cq (cpF (by decide))) (fun cq => ?_)
  repeat (first | refine g_px rfl rfl rfl ?_)
  refine g_callV hv [0] 0 rfl rfl rfl rfl rfl rfl rfl rfl (by decide) (s_Mrefused sta (d + 3) 0 tr wh none rd F wd ac im lw tk st sh ru rz aw al sd _) (fun v w' h hp hk2 hv => ?_)
  obtain ⟨rfl, rfl⟩ := hp
  subst hT
  exact g_iret hv rfl rfl rfl rfl ⟨rfl, rfl⟩
theorem s_MsendsBy (x : Int32) (m : Nat) (L : Nat) (SN C : Nat → Nat) (hm : m < D 1) (hV : vN V L SN C) (hG : okG D MA SN C L) : mj_Sx sta (d + 5) 222 [.ref 151, .int x, (.int (nI m))] (wg (mo th tr wh (some q) rd F wd ac im lw tk st sh ru rz aw al sd) q D hi er se (MA 1) (MA 3) (MA 4) V r sn g f) (fun v w => ∃ lw tk st r sn g f, (isr (D 1) x = false ∧ v = some (.int (-1)) ∧ w = wg (mo 0 2 (-1) (some q) rd F wd ac im lw tk st sh ru rz aw al sd) q D hi er se (MA 1) (MA 3) (MA 4) V r sn g f) ∨ (isr (D 1) x = true ∧ v = some (.int (snd (qG D MA L SN C (rwo (D 1) x.toNatClampNeg) m))) ∧ w = wg (mo 0 0 (-1) (some q) rd F wd ac im lw tk st sh ru rz aw al sd) q D hi er se (MA 1) (MA 3) (MA 4) V r sn g f)) := by
  refine mj_Sx.mk m_X10_sendsBy (by decide) n_X10_sendsBy rfl (fun h0 hv => ?_)
  generalize hT : mj_rx m_X10_sendsBy h0 _ _ = T
  have hG2 := hG
  obtain ⟨hn, h1, ht, hL, hW, hA, hK, hsn, hC⟩ := hG2
  repeat (first | refine g_px rfl rfl rfl ?_)
  refine g_put hv 0 rfl rfl rfl rfl rfl rfl (fun h hv => ?_)
  have hv : mj_Vw h0 (wg (mo 0 tr wh (some q) rd F wd ac im lw tk st sh ru rz aw al sd) q D hi er se (MA 1) (MA 3) (MA 4) V r sn g f) h := hv
  repeat (first | refine g_px rfl rfl rfl ?_)
  refine g_callV hv [0, 1] 0 rfl rfl rfl rfl rfl rfl rfl rfl (by decide) (s_MisMan sta (d + 3) 0 tr wh q rd F wd ac im lw tk st sh ru rz aw al sd D hi er se (nI m) hn) (fun v w' h hp hk2 hv => ?_)
  obtain ⟨rfl, rfl⟩ := hp
  rw [inR_k hm (by omega)]
  have hv : mj_Vw h0 (wg (mo 0 tr wh (some q) rd F wd ac im lw tk st sh ru rz aw al sd) q D hi er se (MA 1) (MA 3) (MA 4) V r sn g f) h := hv
  repeat (first | refine g_px rfl rfl rfl ?_ | refine g_get hv 0 rfl rfl rfl rfl ?_)
  refine g_callV hv [0, 1, 6] 0 rfl rfl rfl rfl rfl rfl rfl rfl (by decide) (s_MrefusesRow sta (d + 1) 0 tr wh q rd F wd ac im lw tk st sh ru rz aw al sd D hi er se r x hn) (fun v w' h hp hk2 hv => ?_)
  obtain ⟨rfl, r', hr', rfl⟩ := hp
  have hv : mj_Vw h0 (wg (mo 0 tr wh (some q) rd F wd ac im lw tk st sh ru rz aw al sd) q D hi er se (MA 1) (MA 3) (MA 4) V r' sn g f) h := hv
  cases hi2 : isr (D 1) x with
  | false =>
    repeat (first | refine g_px rfl rfl rfl ?_)
    refine g_if rfl (fun cq => absurd cq (cpF (by decide))) (fun cq => ?_)
    repeat (first | refine g_px rfl rfl rfl ?_)
    refine g_callV hv [0] 0 rfl rfl rfl rfl rfl rfl rfl rfl (by decide) (s_Mrefused sta (d + 3) 0 tr wh (some q) rd F wd ac im lw tk st sh ru rz aw al sd _) (fun v w' h hp hk2 hv => ?_)
    obtain ⟨rfl, rfl⟩ := hp
    subst hT
    exact g_iret hv rfl rfl rfl rfl ⟨_, _, _, _, _, _, _, Or.inl ⟨hi2, rfl, rfl⟩⟩
  | true =>
    have hag := hr' hi2
    have hok : okr (D 1) x.toNatClampNeg = true := by rw [isr, Bool.and_eq_true] at hi2; exact hi2.2
    have hpw := rwo_prm hok
    have hpr : prm (D 1) r' := prm_ag hpw (fun i hi => (hag i hi).symm)
    have hqq := qq_ag (MA := MA) (lw := L) (sn := SN) (C := C) hag hpr.1
    have hT6 : qT D MA L SN r' < 64 := cms_lt' hn hpr (D 1) (Nat.le_refl _)
    have hS6 : qS D MA L SN C r' < 64 := rns_lt hn _
    have hGok := qG_ok (D := D) (DA := MA) (lw := L) (sn := SN) (C := C) (r := r') hn
    repeat (first | refine g_px rfl rfl rfl ?_)
    refine g_if rfl (fun cq => ?_) (fun cq => absurd (cpT (by decide)) cq)
    repeat (first | refine g_px rfl rfl rfl ?_)
    refine g_callV hv [0, 1, 2, 3, 4, 5, 6, 7, 8, 9] 0 rfl rfl rfl rfl rfl rfl rfl rfl (by decide) (s_MplaysNow sta d 0 tr wh q rd F wd ac im lw tk st sh ru rz aw al sd D hi er se r' MA V sn g f L SN C hV hG hpr) (fun v w' h hp hk2 hv => ?_)
    obtain ⟨rfl, rfl⟩ := hp
    have hv : mj_Vw h0 (wg (mo 0 tr wh (some q) rd F wd ac im (nI L) (nI (qT D MA L SN r')) (nI (qS D MA L SN C r')) sh ru rz aw al sd) q D hi er se (MA 1) (MA 3) (MA 4) V r' SN (mix (D 1) g (qG D MA L SN C r')) (mix (D 1) f (fun m => sdr (qG D MA L SN C r') m (D 1) 0))) h := hv
    repeat (first | refine g_px rfl rfl rfl ?_ | refine g_get hv 0 rfl rfl rfl rfl ?_)
    refine g_s6 hv 8 (show m < 6 by omega) rfl rfl ?_
    rw [show mix (D 1) g (qG D MA L SN C r') m = qG D MA L SN C r' m from if_pos hm]
    refine g_callV hv [0] 0 rfl rfl rfl rfl rfl rfl rfl rfl (by decide) (s_Mgood sta (d + 3) 0 tr wh (some q) rd F wd ac im (nI L) (nI (qT D MA L SN r')) (nI (qS D MA L SN C r')) sh ru rz aw al sd _) (fun v w' h hp hk2 hv => ?_)
    obtain ⟨rfl, rfl⟩ := hp
    subst hT
    exact g_iret hv rfl rfl rfl rfl ⟨_, _, _, _, _, _, _, Or.inr ⟨hi2, by rw [hqq.2.1], rfl⟩⟩
theorem s_MsendsBy_x (x m : Int32) (hn : D 1 ≤ 6) (hno : inR (D 1) m = false) : mj_Sx sta (d + 5) 222 [.ref 151, .int x, .int m] [(mo th tr wh (some q) rd F wd ac im lw tk st sh ru rz aw al sd), mdh q D hi er se] (fun v w => v = some (.int (-1)) ∧ w = [(mo 0 1 (-1) (some q) rd F wd ac im lw tk st sh ru rz aw al sd), mdh q D hi er se]) := by
  refine mj_Sx.mk m_X10_sendsBy (by decide) n_X10_sendsBy rfl (fun h0 hv => ?_)
  generalize hT : mj_rx m_X10_sendsBy h0 _ _ = T
  repeat (first | refine g_px rfl rfl rfl ?_)
  refine g_put hv 0 rfl rfl rfl rfl rfl rfl (fun h hv => ?_)
  have hv : mj_Vw h0 ([(mo 0 tr wh (some q) rd F wd ac im lw tk st sh ru rz aw al sd), mdh q D hi er se]) h := hv
  repeat (first | refine g_px rfl rfl rfl ?_)
  refine g_callV hv [0, 1] 0 rfl rfl rfl rfl rfl rfl rfl rfl (by decide) (s_MisMan sta (d + 3) 0 tr wh q rd F wd ac im lw tk st sh ru rz aw al sd D hi er se m hn) (fun v w' h hp hk2 hv => ?_)
  obtain ⟨rfl, rfl⟩ := hp
  rw [hno]
  have hv : mj_Vw h0 ([(mo 0 tr wh (some q) rd F wd ac im lw tk st sh ru rz aw al sd), mdh q D hi er se]) h := hv
  repeat (first | refine g_px rfl rfl rfl ?_)
  refine g_callV hv [] 0 rfl rfl rfl rfl rfl rfl rfl rfl (by decide) (s_MrefusesRow0 sta (d + 3) x) (fun v w' h hp hk2 hv => ?_)
  obtain ⟨rfl, rfl⟩ := hp
  have hv : mj_Vw h0 ([(mo 0 tr wh (some q) rd F wd ac im lw tk st sh ru rz aw al sd), mdh q D hi er se]) h := hv
  repeat (first | refine g_px rfl rfl rfl ?_)
  refine g_if rfl (fun cq => absurd cq (cpF (by decide))) (fun cq => ?_)
  repeat (first | refine g_px rfl rfl rfl ?_)
  refine g_callV hv [0] 0 rfl rfl rfl rfl rfl rfl rfl rfl (by decide) (s_Mrefused sta (d + 3) 0 tr wh (some q) rd F wd ac im lw tk st sh ru rz aw al sd _) (fun v w' h hp hk2 hv => ?_)
  obtain ⟨rfl, rfl⟩ := hp
  subst hT
  exact g_iret hv rfl rfl rfl rfl ⟨rfl, rfl⟩
theorem s_MsendsBy_u (x m : Int32) : mj_Sx sta (d + 5) 222 [.ref 151, .int x, .int m] [(mo th tr wh none rd F wd ac im lw tk st sh ru rz aw al sd)] (fun v w => v = some (.int (-1)) ∧ w = [(mo 0 1 (-1) none rd F wd ac im lw tk st sh ru rz aw al sd)]) := by
  refine mj_Sx.mk m_X10_sendsBy (by decide) n_X10_sendsBy rfl (fun h0 hv => ?_)
  generalize hT : mj_rx m_X10_sendsBy h0 _ _ = T
  repeat (first | refine g_px rfl rfl rfl ?_)
  refine g_put hv 0 rfl rfl rfl rfl rfl rfl (fun h hv => ?_)
  have hv : mj_Vw h0 ([(mo 0 tr wh none rd F wd ac im lw tk st sh ru rz aw al sd)]) h := hv
  repeat (first | refine g_px rfl rfl rfl ?_)
  refine g_callV hv [0] 0 rfl rfl rfl rfl rfl rfl rfl rfl (by decide) (s_MisMan_u sta (d + 3) 0 tr wh rd F wd ac im lw tk st sh ru rz aw al sd m) (fun v w' h hp hk2 hv => ?_)
  obtain ⟨rfl, rfl⟩ := hp
  have hv : mj_Vw h0 ([(mo 0 tr wh none rd F wd ac im lw tk st sh ru rz aw al sd)]) h := hv
  repeat (first | refine g_px rfl rfl rfl ?_)
  refine g_callV hv [] 0 rfl rfl rfl rfl rfl rfl rfl rfl (by decide) (s_MrefusesRow0 sta (d + 3) x) (fun v w' h hp hk2 hv => ?_)
  obtain ⟨rfl, rfl⟩ := hp
  have hv : mj_Vw h0 ([(mo 0 tr wh none rd F wd ac im lw tk st sh ru rz aw al sd)]) h := hv
  repeat (first | refine g_px rfl rfl rfl ?_)
  refine g_if rfl (fun cq => absurd cq (cpF (by decide))) (fun cq => ?_)
  repeat (first | refine g_px rfl rfl rfl ?_)
  refine g_callV hv [0] 0 rfl rfl rfl rfl rfl rfl rfl rfl (by decide) (s_Mrefused sta (d + 3) 0 tr wh none rd F wd ac im lw tk st sh ru rz aw al sd _) (fun v w' h hp hk2 hv => ?_)
  obtain ⟨rfl, rfl⟩ := hp
  subst hT
  exact g_iret hv rfl rfl rfl rfl ⟨rfl, rfl⟩
theorem s_MlossBy (x : Int32) (m : Nat) (L : Nat) (SN C : Nat → Nat) (hm : m < D 1) (hV : vN V L SN C) (hG : okG D MA SN C L) : mj_Sx sta (d + 5) 223 [.ref 151, .int x, (.int (nI m))] (wg (mo th tr wh (some q) rd F wd ac im lw tk st sh ru rz aw al sd) q D hi er se (MA 1) (MA 3) (MA 4) V r sn g f) (fun v w => ∃ lw tk st r sn g f, (isr (D 1) x = false ∧ v = some (.int (-1)) ∧ w = wg (mo 0 2 (-1) (some q) rd F wd ac im lw tk st sh ru rz aw al sd) q D hi er se (MA 1) (MA 3) (MA 4) V r sn g f) ∨ (isr (D 1) x = true ∧ v = some (.int (nI (los (qT D MA L SN (rwo (D 1) x.toNatClampNeg)) (qG D MA L SN C (rwo (D 1) x.toNatClampNeg)) (MA 1) (MA 3) m))) ∧ w = wg (mo 0 0 (-1) (some q) rd F wd ac im lw tk st sh ru rz aw al sd) q D hi er se (MA 1) (MA 3) (MA 4) V r sn g f)) := by
  refine mj_Sx.mk m_X10_lossBy (by decide) n_X10_lossBy rfl (fun h0 hv => ?_)
  generalize hT : mj_rx m_X10_lossBy h0 _ _ = T
  have hG2 := hG
  obtain ⟨hn, h1, ht, hL, hW, hA, hK, hsn, hC⟩ := hG2
  repeat (first | refine g_px rfl rfl rfl ?_)
  refine g_put hv 0 rfl rfl rfl rfl rfl rfl (fun h hv => ?_)
  have hv : mj_Vw h0 (wg (mo 0 tr wh (some q) rd F wd ac im lw tk st sh ru rz aw al sd) q D hi er se (MA 1) (MA 3) (MA 4) V r sn g f) h := hv
  repeat (first | refine g_px rfl rfl rfl ?_)
  refine g_callV hv [0, 1] 0 rfl rfl rfl rfl rfl rfl rfl rfl (by decide) (s_MisMan sta (d + 3) 0 tr wh q rd F wd ac im lw tk st sh ru rz aw al sd D hi er se (nI m) hn) (fun v w' h hp hk2 hv => ?_)
  obtain ⟨rfl, rfl⟩ := hp
  rw [inR_k hm (by omega)]
  have hv : mj_Vw h0 (wg (mo 0 tr wh (some q) rd F wd ac im lw tk st sh ru rz aw al sd) q D hi er se (MA 1) (MA 3) (MA 4) V r sn g f) h := hv
  repeat (first | refine g_px rfl rfl rfl ?_ | refine g_get hv 0 rfl rfl rfl rfl ?_)
  refine g_callV hv [0, 1, 6] 0 rfl rfl rfl rfl rfl rfl rfl rfl (by decide) (s_MrefusesRow sta (d + 1) 0 tr wh q rd F wd ac im lw tk st sh ru rz aw al sd D hi er se r x hn) (fun v w' h hp hk2 hv => ?_)
  obtain ⟨rfl, r', hr', rfl⟩ := hp
  have hv : mj_Vw h0 (wg (mo 0 tr wh (some q) rd F wd ac im lw tk st sh ru rz aw al sd) q D hi er se (MA 1) (MA 3) (MA 4) V r' sn g f) h := hv
  cases hi2 : isr (D 1) x with
  | false =>
    repeat (first | refine g_px rfl rfl rfl ?_)
    refine g_if rfl (fun cq => absurd cq (cpF (by decide))) (fun cq => ?_)
    repeat (first | refine g_px rfl rfl rfl ?_)
    refine g_callV hv [0] 0 rfl rfl rfl rfl rfl rfl rfl rfl (by decide) (s_Mrefused sta (d + 3) 0 tr wh (some q) rd F wd ac im lw tk st sh ru rz aw al sd _) (fun v w' h hp hk2 hv => ?_)
    obtain ⟨rfl, rfl⟩ := hp
    subst hT
    exact g_iret hv rfl rfl rfl rfl ⟨_, _, _, _, _, _, _, Or.inl ⟨hi2, rfl, rfl⟩⟩
  | true =>
    have hag := hr' hi2
    have hok : okr (D 1) x.toNatClampNeg = true := by rw [isr, Bool.and_eq_true] at hi2; exact hi2.2
    have hpw := rwo_prm hok
    have hpr : prm (D 1) r' := prm_ag hpw (fun i hi => (hag i hi).symm)
    have hqq := qq_ag (MA := MA) (lw := L) (sn := SN) (C := C) hag hpr.1
    have hT6 : qT D MA L SN r' < 64 := cms_lt' hn hpr (D 1) (Nat.le_refl _)
    have hS6 : qS D MA L SN C r' < 64 := rns_lt hn _
    have hGok := qG_ok (D := D) (DA := MA) (lw := L) (sn := SN) (C := C) (r := r') hn
    repeat (first | refine g_px rfl rfl rfl ?_)
    refine g_if rfl (fun cq => ?_) (fun cq => absurd (cpT (by decide)) cq)
    repeat (first | refine g_px rfl rfl rfl ?_)
    refine g_callV hv [0, 1, 2, 3, 4, 5, 6, 7, 8, 9] 0 rfl rfl rfl rfl rfl rfl rfl rfl (by decide) (s_MplaysNow sta d 0 tr wh q rd F wd ac im lw tk st sh ru rz aw al sd D hi er se r' MA V sn g f L SN C hV hG hpr) (fun v w' h hp hk2 hv => ?_)
    obtain ⟨rfl, rfl⟩ := hp
    have hv : mj_Vw h0 (wg (mo 0 tr wh (some q) rd F wd ac im (nI L) (nI (qT D MA L SN r')) (nI (qS D MA L SN C r')) sh ru rz aw al sd) q D hi er se (MA 1) (MA 3) (MA 4) V r' SN (mix (D 1) g (qG D MA L SN C r')) (mix (D 1) f (fun m => sdr (qG D MA L SN C r') m (D 1) 0))) h := hv
    repeat (first | refine g_px rfl rfl rfl ?_)
    refine g_callV hv [0, 1, 2, 3, 8] 0 rfl rfl rfl rfl rfl rfl rfl rfl (by decide) (s_MlossOf sta (d + 2) 0 tr wh q rd F wd ac im (nI L) (nI (qS D MA L SN C r')) sh ru rz aw al sd D hi er se (MA 1) (MA 3) (mix (D 1) g (qG D MA L SN C r')) (qT D MA L SN r') m hT6 (by omega) (fun p e => by rw [show mix (D 1) g (qG D MA L SN C r') m = qG D MA L SN C r' m from if_pos hm] at e; exact hGok m p e)) (fun v w' h hp hk2 hv => ?_)
    obtain ⟨rfl, rfl⟩ := hp
    rw [los_mix hm]
    have hv : mj_Vw h0 (wg (mo 0 tr wh (some q) rd F wd ac im (nI L) (nI (qT D MA L SN r')) (nI (qS D MA L SN C r')) sh ru rz aw al sd) q D hi er se (MA 1) (MA 3) (MA 4) V r' SN (mix (D 1) g (qG D MA L SN C r')) (mix (D 1) f (fun m => sdr (qG D MA L SN C r') m (D 1) 0))) h := hv
    refine g_callV hv [0] 0 rfl rfl rfl rfl rfl rfl rfl rfl (by decide) (s_Mgood sta (d + 3) 0 tr wh (some q) rd F wd ac im (nI L) (nI (qT D MA L SN r')) (nI (qS D MA L SN C r')) sh ru rz aw al sd _) (fun v w' h hp hk2 hv => ?_)
    obtain ⟨rfl, rfl⟩ := hp
    subst hT
    exact g_iret hv rfl rfl rfl rfl ⟨_, _, _, _, _, _, _, Or.inr ⟨hi2, by rw [hqq.1, hqq.2.1], rfl⟩⟩
theorem s_MlossBy_x (x m : Int32) (hn : D 1 ≤ 6) (hno : inR (D 1) m = false) : mj_Sx sta (d + 5) 223 [.ref 151, .int x, .int m] [(mo th tr wh (some q) rd F wd ac im lw tk st sh ru rz aw al sd), mdh q D hi er se] (fun v w => v = some (.int (-1)) ∧ w = [(mo 0 1 (-1) (some q) rd F wd ac im lw tk st sh ru rz aw al sd), mdh q D hi er se]) := by
  refine mj_Sx.mk m_X10_lossBy (by decide) n_X10_lossBy rfl (fun h0 hv => ?_)
  generalize hT : mj_rx m_X10_lossBy h0 _ _ = T
  repeat (first | refine g_px rfl rfl rfl ?_)
  refine g_put hv 0 rfl rfl rfl rfl rfl rfl (fun h hv => ?_)
  have hv : mj_Vw h0 ([(mo 0 tr wh (some q) rd F wd ac im lw tk st sh ru rz aw al sd), mdh q D hi er se]) h := hv
  repeat (first | refine g_px rfl rfl rfl ?_)
  refine g_callV hv [0, 1] 0 rfl rfl rfl rfl rfl rfl rfl rfl (by decide) (s_MisMan sta (d + 3) 0 tr wh q rd F wd ac im lw tk st sh ru rz aw al sd D hi er se m hn) (fun v w' h hp hk2 hv => ?_)
  obtain ⟨rfl, rfl⟩ := hp
  rw [hno]
  have hv : mj_Vw h0 ([(mo 0 tr wh (some q) rd F wd ac im lw tk st sh ru rz aw al sd), mdh q D hi er se]) h := hv
  repeat (first | refine g_px rfl rfl rfl ?_)
  refine g_callV hv [] 0 rfl rfl rfl rfl rfl rfl rfl rfl (by decide) (s_MrefusesRow0 sta (d + 3) x) (fun v w' h hp hk2 hv => ?_)
  obtain ⟨rfl, rfl⟩ := hp
  have hv : mj_Vw h0 ([(mo 0 tr wh (some q) rd F wd ac im lw tk st sh ru rz aw al sd), mdh q D hi er se]) h := hv
  repeat (first | refine g_px rfl rfl rfl ?_)
  refine g_if rfl (fun cq => absurd cq (cpF (by decide))) (fun cq => ?_)
  repeat (first | refine g_px rfl rfl rfl ?_)
  refine g_callV hv [0] 0 rfl rfl rfl rfl rfl rfl rfl rfl (by decide) (s_Mrefused sta (d + 3) 0 tr wh (some q) rd F wd ac im lw tk st sh ru rz aw al sd _) (fun v w' h hp hk2 hv => ?_)
  obtain ⟨rfl, rfl⟩ := hp
  subst hT
  exact g_iret hv rfl rfl rfl rfl ⟨rfl, rfl⟩
theorem s_MlossBy_u (x m : Int32) : mj_Sx sta (d + 5) 223 [.ref 151, .int x, .int m] [(mo th tr wh none rd F wd ac im lw tk st sh ru rz aw al sd)] (fun v w => v = some (.int (-1)) ∧ w = [(mo 0 1 (-1) none rd F wd ac im lw tk st sh ru rz aw al sd)]) := by
  refine mj_Sx.mk m_X10_lossBy (by decide) n_X10_lossBy rfl (fun h0 hv => ?_)
  generalize hT : mj_rx m_X10_lossBy h0 _ _ = T
  repeat (first | refine g_px rfl rfl rfl ?_)
  refine g_put hv 0 rfl rfl rfl rfl rfl rfl (fun h hv => ?_)
  have hv : mj_Vw h0 ([(mo 0 tr wh none rd F wd ac im lw tk st sh ru rz aw al sd)]) h := hv
  repeat (first | refine g_px rfl rfl rfl ?_)
  refine g_callV hv [0] 0 rfl rfl rfl rfl rfl rfl rfl rfl (by decide) (s_MisMan_u sta (d + 3) 0 tr wh rd F wd ac im lw tk st sh ru rz aw al sd m) (fun v w' h hp hk2 hv => ?_)
  obtain ⟨rfl, rfl⟩ := hp
  have hv : mj_Vw h0 ([(mo 0 tr wh none rd F wd ac im lw tk st sh ru rz aw al sd)]) h := hv
  repeat (first | refine g_px rfl rfl rfl ?_)
  refine g_callV hv [] 0 rfl rfl rfl rfl rfl rfl rfl rfl (by decide) (s_MrefusesRow0 sta (d + 3) x) (fun v w' h hp hk2 hv => ?_)
  obtain ⟨rfl, rfl⟩ := hp
  have hv : mj_Vw h0 ([(mo 0 tr wh none rd F wd ac im lw tk st sh ru rz aw al sd)]) h := hv
  repeat (first | refine g_px rfl rfl rfl ?_)
  refine g_if rfl (fun cq => absurd cq (cpF (by decide))) (fun cq => ?_)
  repeat (first | refine g_px rfl rfl rfl ?_)
  refine g_callV hv [0] 0 rfl rfl rfl rfl rfl rfl rfl rfl (by decide) (s_Mrefused sta (d + 3) 0 tr wh none rd F wd ac im lw tk st sh ru rz aw al sd _) (fun v w' h hp hk2 hv => ?_)
  obtain ⟨rfl, rfl⟩ := hp
  subst hT
  exact g_iret hv rfl rfl rfl rfl ⟨rfl, rfl⟩
theorem s_MwouldGo (m L : Nat) (SN C : Nat → Nat) (hm : m < D 1) (hV : vN V L SN C) (hG : okG D MA SN C L) : mj_Sx sta (d + 3) 217 [.ref 151, (.int (nI m))] (wg (mo th tr wh (some q) rd F wd ac im lw tk st sh ru rz aw al sd) q D hi er se (MA 1) (MA 3) (MA 4) V r sn g f) (fun v w => v = some (.int (snd (chn (okn (2 ^ m) SN (MA 3) (C m) (MA 1 m)) (MA 3) (D 1)))) ∧ ∃ lw sn, w = wg (mo 0 0 (-1) (some q) rd F wd ac im lw tk st sh ru rz aw al sd) q D hi er se (MA 1) (MA 3) (MA 4) V r sn g f) := by
  refine mj_Sx.mk m_X10_wouldGo (by decide) n_X10_wouldGo rfl (fun h0 hv => ?_)
  generalize hT : mj_rx m_X10_wouldGo h0 _ _ = T
  have hG2 := hG
  obtain ⟨hn, h1, ht, hL, hW, hA, hK, hsn, hC⟩ := hG2
  repeat (first | refine g_px rfl rfl rfl ?_)
  refine g_put hv 0 rfl rfl rfl rfl rfl rfl (fun h hv => ?_)
  have hv : mj_Vw h0 (wg (mo 0 tr wh (some q) rd F wd ac im lw tk st sh ru rz aw al sd) q D hi er se (MA 1) (MA 3) (MA 4) V r sn g f) h := hv
  repeat (first | refine g_px rfl rfl rfl ?_)
  refine g_callV hv [0, 1] 0 rfl rfl rfl rfl rfl rfl rfl rfl (by decide) (s_MisMan sta (d + 1) 0 tr wh q rd F wd ac im lw tk st sh ru rz aw al sd D hi er se (nI m) hn) (fun v w' h hp hk2 hv => ?_)
  obtain ⟨rfl, rfl⟩ := hp
  rw [inR_k hm (by omega)]
  refine g_if rfl (fun cq => ?_) (fun cq => absurd (show ¬ bl true = 0 by decide) cq)
  have hv : mj_Vw h0 (wg (mo 0 tr wh (some q) rd F wd ac im lw tk st sh ru rz aw al sd) q D hi er se (MA 1) (MA 3) (MA 4) V r sn g f) h := hv
  repeat (first | refine g_px rfl rfl rfl ?_)
  refine g_callV hv [0, 5, 7] 0 rfl rfl rfl rfl rfl rfl rfl rfl (by decide) (s_MasNow sta (d + 1) 0 tr wh q rd F wd ac im lw tk st sh ru rz aw al sd V L SN sn hV.1 hV.2.1) (fun v w' h hp hk2 hv => ?_)
  obtain ⟨rfl, rfl⟩ := hp
  have hv : mj_Vw h0 (wg (mo 0 tr wh (some q) rd F wd ac im (nI L) tk st sh ru rz aw al sd) q D hi er se (MA 1) (MA 3) (MA 4) V r SN g f) h := hv
  repeat (first | refine g_px rfl rfl rfl ?_)
  refine g_callV hv [0, 1, 2, 3, 5, 7] 0 rfl rfl rfl rfl rfl rfl rfl rfl (by decide) (s_Mcheapest sta d 0 tr wh q rd F wd ac im (nI L) tk st sh ru rz aw al sd D hi er se (MA 1) (MA 3) V SN m 0 C hV.2.2 hn (by omega) (by decide) hW hA hsn hC) (fun v w' h hp hk2 hv => ?_)
  obtain ⟨rfl, rfl⟩ := hp
  rw [Nat.zero_or]
  have hv : mj_Vw h0 (wg (mo 0 tr wh (some q) rd F wd ac im (nI L) tk st sh ru rz aw al sd) q D hi er se (MA 1) (MA 3) (MA 4) V r SN g f) h := hv
  refine g_callV hv [0] 0 rfl rfl rfl rfl rfl rfl rfl rfl (by decide) (s_Mgood sta (d + 1) 0 tr wh (some q) rd F wd ac im (nI L) tk st sh ru rz aw al sd _) (fun v w' h hp hk2 hv => ?_)
  obtain ⟨rfl, rfl⟩ := hp
  subst hT
  exact g_iret hv rfl rfl rfl rfl ⟨rfl, _, _, rfl⟩
theorem s_MfirstTaken (m L : Nat) (SN C : Nat → Nat) (hm : m < D 1) (hV : vN V L SN C) (hG : okG D MA SN C L) : mj_Sx sta (d + 4) 224 [.ref 151, (.int (nI m))] (wg (mo th tr wh (some q) rd F wd ac im lw tk st sh ru rz aw al sd) q D hi er se (MA 1) (MA 3) (MA 4) V r sn g f) (fun v w => v = some (.int (snd (fT D MA L SN m))) ∧ ∃ lw tk st r sn g f, w = wg (mo 0 0 (-1) (some q) rd F wd ac im lw tk st sh ru rz aw al sd) q D hi er se (MA 1) (MA 3) (MA 4) V r sn g f) := by
  refine mj_Sx.mk m_X10_firstTaken (by decide) n_X10_firstTaken rfl (fun h0 hv => ?_)
  generalize hT : mj_rx m_X10_firstTaken h0 _ _ = T
  have hG2 := hG
  obtain ⟨hn, h1, ht, hL, hW, hA, hK, hsn, hC⟩ := hG2
  repeat (first | refine g_px rfl rfl rfl ?_)
  refine g_put hv 0 rfl rfl rfl rfl rfl rfl (fun h hv => ?_)
  have hv : mj_Vw h0 (wg (mo 0 tr wh (some q) rd F wd ac im lw tk st sh ru rz aw al sd) q D hi er se (MA 1) (MA 3) (MA 4) V r sn g f) h := hv
  repeat (first | refine g_px rfl rfl rfl ?_)
  refine g_callV hv [0, 1] 0 rfl rfl rfl rfl rfl rfl rfl rfl (by decide) (s_MisMan sta (d + 2) 0 tr wh q rd F wd ac im lw tk st sh ru rz aw al sd D hi er se (nI m) hn) (fun v w' h hp hk2 hv => ?_)
  obtain ⟨rfl, rfl⟩ := hp
  rw [inR_k hm (by omega)]
  refine g_if rfl (fun cq => ?_) (fun cq => absurd (show ¬ bl true = 0 by decide) cq)
  have hv : mj_Vw h0 (wg (mo 0 tr wh (some q) rd F wd ac im lw tk st sh ru rz aw al sd) q D hi er se (MA 1) (MA 3) (MA 4) V r sn g f) h := hv
  repeat (first | refine g_px rfl rfl rfl ?_)
  refine g_callV hv [0, 5, 7] 0 rfl rfl rfl rfl rfl rfl rfl rfl (by decide) (s_MasNow sta (d + 2) 0 tr wh q rd F wd ac im lw tk st sh ru rz aw al sd V L SN sn hV.1 hV.2.1) (fun v w' h hp hk2 hv => ?_)
  obtain ⟨rfl, rfl⟩ := hp
  have hv : mj_Vw h0 (wg (mo 0 tr wh (some q) rd F wd ac im (nI L) tk st sh ru rz aw al sd) q D hi er se (MA 1) (MA 3) (MA 4) V r SN g f) h := hv
  repeat (first | refine g_px rfl rfl rfl ?_)
  refine g_callV hv [0, 6] 0 rfl rfl rfl rfl rfl rfl rfl rfl (by decide) (s_MfirstRow sta (d + 2) 0 tr wh (some q) rd F wd ac im (nI L) tk st sh ru rz aw al sd r) (fun v w' h hp hk2 hv => ?_)
  obtain ⟨rfl, rfl⟩ := hp
  have hv : mj_Vw h0 (wg (mo 0 tr wh (some q) rd F wd ac im (nI L) tk st sh ru rz aw al sd) q D hi er se (MA 1) (MA 3) (MA 4) V (fun i => i) SN g f) h := hv
  have loop : ∀ j p h r g f tk st, p + j = fac (D 1) → 0 < j → ag (D 1) r (lx (D 1) p) → fT D MA L SN m = (frs (fun j => (qT D MA L SN (lx (D 1) j)).testBit m) j p).map (fun j => rno (lx (D 1) j) (D 1)) → mj_Vw h0 (wg (mo 0 tr wh (some q) rd F wd ac im (nI L) tk st sh ru rz aw al sd) q D hi er se (MA 1) (MA 3) (MA 4) V r SN g f) h → mj_go sta (mj_Cl sta (d + 3)) m_X10_firstTaken T 29 [some (.ref 151), some (.int (nI m)), some (.int 1)] [] h := by
    intro j
    induction j with
    | zero => intro p h r g f tk st hp h0'; omega
    | succ j ih =>
      intro p h r g f tk st hpj h0' hag hfT hv
      have hpf : p < fac (D 1) := by omega
      have hlx := prm_lx ⟨h1, hn⟩ hpf
      have hpr : prm (D 1) r := prm_ag hlx (fun i hi => (hag i hi).symm)
      have hqq := qq_ag (MA := MA) (lw := L) (sn := SN) (C := C) hag hpr.1
      have hT6 : qT D MA L SN (lx (D 1) p) < 64 := by rw [← hqq.1]; exact cms_lt' hn hpr (D 1) (Nat.le_refl _)
      rw [frs] at hfT
      repeat (first | refine g_px rfl rfl rfl ?_)
      refine g_if rfl (fun cq => absurd cq (cpF (by decide))) (fun cq => ?_)
      repeat (first | refine g_px rfl rfl rfl ?_)
      refine g_callV hv [0, 1, 2, 3, 4, 5, 6, 7, 8, 9] 0 rfl rfl rfl rfl rfl rfl rfl rfl (by decide) (s_Mplays sta d 0 tr wh q rd F wd ac im tk st sh ru rz aw al sd D hi er se (MA 1) (MA 3) (MA 4) V r SN g f L C hV.2.2 hpr hn ht hL hW hA hK hsn hC) (fun v w' h hp hk2 hv => ?_)
      obtain ⟨rfl, rfl⟩ := hp
      have eT : rT (D 1) (D 0) L SN (MA 4) r = qT D MA L SN (lx (D 1) p) := hqq.1
      rw [eT] at hv
      generalize rnf (D 1) (qT D MA L SN (lx (D 1) p)) r SN (MA 1) (MA 3) C (D 1) = fj at hv
      generalize rS (D 1) (D 0) L SN (MA 4) (MA 1) (MA 3) C r = Sj at hv
      generalize rG (D 1) (D 0) L SN (MA 4) (MA 1) (MA 3) C r = Gj at hv
      generalize qT D MA L SN (lx (D 1) p) = Tj at *
      have hv : mj_Vw h0 (wg (mo 0 tr wh (some q) rd F wd ac im (nI L) (nI Tj) (nI Sj) sh ru rz aw al sd) q D hi er se (MA 1) (MA 3) (MA 4) V r SN (mix (D 1) g Gj) (mix (D 1) f fj)) h := hv
      repeat (first | refine g_px rfl rfl rfl ?_ | refine g_get hv 0 rfl rfl rfl rfl ?_)
      refine g_callS hv [] rfl rfl rfl rfl rfl rfl rfl (by decide) (s_Mbit sta (d + 2) Tj m (by omega) (by omega)) (fun v w' h hp hk2 hv => ?_)
      obtain ⟨rfl, rfl⟩ := hp
      have hv : mj_Vw h0 (wg (mo 0 tr wh (some q) rd F wd ac im (nI L) (nI Tj) (nI Sj) sh ru rz aw al sd) q D hi er se (MA 1) (MA 3) (MA 4) V r SN (mix (D 1) g Gj) (mix (D 1) f fj)) h := hv
      refine g_if rfl (fun cq => ?_) (fun cq => ?_)
      · have cq : bl (Tj.testBit m) = 0 := cq
        rw [bl_0] at cq
        rw [cq, if_neg (by decide)] at hfT
        have hA := lxA ⟨h1, hn⟩ (Nat.le_refl (D 1)) hpf (by rw [Nat.sub_self]; exact Nat.mod_one p)
        rw [Nat.sub_self, show fac 0 = 1 from rfl] at hA
        have hN := nxr_ag (c := D 1) h1 hag
        repeat (first | refine g_px rfl rfl rfl ?_)
        refine g_callV hv [0, 1, 6] 0 rfl rfl rfl rfl rfl rfl rfl rfl (by decide) (s_MnextRow sta (d + 1) 0 tr wh q rd F wd ac im (nI L) (nI Tj) (nI Sj) sh ru rz aw al sd D hi er se r ⟨h1, hn⟩ (fun i hi => by have := hpr.1 i hi; omega)) (fun v w' h hp hk2 hv => ?_)
        obtain ⟨rfl, rfl⟩ := hp
        rw [hN.1, hA.1]
        have hv : mj_Vw h0 (wg (mo 0 tr wh (some q) rd F wd ac im (nI L) (nI Tj) (nI Sj) sh ru rz aw al sd) q D hi er se (MA 1) (MA 3) (MA 4) V (nxr (D 1) (D 1) r).1 SN (mix (D 1) g Gj) (mix (D 1) f fj)) h := hv
        refine g_run 2 rfl ?_
        by_cases hj : j = 0
        · subst hj
          rw [decide_eq_false (by omega)]
          refine g_run 1 rfl ?_
          refine g_if rfl (fun cq => ?_) (fun cq => absurd rfl cq)
          repeat (first | refine g_px rfl rfl rfl ?_)
          refine g_callV hv [0] 0 rfl rfl rfl rfl rfl rfl rfl rfl (by decide) (s_Mgood sta (d + 2) 0 tr wh (some q) rd F wd ac im (nI L) (nI Tj) (nI Sj) sh ru rz aw al sd _) (fun v w' h hp hk2 hv => ?_)
          obtain ⟨rfl, rfl⟩ := hp
          subst hT
          exact g_iret hv rfl rfl rfl rfl ⟨by rw [hfT]; rfl, _, _, _, _, _, _, _, rfl⟩
        · rw [decide_eq_true (show p + 1 < fac (D 1) by omega)]
          exact ih (p + 1) h _ _ _ _ _ (by omega) (by omega) (fun i hi => by rw [hN.2 i hi]; exact hA.2 (by omega) i hi) hfT hv
      · have cq : ¬ bl (Tj.testBit m) = 0 := cq
        rw [bl_0, Bool.not_eq_false] at cq
        rw [cq, if_pos rfl] at hfT
        repeat (first | refine g_px rfl rfl rfl ?_)
        refine g_callV hv [0, 1, 6] 0 rfl rfl rfl rfl rfl rfl rfl rfl (by decide) (s_McodeOfRow sta (d + 2) 0 tr wh q rd F wd ac im (nI L) (nI Tj) (nI Sj) sh ru rz aw al sd D hi er se r hn) (fun v w' h hp hk2 hv => ?_)
        obtain ⟨rfl, rfl⟩ := hp
        have hv : mj_Vw h0 (wg (mo 0 tr wh (some q) rd F wd ac im (nI L) (nI Tj) (nI Sj) sh ru rz aw al sd) q D hi er se (MA 1) (MA 3) (MA 4) V r SN (mix (D 1) g Gj) (mix (D 1) f fj)) h := hv
        refine g_callV hv [0] 0 rfl rfl rfl rfl rfl rfl rfl rfl (by decide) (s_Mgood sta (d + 2) 0 tr wh (some q) rd F wd ac im (nI L) (nI Tj) (nI Sj) sh ru rz aw al sd _) (fun v w' h hp hk2 hv => ?_)
        obtain ⟨rfl, rfl⟩ := hp
        subst hT
        refine g_iret hv rfl rfl rfl rfl ⟨?_, _, _, _, _, _, _, _, rfl⟩
        rw [hfT, Option.map_some, ← rno_ag hag]
        rfl
  refine g_run 2 rfl ?_
  exact loop (fac (D 1)) 0 h _ _ _ _ _ (by omega) (fac_pos _) (fun i hi => (lx0 hn hi).symm) rfl hv
end Mr
