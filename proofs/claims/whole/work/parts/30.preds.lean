/-! LowNumber: what is asked of arguments -/
def inR (n : Nat) (m : Int32) : Bool := decide (0 ≤ m) && decide (m < nI n)
theorem inR_neg {n : Nat} {m : Int32} (h : m < 0) : inR n m = false := by
  unfold inR
  rw [decide_eq_false (Int32.not_le.mpr h), Bool.false_and]
theorem inR_nI {n k : Nat} (hk : k < 2 ^ 31) (hn : n < 2 ^ 31) : inR n (nI k) = decide (k < n) := by
  unfold inR
  rw [decide_eq_true (nI_pos' hk), Bool.true_and]
  exact decide_eq_decide.mpr (nI_ltI hk hn)
theorem inR_at {n : Nat} {m : Int32} (h : inR n m = true) : ∃ k, k < n ∧ k < 2 ^ 31 ∧ m = nI k := by
  unfold inR at h
  rw [Bool.and_eq_true, decide_eq_true_eq, decide_eq_true_eq] at h
  obtain ⟨k, hk, e⟩ := nI_of (Int32.not_lt.mpr h.1)
  subst e
  refine ⟨k, ?_, hk, rfl⟩
  by_cases hn : n < 2 ^ 31
  · exact (nI_ltI hk hn).mp h.2
  · omega
/-- a draft, a now, in cells -/
abbrev dv (a : Nat) (D : Nat → Nat) (DA : Nat → Nat → Nat) : mj_W := [(a, .inr (1, dob a (nI (D 0)) (nI (D 1)) (nI (D 2)) (nI (D 3)) (nI (D 4)) (nI (D 5)) (nI (D 6)) (nI (D 7)) (nI (D 8)))), (a + 1, an (DA 0)), (a + 2, an (DA 1)), (a + 3, an (DA 2)), (a + 4, an (DA 3)), (a + 5, an (DA 4)), (a + 6, a3 (DA 5))]
abbrev nv (c : Nat) (N : Nat → Nat) (NA : Nat → Nat → Nat) (g : Nat → Option Nat) : mj_W := [(c, .inr (5, nob c (nI (N 0)) (nI (N 1)) (nI (N 2)) (nI (N 3)))), (c + 1, an (NA 0)), (c + 2, an (NA 1)), (c + 3, an (NA 2)), (c + 4, sq g)]
def okD (D : Nat → Nat) (DA : Nat → Nat → Nat) : Prop := D 0 ≤ 5 ∧ D 1 ≤ 6 ∧ D 3 < 16 ∧ D 4 ≤ 1 ∧ D 5 ≤ 100 ∧ D 6 ≤ 100 ∧ D 7 ≤ 100 ∧ D 8 ≤ 3 ∧ D 2 ≤ 6 ∧ bd 4 (DA 0) ∧ bd 100 (DA 1) ∧ bd 201 (DA 2) ∧ bd 100 (DA 3) ∧ bd 64 (DA 4) ∧ bd 6 (DA 5)
def okN (N : Nat → Nat) (NA : Nat → Nat → Nat) (g : Nat → Option Nat) : Prop := N 0 < 16 ∧ N 1 ≤ 65536 ∧ N 3 < 64 ∧ bd 4 (NA 0) ∧ bd 201 (NA 1) ∧ bd 6 (NA 2) ∧ gok g
theorem bd_le {a b : Nat} {f : Nat → Nat} (h : bd a f) (hab : a ≤ b) : bd b f := fun i => Nat.lt_of_lt_of_le (h i) hab
abbrev wob (tr : Int32) (dr : Bool) (a b : Nat) (sl : Bool) : Nat × va_E := (0, .inr (8, ob tr (bl dr) a b (bl sl)))
abbrev dhd (a : Nat) (D : Nat → Nat) : Nat × va_E := (a, .inr (1, dob a (nI (D 0)) (nI (D 1)) (nI (D 2)) (nI (D 3)) (nI (D 4)) (nI (D 5)) (nI (D 6)) (nI (D 7)) (nI (D 8))))
abbrev nhd (c : Nat) (N : Nat → Nat) : Nat × va_E := (c, .inr (5, nob c (nI (N 0)) (nI (N 1)) (nI (N 2)) (nI (N 3))))
section Preds
variable (sta : mj_S) (d : Nat) (tr : Int32) (dr sl : Bool) (a b : Nat) (D : Nat → Nat) (m : Int32)
theorem s_deny (y : Int32) : mj_Sx sta (d + 1) 134 [.ref 0, .int y] [wob tr dr a b sl] (fun v w => v = some (.int (bl false)) ∧ w = [wob y dr a b sl]) := by
  refine mj_Sx.mk m_X8_deny (by decide) n_X8_deny rfl (fun h0 hv => ?_)
  generalize hT : mj_rx m_X8_deny h0 _ _ = T
  repeat (first | refine g_px rfl rfl rfl ?_)
  refine g_put hv 0 rfl rfl rfl rfl rfl rfl (fun h hv => ?_)
  repeat (first | refine g_px rfl rfl rfl ?_)
  subst hT
  exact g_iret hv rfl rfl rfl rfl ⟨rfl, rfl⟩
theorem s_grant : mj_Sx sta (d + 1) 135 [.ref 0] [wob tr dr a b sl] (fun v w => v = some (.int (bl true)) ∧ w = [wob 0 dr a b sl]) := by
  refine mj_Sx.mk m_X8_grant (by decide) n_X8_grant rfl (fun h0 hv => ?_)
  generalize hT : mj_rx m_X8_grant h0 _ _ = T
  repeat (first | refine g_px rfl rfl rfl ?_)
  refine g_put hv 0 rfl rfl rfl rfl rfl rfl (fun h hv => ?_)
  repeat (first | refine g_px rfl rfl rfl ?_)
  subst hT
  exact g_iret hv rfl rfl rfl rfl ⟨rfl, rfl⟩
theorem s_refuse' (y : Int32) : mj_Sx sta (d + 1) 132 [.ref 0, .int y] [wob tr dr a b sl] (fun v w => v = some (.int (-1)) ∧ w = [wob y dr a b sl]) := s_refuse sta d tr (bl dr) (bl sl) y a b
theorem s_answer' (y : Int32) : mj_Sx sta (d + 1) 133 [.ref 0, .int y] [wob tr dr a b sl] (fun v w => v = some (.int y) ∧ w = [wob 0 dr a b sl]) := s_answer sta d tr (bl dr) (bl sl) y a b
theorem s_isMan (hn : D 1 ≤ 6) : mj_Sx sta (d + 1) 136 [.ref 0, .int m] [wob tr dr a b sl, dhd a D] (fun v w => v = some (.int (bl (dr && inR (D 1) m))) ∧ w = [wob tr dr a b sl, dhd a D]) := by
  refine mj_Sx.mk m_X8_isMan (by decide) n_X8_isMan rfl (fun h0 hv => ?_)
  generalize hT : mj_rx m_X8_isMan h0 _ _ = T
  have no : (dr && inR (D 1) m) = false → mj_go sta (mj_Cl sta d) m_X8_isMan T 26 [some (.ref 0), some (.int m)] [] h0 := by
    intro e
    repeat (first | refine g_px rfl rfl rfl ?_)
    subst hT
    exact g_iret hv rfl rfl rfl rfl ⟨by rw [e]; rfl, rfl⟩
  repeat (first | refine g_px rfl rfl rfl ?_ | refine g_get hv 0 rfl rfl rfl rfl ?_)
  refine g_if rfl (fun cq => ?_) (fun cq => ?_)
  · simp (disch := omega) only [mj_cp, k_6, k_7, k_8, k_9, k_10, k_12, k_15, k_16, k_18, k_20, k_24, k_25, k_26, k_27, k_28, k_32, k_36, k_48, k_57, k_59, k_63, k_74, k_75, k_84, k_90, k_97, k_99, k_100, k_122, k_200, k_255, k_420, k_448, k_720, k_800, k_999, k_bit, k_shl, fa_and, nI_add, bl_1, bl_0, bl_n1, bl_n0, bl_i1, nI_lt0, nI_0le, nI_eq0, nI_eqT, nI_leI, nI_ltI, nI_eq, Nat.not_le, Nat.not_lt, Bool.not_eq_true, Bool.not_eq_false, not_true_eq_false, not_false_eq_true, Decidable.not_not] at cq
    exact no (by rw [cq]; rfl)
  · simp (disch := omega) only [mj_cp, k_6, k_7, k_8, k_9, k_10, k_12, k_15, k_16, k_18, k_20, k_24, k_25, k_26, k_27, k_28, k_32, k_36, k_48, k_57, k_59, k_63, k_74, k_75, k_84, k_90, k_97, k_99, k_100, k_122, k_200, k_255, k_420, k_448, k_720, k_800, k_999, k_bit, k_shl, fa_and, nI_add, bl_1, bl_0, bl_n1, bl_n0, bl_i1, nI_lt0, nI_0le, nI_eq0, nI_eqT, nI_leI, nI_ltI, nI_eq, Nat.not_le, Nat.not_lt, Bool.not_eq_true, Bool.not_eq_false, not_true_eq_false, not_false_eq_true, Decidable.not_not] at cq
    subst cq
    repeat (first | refine g_px rfl rfl rfl ?_)
    refine g_if rfl (fun cq => ?_) (fun cq => ?_)
    · exact no (by rw [inR_neg cq]; rfl)
    · obtain ⟨k, hk, rfl⟩ := nI_of cq
      repeat (first | refine g_px rfl rfl rfl ?_ | refine g_get hv 0 rfl rfl rfl rfl ?_ | refine g_get hv 1 rfl rfl rfl rfl ?_)
      refine g_ic rfl (fun cq => ?_) (fun cq => ?_)
      · simp (disch := omega) only [mj_cp, k_6, k_7, k_8, k_9, k_10, k_12, k_15, k_16, k_18, k_20, k_24, k_25, k_26, k_27, k_28, k_32, k_36, k_48, k_57, k_59, k_63, k_74, k_75, k_84, k_90, k_97, k_99, k_100, k_122, k_200, k_255, k_420, k_448, k_720, k_800, k_999, k_bit, k_shl, fa_and, nI_add, bl_1, bl_0, bl_n1, bl_n0, bl_i1, nI_lt0, nI_0le, nI_eq0, nI_eqT, nI_leI, nI_ltI, nI_eq, Nat.not_le, Nat.not_lt, Bool.not_eq_true, Bool.not_eq_false, not_true_eq_false, not_false_eq_true, Decidable.not_not] at cq
        exact no (by rw [inR_nI hk (by omega), decide_eq_false (by omega)]; rfl)
      · simp (disch := omega) only [mj_cp, k_6, k_7, k_8, k_9, k_10, k_12, k_15, k_16, k_18, k_20, k_24, k_25, k_26, k_27, k_28, k_32, k_36, k_48, k_57, k_59, k_63, k_74, k_75, k_84, k_90, k_97, k_99, k_100, k_122, k_200, k_255, k_420, k_448, k_720, k_800, k_999, k_bit, k_shl, fa_and, nI_add, bl_1, bl_0, bl_n1, bl_n0, bl_i1, nI_lt0, nI_0le, nI_eq0, nI_eqT, nI_leI, nI_ltI, nI_eq, Nat.not_le, Nat.not_lt, Bool.not_eq_true, Bool.not_eq_false, not_true_eq_false, not_false_eq_true, Decidable.not_not] at cq
        repeat (first | refine g_px rfl rfl rfl ?_)
        subst hT
        exact g_iret hv rfl rfl rfl rfl ⟨by rw [inR_nI hk (by omega), decide_eq_true (by omega)]; rfl, rfl⟩
theorem s_isTold (hn : D 8 ≤ 3) : mj_Sx sta (d + 1) 138 [.ref 0, .int m] [wob tr dr a b sl, dhd a D] (fun v w => v = some (.int (bl (dr && inR (D 8) m))) ∧ w = [wob tr dr a b sl, dhd a D]) := by
  refine mj_Sx.mk m_X8_isTold (by decide) n_X8_isTold rfl (fun h0 hv => ?_)
  generalize hT : mj_rx m_X8_isTold h0 _ _ = T
  have no : (dr && inR (D 8) m) = false → mj_go sta (mj_Cl sta d) m_X8_isTold T 26 [some (.ref 0), some (.int m)] [] h0 := by
    intro e
    repeat (first | refine g_px rfl rfl rfl ?_)
    subst hT
    exact g_iret hv rfl rfl rfl rfl ⟨by rw [e]; rfl, rfl⟩
  repeat (first | refine g_px rfl rfl rfl ?_ | refine g_get hv 0 rfl rfl rfl rfl ?_)
  refine g_if rfl (fun cq => ?_) (fun cq => ?_)
  · simp (disch := omega) only [mj_cp, k_6, k_7, k_8, k_9, k_10, k_12, k_15, k_16, k_18, k_20, k_24, k_25, k_26, k_27, k_28, k_32, k_36, k_48, k_57, k_59, k_63, k_74, k_75, k_84, k_90, k_97, k_99, k_100, k_122, k_200, k_255, k_420, k_448, k_720, k_800, k_999, k_bit, k_shl, fa_and, nI_add, bl_1, bl_0, bl_n1, bl_n0, bl_i1, nI_lt0, nI_0le, nI_eq0, nI_eqT, nI_leI, nI_ltI, nI_eq, Nat.not_le, Nat.not_lt, Bool.not_eq_true, Bool.not_eq_false, not_true_eq_false, not_false_eq_true, Decidable.not_not] at cq
    exact no (by rw [cq]; rfl)
  · simp (disch := omega) only [mj_cp, k_6, k_7, k_8, k_9, k_10, k_12, k_15, k_16, k_18, k_20, k_24, k_25, k_26, k_27, k_28, k_32, k_36, k_48, k_57, k_59, k_63, k_74, k_75, k_84, k_90, k_97, k_99, k_100, k_122, k_200, k_255, k_420, k_448, k_720, k_800, k_999, k_bit, k_shl, fa_and, nI_add, bl_1, bl_0, bl_n1, bl_n0, bl_i1, nI_lt0, nI_0le, nI_eq0, nI_eqT, nI_leI, nI_ltI, nI_eq, Nat.not_le, Nat.not_lt, Bool.not_eq_true, Bool.not_eq_false, not_true_eq_false, not_false_eq_true, Decidable.not_not] at cq
    subst cq
    repeat (first | refine g_px rfl rfl rfl ?_)
    refine g_if rfl (fun cq => ?_) (fun cq => ?_)
    · exact no (by rw [inR_neg cq]; rfl)
    · obtain ⟨k, hk, rfl⟩ := nI_of cq
      repeat (first | refine g_px rfl rfl rfl ?_ | refine g_get hv 0 rfl rfl rfl rfl ?_ | refine g_get hv 1 rfl rfl rfl rfl ?_)
      refine g_ic rfl (fun cq => ?_) (fun cq => ?_)
      · simp (disch := omega) only [mj_cp, k_6, k_7, k_8, k_9, k_10, k_12, k_15, k_16, k_18, k_20, k_24, k_25, k_26, k_27, k_28, k_32, k_36, k_48, k_57, k_59, k_63, k_74, k_75, k_84, k_90, k_97, k_99, k_100, k_122, k_200, k_255, k_420, k_448, k_720, k_800, k_999, k_bit, k_shl, fa_and, nI_add, bl_1, bl_0, bl_n1, bl_n0, bl_i1, nI_lt0, nI_0le, nI_eq0, nI_eqT, nI_leI, nI_ltI, nI_eq, Nat.not_le, Nat.not_lt, Bool.not_eq_true, Bool.not_eq_false, not_true_eq_false, not_false_eq_true, Decidable.not_not] at cq
        exact no (by rw [inR_nI hk (by omega), decide_eq_false (by omega)]; rfl)
      · simp (disch := omega) only [mj_cp, k_6, k_7, k_8, k_9, k_10, k_12, k_15, k_16, k_18, k_20, k_24, k_25, k_26, k_27, k_28, k_32, k_36, k_48, k_57, k_59, k_63, k_74, k_75, k_84, k_90, k_97, k_99, k_100, k_122, k_200, k_255, k_420, k_448, k_720, k_800, k_999, k_bit, k_shl, fa_and, nI_add, bl_1, bl_0, bl_n1, bl_n0, bl_i1, nI_lt0, nI_0le, nI_eq0, nI_eqT, nI_leI, nI_ltI, nI_eq, Nat.not_le, Nat.not_lt, Bool.not_eq_true, Bool.not_eq_false, not_true_eq_false, not_false_eq_true, Decidable.not_not] at cq
        repeat (first | refine g_px rfl rfl rfl ?_)
        subst hT
        exact g_iret hv rfl rfl rfl rfl ⟨by rw [inR_nI hk (by omega), decide_eq_true (by omega)]; rfl, rfl⟩
theorem s_allMen (hn : D 1 ≤ 6) : mj_Sx sta (d + 1) 139 [.ref 0] [wob tr dr a b sl, dhd a D] (fun v w => v = some (.int (nI (2 ^ D 1 - 1))) ∧ w = [wob tr dr a b sl, dhd a D]) := by
  refine mj_Sx.mk m_X8_allMen (by decide) n_X8_allMen rfl (fun h0 hv => ?_)
  generalize hT : mj_rx m_X8_allMen h0 _ _ = T
  repeat (first | refine g_px rfl rfl rfl ?_ | refine g_get hv 0 rfl rfl rfl rfl ?_ | refine g_get hv 1 rfl rfl rfl rfl ?_)
  rw [k_shl (show D 1 < 31 by omega), show Int32.ofInt 1 = nI 1 from rfl, pk_sub (Nat.one_le_two_pow)]
  subst hT
  exact g_iret hv rfl rfl rfl rfl ⟨rfl, rfl⟩
theorem p6 {n : Nat} (h : n ≤ 6) : 2 ^ n ≤ 64 := Nat.pow_le_pow_right (by decide) h
theorem s_isClub (hn : D 1 ≤ 6) : mj_Sx sta (d + 2) 137 [.ref 0, .int m] [wob tr dr a b sl, dhd a D] (fun v w => v = some (.int (bl (dr && inR (2 ^ D 1) m))) ∧ w = [wob tr dr a b sl, dhd a D]) := by
  refine mj_Sx.mk m_X8_isClub (by decide) n_X8_isClub rfl (fun h0 hv => ?_)
  generalize hT : mj_rx m_X8_isClub h0 _ _ = T
  have no : ∀ h, mj_Vw h0 [wob tr dr a b sl, dhd a D] h → (dr && inR (2 ^ D 1) m) = false → mj_go sta (mj_Cl sta (d + 1)) m_X8_isClub T 23 [some (.ref 0), some (.int m)] [] h := by
    intro h hv e
    repeat (first | refine g_px rfl rfl rfl ?_)
    subst hT
    exact g_iret hv rfl rfl rfl rfl ⟨by rw [e]; rfl, rfl⟩
  have h6 := p6 hn
  have h1 : 1 ≤ 2 ^ D 1 := Nat.one_le_two_pow
  repeat (first | refine g_px rfl rfl rfl ?_ | refine g_get hv 0 rfl rfl rfl rfl ?_)
  refine g_if rfl (fun cq => ?_) (fun cq => ?_)
  · simp (disch := omega) only [mj_cp, k_6, k_7, k_8, k_9, k_10, k_12, k_15, k_16, k_18, k_20, k_24, k_25, k_26, k_27, k_28, k_32, k_36, k_48, k_57, k_59, k_63, k_74, k_75, k_84, k_90, k_97, k_99, k_100, k_122, k_200, k_255, k_420, k_448, k_720, k_800, k_999, k_bit, k_shl, fa_and, nI_add, bl_1, bl_0, bl_n1, bl_n0, bl_i1, nI_lt0, nI_0le, nI_eq0, nI_eqT, nI_leI, nI_ltI, nI_eq, Nat.not_le, Nat.not_lt, Bool.not_eq_true, Bool.not_eq_false, not_true_eq_false, not_false_eq_true, Decidable.not_not] at cq
    exact no h0 hv (by rw [cq]; rfl)
  · simp (disch := omega) only [mj_cp, k_6, k_7, k_8, k_9, k_10, k_12, k_15, k_16, k_18, k_20, k_24, k_25, k_26, k_27, k_28, k_32, k_36, k_48, k_57, k_59, k_63, k_74, k_75, k_84, k_90, k_97, k_99, k_100, k_122, k_200, k_255, k_420, k_448, k_720, k_800, k_999, k_bit, k_shl, fa_and, nI_add, bl_1, bl_0, bl_n1, bl_n0, bl_i1, nI_lt0, nI_0le, nI_eq0, nI_eqT, nI_leI, nI_ltI, nI_eq, Nat.not_le, Nat.not_lt, Bool.not_eq_true, Bool.not_eq_false, not_true_eq_false, not_false_eq_true, Decidable.not_not] at cq
    subst cq
    repeat (first | refine g_px rfl rfl rfl ?_)
    refine g_if rfl (fun cq => ?_) (fun cq => ?_)
    · exact no h0 hv (by rw [inR_neg cq]; rfl)
    · obtain ⟨k, hk, rfl⟩ := nI_of cq
      repeat (first | refine g_px rfl rfl rfl ?_)
      refine g_callV hv [0, 1] 0 rfl rfl rfl rfl rfl rfl rfl rfl (by simp) (s_allMen sta d tr true sl a b D hn) (fun v w' h hp hk2 hv => ?_)
      obtain ⟨rfl, rfl⟩ := hp
      refine g_ic rfl (fun cq => ?_) (fun cq => ?_)
      · simp (disch := omega) only [mj_cp, k_6, k_7, k_8, k_9, k_10, k_12, k_15, k_16, k_18, k_20, k_24, k_25, k_26, k_27, k_28, k_32, k_36, k_48, k_57, k_59, k_63, k_74, k_75, k_84, k_90, k_97, k_99, k_100, k_122, k_200, k_255, k_420, k_448, k_720, k_800, k_999, k_bit, k_shl, fa_and, nI_add, bl_1, bl_0, bl_n1, bl_n0, bl_i1, nI_lt0, nI_0le, nI_eq0, nI_eqT, nI_leI, nI_ltI, nI_eq, Nat.not_le, Nat.not_lt, Bool.not_eq_true, Bool.not_eq_false, not_true_eq_false, not_false_eq_true, Decidable.not_not] at cq
        exact no h hv (by rw [inR_nI hk (by omega), decide_eq_false (by omega)]; rfl)
      · simp (disch := omega) only [mj_cp, k_6, k_7, k_8, k_9, k_10, k_12, k_15, k_16, k_18, k_20, k_24, k_25, k_26, k_27, k_28, k_32, k_36, k_48, k_57, k_59, k_63, k_74, k_75, k_84, k_90, k_97, k_99, k_100, k_122, k_200, k_255, k_420, k_448, k_720, k_800, k_999, k_bit, k_shl, fa_and, nI_add, bl_1, bl_0, bl_n1, bl_n0, bl_i1, nI_lt0, nI_0le, nI_eq0, nI_eqT, nI_leI, nI_ltI, nI_eq, Nat.not_le, Nat.not_lt, Bool.not_eq_true, Bool.not_eq_false, not_true_eq_false, not_false_eq_true, Decidable.not_not] at cq
        repeat (first | refine g_px rfl rfl rfl ?_)
        subst hT
        exact g_iret hv rfl rfl rfl rfl ⟨by rw [inR_nI hk (by omega), decide_eq_true (by omega)]; rfl, rfl⟩
theorem s_isSort : mj_Sx sta (d + 1) 140 [.int m] [] (fun v w => v = some (.int (bl (inR 4 m))) ∧ w = []) := by
  refine mj_Sx.mk m_X8_isSort (by decide) n_X8_isSort rfl (fun h0 hv => ?_)
  generalize hT : mj_rx m_X8_isSort h0 _ _ = T
  have no : inR 4 m = false → mj_go sta (mj_Cl sta d) m_X8_isSort T 13 [some (.int m)] [] h0 := by
    intro e
    repeat (first | refine g_px rfl rfl rfl ?_)
    subst hT
    exact g_iret hv rfl rfl rfl rfl ⟨by rw [e]; rfl, rfl⟩
  repeat (first | refine g_px rfl rfl rfl ?_)
  refine g_if rfl (fun cq => ?_) (fun cq => ?_)
  · exact no (inR_neg cq)
  · obtain ⟨k, hk, rfl⟩ := nI_of cq
    repeat (first | refine g_px rfl rfl rfl ?_)
    refine g_ic rfl (fun cq => ?_) (fun cq => ?_)
    · have cq : nI 4 ≤ nI k := cq
      simp (disch := omega) only [mj_cp, k_6, k_7, k_8, k_9, k_10, k_12, k_15, k_16, k_18, k_20, k_24, k_25, k_26, k_27, k_28, k_32, k_36, k_48, k_57, k_59, k_63, k_74, k_75, k_84, k_90, k_97, k_99, k_100, k_122, k_200, k_255, k_420, k_448, k_720, k_800, k_999, k_bit, k_shl, fa_and, nI_add, bl_1, bl_0, bl_n1, bl_n0, bl_i1, nI_lt0, nI_0le, nI_eq0, nI_eqT, nI_leI, nI_ltI, nI_eq, Nat.not_le, Nat.not_lt, Bool.not_eq_true, Bool.not_eq_false, not_true_eq_false, not_false_eq_true, Decidable.not_not] at cq
      exact no (by rw [inR_nI hk (by omega), decide_eq_false (by omega)])
    · have cq : ¬ nI 4 ≤ nI k := cq
      simp (disch := omega) only [mj_cp, k_6, k_7, k_8, k_9, k_10, k_12, k_15, k_16, k_18, k_20, k_24, k_25, k_26, k_27, k_28, k_32, k_36, k_48, k_57, k_59, k_63, k_74, k_75, k_84, k_90, k_97, k_99, k_100, k_122, k_200, k_255, k_420, k_448, k_720, k_800, k_999, k_bit, k_shl, fa_and, nI_add, bl_1, bl_0, bl_n1, bl_n0, bl_i1, nI_lt0, nI_0le, nI_eq0, nI_eqT, nI_leI, nI_ltI, nI_eq, Nat.not_le, Nat.not_lt, Bool.not_eq_true, Bool.not_eq_false, not_true_eq_false, not_false_eq_true, Decidable.not_not] at cq
      repeat (first | refine g_px rfl rfl rfl ?_)
      subst hT
      exact g_iret hv rfl rfl rfl rfl ⟨by rw [inR_nI hk (by omega), decide_eq_true (by omega)]; rfl, rfl⟩
theorem s_isLaw : mj_Sx sta (d + 1) 141 [.int m] [] (fun v w => v = some (.int (bl (inR 16 m))) ∧ w = []) := by
  refine mj_Sx.mk m_X8_isLaw (by decide) n_X8_isLaw rfl (fun h0 hv => ?_)
  generalize hT : mj_rx m_X8_isLaw h0 _ _ = T
  have no : inR 16 m = false → mj_go sta (mj_Cl sta d) m_X8_isLaw T 14 [some (.int m)] [] h0 := by
    intro e
    repeat (first | refine g_px rfl rfl rfl ?_)
    subst hT
    exact g_iret hv rfl rfl rfl rfl ⟨by rw [e]; rfl, rfl⟩
  repeat (first | refine g_px rfl rfl rfl ?_)
  refine g_if rfl (fun cq => ?_) (fun cq => ?_)
  · exact no (inR_neg cq)
  · obtain ⟨k, hk, rfl⟩ := nI_of cq
    repeat (first | refine g_px rfl rfl rfl ?_)
    refine g_ic rfl (fun cq => ?_) (fun cq => ?_)
    · simp (disch := omega) only [mj_cp, k_6, k_7, k_8, k_9, k_10, k_12, k_15, k_16, k_18, k_20, k_24, k_25, k_26, k_27, k_28, k_32, k_36, k_48, k_57, k_59, k_63, k_74, k_75, k_84, k_90, k_97, k_99, k_100, k_122, k_200, k_255, k_420, k_448, k_720, k_800, k_999, k_bit, k_shl, fa_and, nI_add, bl_1, bl_0, bl_n1, bl_n0, bl_i1, nI_lt0, nI_0le, nI_eq0, nI_eqT, nI_leI, nI_ltI, nI_eq, Nat.not_le, Nat.not_lt, Bool.not_eq_true, Bool.not_eq_false, not_true_eq_false, not_false_eq_true, Decidable.not_not] at cq
      exact no (by rw [inR_nI hk (by omega), decide_eq_false (by omega)])
    · simp (disch := omega) only [mj_cp, k_6, k_7, k_8, k_9, k_10, k_12, k_15, k_16, k_18, k_20, k_24, k_25, k_26, k_27, k_28, k_32, k_36, k_48, k_57, k_59, k_63, k_74, k_75, k_84, k_90, k_97, k_99, k_100, k_122, k_200, k_255, k_420, k_448, k_720, k_800, k_999, k_bit, k_shl, fa_and, nI_add, bl_1, bl_0, bl_n1, bl_n0, bl_i1, nI_lt0, nI_0le, nI_eq0, nI_eqT, nI_leI, nI_ltI, nI_eq, Nat.not_le, Nat.not_lt, Bool.not_eq_true, Bool.not_eq_false, not_true_eq_false, not_false_eq_true, Decidable.not_not] at cq
      repeat (first | refine g_px rfl rfl rfl ?_)
      subst hT
      exact g_iret hv rfl rfl rfl rfl ⟨by rw [inR_nI hk (by omega), decide_eq_true (by omega)]; rfl, rfl⟩
theorem s_isBuyers : mj_Sx sta (d + 1) 142 [.int m] [] (fun v w => v = some (.int (bl (inR 100 m))) ∧ w = []) := by
  refine mj_Sx.mk m_X8_isBuyers (by decide) n_X8_isBuyers rfl (fun h0 hv => ?_)
  generalize hT : mj_rx m_X8_isBuyers h0 _ _ = T
  have no : inR 100 m = false → mj_go sta (mj_Cl sta d) m_X8_isBuyers T 14 [some (.int m)] [] h0 := by
    intro e
    repeat (first | refine g_px rfl rfl rfl ?_)
    subst hT
    exact g_iret hv rfl rfl rfl rfl ⟨by rw [e]; rfl, rfl⟩
  repeat (first | refine g_px rfl rfl rfl ?_)
  refine g_if rfl (fun cq => ?_) (fun cq => ?_)
  · exact no (inR_neg cq)
  · obtain ⟨k, hk, rfl⟩ := nI_of cq
    repeat (first | refine g_px rfl rfl rfl ?_)
    refine g_ic rfl (fun cq => ?_) (fun cq => ?_)
    · simp (disch := omega) only [mj_cp, k_6, k_7, k_8, k_9, k_10, k_12, k_15, k_16, k_18, k_20, k_24, k_25, k_26, k_27, k_28, k_32, k_36, k_48, k_57, k_59, k_63, k_74, k_75, k_84, k_90, k_97, k_99, k_100, k_122, k_200, k_255, k_420, k_448, k_720, k_800, k_999, k_bit, k_shl, fa_and, nI_add, bl_1, bl_0, bl_n1, bl_n0, bl_i1, nI_lt0, nI_0le, nI_eq0, nI_eqT, nI_leI, nI_ltI, nI_eq, Nat.not_le, Nat.not_lt, Bool.not_eq_true, Bool.not_eq_false, not_true_eq_false, not_false_eq_true, Decidable.not_not] at cq
      exact no (by rw [inR_nI hk (by omega), decide_eq_false (by omega)])
    · simp (disch := omega) only [mj_cp, k_6, k_7, k_8, k_9, k_10, k_12, k_15, k_16, k_18, k_20, k_24, k_25, k_26, k_27, k_28, k_32, k_36, k_48, k_57, k_59, k_63, k_74, k_75, k_84, k_90, k_97, k_99, k_100, k_122, k_200, k_255, k_420, k_448, k_720, k_800, k_999, k_bit, k_shl, fa_and, nI_add, bl_1, bl_0, bl_n1, bl_n0, bl_i1, nI_lt0, nI_0le, nI_eq0, nI_eqT, nI_leI, nI_ltI, nI_eq, Nat.not_le, Nat.not_lt, Bool.not_eq_true, Bool.not_eq_false, not_true_eq_false, not_false_eq_true, Decidable.not_not] at cq
      repeat (first | refine g_px rfl rfl rfl ?_)
      subst hT
      exact g_iret hv rfl rfl rfl rfl ⟨by rw [inR_nI hk (by omega), decide_eq_true (by omega)]; rfl, rfl⟩
theorem s_isSeed : mj_Sx sta (d + 1) 143 [.int m] [] (fun v w => v = some (.int (bl (inR 65537 m))) ∧ w = []) := by
  refine mj_Sx.mk m_X8_isSeed (by decide) n_X8_isSeed rfl (fun h0 hv => ?_)
  generalize hT : mj_rx m_X8_isSeed h0 _ _ = T
  have no : inR 65537 m = false → mj_go sta (mj_Cl sta d) m_X8_isSeed T 15 [some (.int m)] [] h0 := by
    intro e
    repeat (first | refine g_px rfl rfl rfl ?_)
    subst hT
    exact g_iret hv rfl rfl rfl rfl ⟨by rw [e]; rfl, rfl⟩
  repeat (first | refine g_px rfl rfl rfl ?_)
  refine g_if rfl (fun cq => ?_) (fun cq => ?_)
  · exact no (inR_neg cq)
  · obtain ⟨k, hk, rfl⟩ := nI_of cq
    repeat (first | refine g_px rfl rfl rfl ?_)
    refine g_ic rfl (fun cq => ?_) (fun cq => ?_)
    · have cq : nI 65536 < nI k := cq
      simp (disch := omega) only [mj_cp, k_6, k_7, k_8, k_9, k_10, k_12, k_15, k_16, k_18, k_20, k_24, k_25, k_26, k_27, k_28, k_32, k_36, k_48, k_57, k_59, k_63, k_74, k_75, k_84, k_90, k_97, k_99, k_100, k_122, k_200, k_255, k_420, k_448, k_720, k_800, k_999, k_bit, k_shl, fa_and, nI_add, bl_1, bl_0, bl_n1, bl_n0, bl_i1, nI_lt0, nI_0le, nI_eq0, nI_eqT, nI_leI, nI_ltI, nI_eq, Nat.not_le, Nat.not_lt, Bool.not_eq_true, Bool.not_eq_false, not_true_eq_false, not_false_eq_true, Decidable.not_not] at cq
      exact no (by rw [inR_nI hk (by omega), decide_eq_false (by omega)])
    · have cq : ¬ nI 65536 < nI k := cq
      simp (disch := omega) only [mj_cp, k_6, k_7, k_8, k_9, k_10, k_12, k_15, k_16, k_18, k_20, k_24, k_25, k_26, k_27, k_28, k_32, k_36, k_48, k_57, k_59, k_63, k_74, k_75, k_84, k_90, k_97, k_99, k_100, k_122, k_200, k_255, k_420, k_448, k_720, k_800, k_999, k_bit, k_shl, fa_and, nI_add, bl_1, bl_0, bl_n1, bl_n0, bl_i1, nI_lt0, nI_0le, nI_eq0, nI_eqT, nI_leI, nI_ltI, nI_eq, Nat.not_le, Nat.not_lt, Bool.not_eq_true, Bool.not_eq_false, not_true_eq_false, not_false_eq_true, Decidable.not_not] at cq
      repeat (first | refine g_px rfl rfl rfl ?_)
      subst hT
      exact g_iret hv rfl rfl rfl rfl ⟨by rw [inR_nI hk (by omega), decide_eq_true (by omega)]; rfl, rfl⟩
/-- 1 to 90 -/
def inD (m : Int32) : Bool := decide (1 ≤ m) && decide (m ≤ 90)
theorem inD_at {m : Int32} (h : inD m = true) : ∃ k, 1 ≤ k ∧ k ≤ 90 ∧ m = nI k := by
  unfold inD at h
  rw [Bool.and_eq_true, decide_eq_true_eq, decide_eq_true_eq] at h
  obtain ⟨k, hk, e⟩ := nI_of (x := m) (fun z => by
    have := Int32.lt_of_lt_of_le z (show (0 : Int32) ≤ 1 by decide)
    exact absurd h.1 (Int32.not_le.mpr this))
  subst e
  have h1 : nI 1 ≤ nI k := h.1
  have h2 : nI k ≤ nI 90 := h.2
  rw [nI_leI (by omega) (by omega)] at h1 h2
  exact ⟨k, h1, h2, rfl⟩
theorem s_isDrafts : mj_Sx sta (d + 1) 144 [.int m] [] (fun v w => v = some (.int (bl (inD m))) ∧ w = []) := by
  refine mj_Sx.mk m_X8_isDrafts (by decide) n_X8_isDrafts rfl (fun h0 hv => ?_)
  generalize hT : mj_rx m_X8_isDrafts h0 _ _ = T
  have no : inD m = false → mj_go sta (mj_Cl sta d) m_X8_isDrafts T 15 [some (.int m)] [] h0 := by
    intro e
    repeat (first | refine g_px rfl rfl rfl ?_)
    subst hT
    exact g_iret hv rfl rfl rfl rfl ⟨by rw [e]; rfl, rfl⟩
  repeat (first | refine g_px rfl rfl rfl ?_)
  refine g_ic rfl (fun cq => ?_) (fun cq => ?_)
  · have cq : m < 1 := cq
    exact no (by unfold inD; rw [decide_eq_false (Int32.not_le.mpr cq), Bool.false_and])
  · have cq : ¬ m < 1 := cq
    have h1 := Int32.not_lt.mp cq
    repeat (first | refine g_px rfl rfl rfl ?_)
    refine g_ic rfl (fun cq => ?_) (fun cq => ?_)
    · have cq : 90 < m := cq
      exact no (by unfold inD; rw [decide_eq_false (Int32.not_le.mpr cq), Bool.and_false])
    · have cq : ¬ 90 < m := cq
      have h2 := Int32.not_lt.mp cq
      repeat (first | refine g_px rfl rfl rfl ?_)
      subst hT
      exact g_iret hv rfl rfl rfl rfl ⟨by unfold inD; rw [decide_eq_true h1, decide_eq_true h2]; rfl, rfl⟩
theorem s_changed (kn fi : Int32) : mj_Sx sta (d + 2) 145 [.ref 0] [wob tr dr a b sl, (144, .inr (3, [.int kn, .int fi, .ref 145]))] (fun v w => v = none ∧ w = [wob tr dr a b true, (144, .inr (3, [.int 0, .int 0, .ref 145]))]) := by
  refine mj_Sx.mk m_X8_changed (by decide) n_X8_changed rfl (fun h0 hv => ?_)
  generalize hT : mj_rx m_X8_changed h0 _ _ = T
  repeat (first | refine g_px rfl rfl rfl ?_)
  refine g_put hv 0 rfl rfl rfl rfl rfl rfl (fun h hv => ?_)
  repeat (first | refine g_px rfl rfl rfl ?_ | refine g_get hv 0 rfl rfl rfl rfl ?_)
  refine g_callV hv [1] 1 rfl rfl rfl rfl rfl rfl rfl rfl (by simp) (s_forget sta d kn fi) (fun v w' h hp hk2 hv => ?_)
  obtain ⟨rfl, rfl⟩ := hp
  subst hT
  exact g_vret hv rfl rfl rfl ⟨rfl, rfl⟩
end Preds
