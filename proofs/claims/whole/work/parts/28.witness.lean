/-! Witness -/
abbrev aN (L : Nat) (f : Nat → Nat) : va_E := .inl (0, L, .inl (fun i => if i < L then nI (f i) else 0))
section RN
variable {sta : mj_S} {Cl : mj_R} {M : mj_M} {T : Nat → mj_L → List Value → mj_H → Prop} {pc q len wp a k L : Nat} {lv : mj_L} {st r : List Value} {h0 h : mj_H} {w : mj_W} {raw : Instr} {f : Nat → Nat}
theorem g_nL (hv : mj_Vw h0 w h) (j : Nat) (hk : k < L) (hL : L < 2 ^ 31) (he : mj_ent (mj_cd M) pc = some (q, .iaload, len, raw, wp)) (hj : mj_nth w j = some (a, aN L f)) (kk : mj_go sta Cl M T (q + len) lv (.int (nI (f k)) :: r) h) : mj_go sta Cl M T pc lv (.int (nI k) :: .ref a :: r) h := by
  refine g_iald hv j he hj (vp_in_nI hk hL) ?_
  rw [nI_clamp (by omega), if_pos hk]
  exact kk
theorem g_nLs {y : Nat} (hv : mj_Vw h0 w h) (j : Nat) (hk : k < L) (hL : L < 2 ^ 31) (he : mj_ent (mj_cd M) pc = some (q, .iastore, len, raw, wp)) (hj : mj_nth w j = some (a, aN L f)) (kk : ∀ h, mj_Vw h0 (w.set j (a, aN L (va_up f k y))) h → mj_go sta Cl M T (q + len) lv r h) : mj_go sta Cl M T pc lv (.int (nI y) :: .int (nI k) :: .ref a :: r) h := by
  refine g_iast hv j he hj (vp_in_nI hk hL) (fun h hv => ?_)
  have e : upd (fun i => if i < L then nI (f i) else (0 : Int32)) k (nI y) = (fun i => if i < L then nI (va_up f k y i) else 0) := by
    funext i
    unfold upd va_up
    by_cases h : i = k
    · subst h; simp [hk]
    · simp [h]
  rw [nI_clamp (by omega), e] at hv
  exact kk h hv
end RN
abbrev wct : va_E := .inl (4, 3, .inr (.inr (.inr (.inr (fun i => if i < 3 then some (148 + i) else none)))))
abbrev wwt (fi ti : Int32) (c : Nat → Nat → Nat) : mj_W := [(146, .inr (7, [.int fi, .int ti, .ref 147])), (147, wct), (148, an (c 0)), (149, an (c 1)), (150, an (c 2))]
theorem s_max (sta : mj_S) (d a b : Nat) (ha : a < 2 ^ 31) (hb : b < 2 ^ 31) : mj_Sx sta (d + 1) 282 [(.int (nI a)), (.int (nI b))] [] (fun v w => v = some (.int (nI (max a b))) ∧ w = []) := by
  refine mj_Sx.mk m_J9_max (by decide) n_J9_max rfl (fun h0 hv => ?_)
  generalize hT : mj_rx m_J9_max h0 _ _ = T
  repeat (first | refine g_px rfl rfl rfl ?_)
  refine g_ic rfl (fun cq => ?_) (fun cq => ?_)
  · simp (disch := omega) only [mj_cp, k_6, k_7, k_8, k_9, k_10, k_12, k_15, k_16, k_18, k_20, k_24, k_25, k_26, k_27, k_28, k_32, k_36, k_48, k_57, k_59, k_63, k_74, k_75, k_84, k_90, k_97, k_99, k_100, k_122, k_200, k_255, k_420, k_448, k_720, k_800, k_999, k_bit, k_shl, fa_and, nI_add, bl_1, bl_0, bl_n1, bl_n0, bl_i1, nI_lt0, nI_0le, nI_eq0, nI_eqT, nI_leI, nI_ltI, nI_eq, Nat.not_le, Nat.not_lt, Bool.not_eq_true, Bool.not_eq_false, not_true_eq_false, not_false_eq_true, Decidable.not_not] at cq
    repeat (first | refine g_px rfl rfl rfl ?_)
    subst hT
    refine g_iret hv rfl rfl rfl rfl ?_
    exact ⟨by rw [Nat.max_eq_right (by omega)], rfl⟩
  · simp (disch := omega) only [mj_cp, k_6, k_7, k_8, k_9, k_10, k_12, k_15, k_16, k_18, k_20, k_24, k_25, k_26, k_27, k_28, k_32, k_36, k_48, k_57, k_59, k_63, k_74, k_75, k_84, k_90, k_97, k_99, k_100, k_122, k_200, k_255, k_420, k_448, k_720, k_800, k_999, k_bit, k_shl, fa_and, nI_add, bl_1, bl_0, bl_n1, bl_n0, bl_i1, nI_lt0, nI_0le, nI_eq0, nI_eqT, nI_leI, nI_ltI, nI_eq, Nat.not_le, Nat.not_lt, Bool.not_eq_true, Bool.not_eq_false, not_true_eq_false, not_false_eq_true, Decidable.not_not] at cq
    repeat (first | refine g_px rfl rfl rfl ?_)
    subst hT
    refine g_iret hv rfl rfl rfl rfl ?_
    exact ⟨by rw [Nat.max_eq_left (by omega)], rfl⟩
theorem rf3 {k : Nat} (hk : k < 3) : va_rf ((fun i => if i < 3 then some (148 + i) else none) (nI k).toNatClampNeg) = .ref (148 + k) := by
  rw [nI_clamp (by omega)]
  simp only [if_pos hk]
  rfl
/-- bits of those who could be -/
def cbe (c : Nat → Nat) : Nat → Nat
  | 0 => 0
  | m + 1 => if 0 < c m then cbe c m ||| 2 ^ m else cbe c m
theorem cbe_lt {c : Nat → Nat} : ∀ m, m ≤ 6 → cbe c m < 64
  | 0, _ => Nat.le_of_ble_eq_true rfl
  | m + 1, h => by
    have ih := cbe_lt (c := c) m (by omega)
    rw [cbe]
    split
    · exact bt_lt _ ih _ (by omega)
    · exact ih
abbrev wk1 (fi ti : Int32) (k : Nat) (c : Nat → Nat) : mj_W := [(146, .inr (7, [.int fi, .int ti, .ref 147])), (147, wct), (148 + k, an c)]
section Wit
variable (sta : mj_S) (d k n : Nat) (fi ti : Int32) (c : Nat → Nat)
theorem s_couldBe (hk : k < 3) (hn : n ≤ 6) (hc : bd 1000 c) : mj_Sx sta (d + 1) 63 [.ref 146, (.int (nI k)), (.int (nI n))] (wk1 fi ti k c) (fun v w => v = some (.int (nI (cbe c n))) ∧ w = wk1 fi ti k c) := by
  refine mj_Sx.mk m_X7_couldBe (by decide) n_X7_couldBe rfl (fun h0 hv => ?_)
  generalize hT : mj_rx m_X7_couldBe h0 _ _ = T
  have loop : ∀ j x, x + j = n → mj_go sta (mj_Cl sta d) m_X7_couldBe T 5 [some (.ref 146), some (.int (nI k)), some (.int (nI n)), some (.int (nI (cbe c x))), some (.int (nI x))] [] h0 := by
    intro j
    induction j with
    | zero =>
      intro x hx
      repeat (first | refine g_px rfl rfl rfl ?_)
      refine g_ic rfl (fun cq => ?_) (fun cq => ?_)
      · have hx : x = n := by omega
        subst hx
        repeat (first | refine g_px rfl rfl rfl ?_)
        subst hT
        exact g_iret hv rfl rfl rfl rfl ⟨rfl, rfl⟩
      · simp (disch := omega) only [mj_cp, k_6, k_7, k_8, k_9, k_10, k_12, k_15, k_16, k_18, k_20, k_24, k_25, k_26, k_27, k_28, k_32, k_36, k_48, k_57, k_59, k_63, k_74, k_75, k_84, k_90, k_97, k_99, k_100, k_122, k_200, k_255, k_420, k_448, k_720, k_800, k_999, k_bit, k_shl, fa_and, nI_add, bl_1, bl_0, bl_n1, bl_n0, bl_i1, nI_lt0, nI_0le, nI_eq0, nI_eqT, nI_leI, nI_ltI, nI_eq, Nat.not_le, Nat.not_lt, Bool.not_eq_true, Bool.not_eq_false, not_true_eq_false, not_false_eq_true, Decidable.not_not] at cq
        omega
    | succ j ih =>
      intro x hx
      have hcx := hc x
      repeat (first | refine g_px rfl rfl rfl ?_)
      refine g_ic rfl (fun cq => ?_) (fun cq => ?_)
      · simp (disch := omega) only [mj_cp, k_6, k_7, k_8, k_9, k_10, k_12, k_15, k_16, k_18, k_20, k_24, k_25, k_26, k_27, k_28, k_32, k_36, k_48, k_57, k_59, k_63, k_74, k_75, k_84, k_90, k_97, k_99, k_100, k_122, k_200, k_255, k_420, k_448, k_720, k_800, k_999, k_bit, k_shl, fa_and, nI_add, bl_1, bl_0, bl_n1, bl_n0, bl_i1, nI_lt0, nI_0le, nI_eq0, nI_eqT, nI_leI, nI_ltI, nI_eq, Nat.not_le, Nat.not_lt, Bool.not_eq_true, Bool.not_eq_false, not_true_eq_false, not_false_eq_true, Decidable.not_not] at cq
        omega
      · repeat (first | refine g_px rfl rfl rfl ?_ | refine g_get hv 0 rfl rfl rfl rfl ?_)
        refine g_aald4 hv 1 rfl rfl (vp_in_nI hk (by decide)) ?_
        rw [rf3 hk]
        repeat (first | refine g_px rfl rfl rfl ?_)
        refine g_n6 hv 2 (by omega) rfl rfl ?_
        have hnx := ih (x + 1) (by omega)
        rw [nI_succ, cbe] at hnx
        refine g_if rfl (fun cq => ?_) (fun cq => ?_)
        · have cq : nI (c x) ≤ nI 0 := cq
          simp (disch := omega) only [mj_cp, k_6, k_7, k_8, k_9, k_10, k_12, k_15, k_16, k_18, k_20, k_24, k_25, k_26, k_27, k_28, k_32, k_36, k_48, k_57, k_59, k_63, k_74, k_75, k_84, k_90, k_97, k_99, k_100, k_122, k_200, k_255, k_420, k_448, k_720, k_800, k_999, k_bit, k_shl, fa_and, nI_add, bl_1, bl_0, bl_n1, bl_n0, bl_i1, nI_lt0, nI_0le, nI_eq0, nI_eqT, nI_leI, nI_ltI, nI_eq, Nat.not_le, Nat.not_lt, Bool.not_eq_true, Bool.not_eq_false, not_true_eq_false, not_false_eq_true, Decidable.not_not] at cq
          rw [if_neg (by omega)] at hnx
          refine g_run 2 rfl ?_
          exact hnx
        · have cq : ¬ nI (c x) ≤ nI 0 := cq
          simp (disch := omega) only [mj_cp, k_6, k_7, k_8, k_9, k_10, k_12, k_15, k_16, k_18, k_20, k_24, k_25, k_26, k_27, k_28, k_32, k_36, k_48, k_57, k_59, k_63, k_74, k_75, k_84, k_90, k_97, k_99, k_100, k_122, k_200, k_255, k_420, k_448, k_720, k_800, k_999, k_bit, k_shl, fa_and, nI_add, bl_1, bl_0, bl_n1, bl_n0, bl_i1, nI_lt0, nI_0le, nI_eq0, nI_eqT, nI_leI, nI_ltI, nI_eq, Nat.not_le, Nat.not_lt, Bool.not_eq_true, Bool.not_eq_false, not_true_eq_false, not_false_eq_true, Decidable.not_not] at cq
          rw [if_pos (by omega)] at hnx
          refine g_run 6 rfl ?_
          simp (disch := omega) only [k_6, k_7, k_8, k_9, k_10, k_12, k_15, k_16, k_18, k_20, k_24, k_25, k_26, k_27, k_28, k_32, k_36, k_48, k_57, k_59, k_63, k_74, k_75, k_84, k_90, k_97, k_99, k_100, k_122, k_200, k_255, k_420, k_448, k_720, k_800, k_999, k_bit, k_shl, fa_or, fa_and, nI_add, pk_sub, pk_mul]
          refine g_run 2 rfl ?_
          exact hnx
  refine g_run 4 rfl ?_
  exact loop n 0 (by omega)
/-- who alone could be -/
def mbe (c : Nat → Nat) (f : Nat) : Nat → Nat → Option Nat
  | 0, _ => none
  | j + 1, x => if 0 < c x ∧ c x = f then some x else mbe c f j (x + 1)
theorem s_mustBe (f : Nat) (hf : f < 1000) (hk : k < 3) (hn : n ≤ 6) (hc : bd 1000 c) : mj_Sx sta (d + 1) 64 [.ref 146, (.int (nI k)), (.int (nI n))] (wk1 (nI f) ti k c) (fun v w => v = some (.int (snd (mbe c f n 0))) ∧ w = wk1 (nI f) ti k c) := by
  refine mj_Sx.mk m_X7_mustBe (by decide) n_X7_mustBe rfl (fun h0 hv => ?_)
  generalize hT : mj_rx m_X7_mustBe h0 _ _ = T
  have loop : ∀ j x, x + j = n → mbe c f n 0 = mbe c f j x → mj_go sta (mj_Cl sta d) m_X7_mustBe T 2 [some (.ref 146), some (.int (nI k)), some (.int (nI n)), some (.int (nI x))] [] h0 := by
    intro j
    induction j with
    | zero =>
      intro x hx he
      repeat (first | refine g_px rfl rfl rfl ?_)
      refine g_ic rfl (fun cq => ?_) (fun cq => ?_)
      · repeat (first | refine g_px rfl rfl rfl ?_)
        subst hT
        refine g_iret hv rfl rfl rfl rfl ?_
        exact ⟨by rw [he]; rfl, rfl⟩
      · simp (disch := omega) only [mj_cp, k_6, k_7, k_8, k_9, k_10, k_12, k_15, k_16, k_18, k_20, k_24, k_25, k_26, k_27, k_28, k_32, k_36, k_48, k_57, k_59, k_63, k_74, k_75, k_84, k_90, k_97, k_99, k_100, k_122, k_200, k_255, k_420, k_448, k_720, k_800, k_999, k_bit, k_shl, fa_and, nI_add, bl_1, bl_0, bl_n1, bl_n0, bl_i1, nI_lt0, nI_0le, nI_eq0, nI_eqT, nI_leI, nI_ltI, nI_eq, Nat.not_le, Nat.not_lt, Bool.not_eq_true, Bool.not_eq_false, not_true_eq_false, not_false_eq_true, Decidable.not_not] at cq
        omega
    | succ j ih =>
      intro x hx he
      have hcx := hc x
      rw [mbe] at he
      have nx : ¬ (0 < c x ∧ c x = f) → mj_go sta (mj_Cl sta d) m_X7_mustBe T 35 [some (.ref 146), some (.int (nI k)), some (.int (nI n)), some (.int (nI x))] [] h0 := by
        intro hno
        rw [if_neg hno] at he
        refine g_run 2 rfl ?_
        have hnx := ih (x + 1) (by omega) he
        rw [nI_succ] at hnx
        exact hnx
      repeat (first | refine g_px rfl rfl rfl ?_)
      refine g_ic rfl (fun cq => ?_) (fun cq => ?_)
      · simp (disch := omega) only [mj_cp, k_6, k_7, k_8, k_9, k_10, k_12, k_15, k_16, k_18, k_20, k_24, k_25, k_26, k_27, k_28, k_32, k_36, k_48, k_57, k_59, k_63, k_74, k_75, k_84, k_90, k_97, k_99, k_100, k_122, k_200, k_255, k_420, k_448, k_720, k_800, k_999, k_bit, k_shl, fa_and, nI_add, bl_1, bl_0, bl_n1, bl_n0, bl_i1, nI_lt0, nI_0le, nI_eq0, nI_eqT, nI_leI, nI_ltI, nI_eq, Nat.not_le, Nat.not_lt, Bool.not_eq_true, Bool.not_eq_false, not_true_eq_false, not_false_eq_true, Decidable.not_not] at cq
        omega
      · repeat (first | refine g_px rfl rfl rfl ?_ | refine g_get hv 0 rfl rfl rfl rfl ?_)
        refine g_aald4 hv 1 rfl rfl (vp_in_nI hk (by decide)) ?_
        rw [rf3 hk]
        repeat (first | refine g_px rfl rfl rfl ?_)
        refine g_n6 hv 2 (by omega) rfl rfl ?_
        refine g_if rfl (fun cq => ?_) (fun cq => ?_)
        · have cq : nI (c x) ≤ nI 0 := cq
          simp (disch := omega) only [mj_cp, k_6, k_7, k_8, k_9, k_10, k_12, k_15, k_16, k_18, k_20, k_24, k_25, k_26, k_27, k_28, k_32, k_36, k_48, k_57, k_59, k_63, k_74, k_75, k_84, k_90, k_97, k_99, k_100, k_122, k_200, k_255, k_420, k_448, k_720, k_800, k_999, k_bit, k_shl, fa_and, nI_add, bl_1, bl_0, bl_n1, bl_n0, bl_i1, nI_lt0, nI_0le, nI_eq0, nI_eqT, nI_leI, nI_ltI, nI_eq, Nat.not_le, Nat.not_lt, Bool.not_eq_true, Bool.not_eq_false, not_true_eq_false, not_false_eq_true, Decidable.not_not] at cq
          exact nx (by omega)
        · have cq : ¬ nI (c x) ≤ nI 0 := cq
          simp (disch := omega) only [mj_cp, k_6, k_7, k_8, k_9, k_10, k_12, k_15, k_16, k_18, k_20, k_24, k_25, k_26, k_27, k_28, k_32, k_36, k_48, k_57, k_59, k_63, k_74, k_75, k_84, k_90, k_97, k_99, k_100, k_122, k_200, k_255, k_420, k_448, k_720, k_800, k_999, k_bit, k_shl, fa_and, nI_add, bl_1, bl_0, bl_n1, bl_n0, bl_i1, nI_lt0, nI_0le, nI_eq0, nI_eqT, nI_leI, nI_ltI, nI_eq, Nat.not_le, Nat.not_lt, Bool.not_eq_true, Bool.not_eq_false, not_true_eq_false, not_false_eq_true, Decidable.not_not] at cq
          repeat (first | refine g_px rfl rfl rfl ?_ | refine g_get hv 0 rfl rfl rfl rfl ?_)
          refine g_aald4 hv 1 rfl rfl (vp_in_nI hk (by decide)) ?_
          rw [rf3 hk]
          repeat (first | refine g_px rfl rfl rfl ?_)
          refine g_n6 hv 2 (by omega) rfl rfl ?_
          repeat (first | refine g_px rfl rfl rfl ?_ | refine g_get hv 0 rfl rfl rfl rfl ?_)
          refine g_ic rfl (fun cq => ?_) (fun cq => ?_)
          · simp (disch := omega) only [mj_cp, k_6, k_7, k_8, k_9, k_10, k_12, k_15, k_16, k_18, k_20, k_24, k_25, k_26, k_27, k_28, k_32, k_36, k_48, k_57, k_59, k_63, k_74, k_75, k_84, k_90, k_97, k_99, k_100, k_122, k_200, k_255, k_420, k_448, k_720, k_800, k_999, k_bit, k_shl, fa_and, nI_add, bl_1, bl_0, bl_n1, bl_n0, bl_i1, nI_lt0, nI_0le, nI_eq0, nI_eqT, nI_leI, nI_ltI, nI_eq, Nat.not_le, Nat.not_lt, Bool.not_eq_true, Bool.not_eq_false, not_true_eq_false, not_false_eq_true, Decidable.not_not] at cq
            exact nx (by omega)
          · simp (disch := omega) only [mj_cp, k_6, k_7, k_8, k_9, k_10, k_12, k_15, k_16, k_18, k_20, k_24, k_25, k_26, k_27, k_28, k_32, k_36, k_48, k_57, k_59, k_63, k_74, k_75, k_84, k_90, k_97, k_99, k_100, k_122, k_200, k_255, k_420, k_448, k_720, k_800, k_999, k_bit, k_shl, fa_and, nI_add, bl_1, bl_0, bl_n1, bl_n0, bl_i1, nI_lt0, nI_0le, nI_eq0, nI_eqT, nI_leI, nI_ltI, nI_eq, Nat.not_le, Nat.not_lt, Bool.not_eq_true, Bool.not_eq_false, not_true_eq_false, not_false_eq_true, Decidable.not_not] at cq
            rw [if_pos (by omega)] at he
            repeat (first | refine g_px rfl rfl rfl ?_)
            subst hT
            refine g_iret hv rfl rfl rfl rfl ?_
            exact ⟨by rw [he]; rfl, rfl⟩
  refine g_run 2 rfl ?_
  exact loop n 0 (by omega) rfl
/-- the most -/
def mst (c : Nat → Nat) : Nat → Nat
  | 0 => 0
  | m + 1 => max (mst c m) (c m)
theorem mst_lt {c : Nat → Nat} (hc : bd 1000 c) : ∀ m, mst c m < 1000
  | 0 => Nat.le_of_ble_eq_true rfl
  | m + 1 => by
    have := mst_lt hc m
    have := hc m
    rw [mst]
    omega
theorem s_mostLeft (hk : k < 3) (hn : n ≤ 6) (hc : bd 1000 c) : mj_Sx sta (d + 2) 65 [.ref 146, (.int (nI k)), (.int (nI n))] (wk1 fi ti k c) (fun v w => v = some (.int (nI (mst c n))) ∧ w = wk1 fi ti k c) := by
  refine mj_Sx.mk m_X7_mostLeft (by decide) n_X7_mostLeft rfl (fun h0 hv => ?_)
  generalize hT : mj_rx m_X7_mostLeft h0 _ _ = T
  have loop : ∀ j x h, x + j = n → mj_Vw h0 (wk1 fi ti k c) h → mj_go sta (mj_Cl sta (d + 1)) m_X7_mostLeft T 5 [some (.ref 146), some (.int (nI k)), some (.int (nI n)), some (.int (nI (mst c x))), some (.int (nI x))] [] h := by
    intro j
    induction j with
    | zero =>
      intro x h hx hv
      repeat (first | refine g_px rfl rfl rfl ?_)
      refine g_ic rfl (fun cq => ?_) (fun cq => ?_)
      · have hx : x = n := by omega
        subst hx
        repeat (first | refine g_px rfl rfl rfl ?_)
        subst hT
        exact g_iret hv rfl rfl rfl rfl ⟨rfl, rfl⟩
      · simp (disch := omega) only [mj_cp, k_6, k_7, k_8, k_9, k_10, k_12, k_15, k_16, k_18, k_20, k_24, k_25, k_26, k_27, k_28, k_32, k_36, k_48, k_57, k_59, k_63, k_74, k_75, k_84, k_90, k_97, k_99, k_100, k_122, k_200, k_255, k_420, k_448, k_720, k_800, k_999, k_bit, k_shl, fa_and, nI_add, bl_1, bl_0, bl_n1, bl_n0, bl_i1, nI_lt0, nI_0le, nI_eq0, nI_eqT, nI_leI, nI_ltI, nI_eq, Nat.not_le, Nat.not_lt, Bool.not_eq_true, Bool.not_eq_false, not_true_eq_false, not_false_eq_true, Decidable.not_not] at cq
        omega
    | succ j ih =>
      intro x h hx hv
      have hcx := hc x
      have hmx := mst_lt hc x
      repeat (first | refine g_px rfl rfl rfl ?_)
      refine g_ic rfl (fun cq => ?_) (fun cq => ?_)
      · simp (disch := omega) only [mj_cp, k_6, k_7, k_8, k_9, k_10, k_12, k_15, k_16, k_18, k_20, k_24, k_25, k_26, k_27, k_28, k_32, k_36, k_48, k_57, k_59, k_63, k_74, k_75, k_84, k_90, k_97, k_99, k_100, k_122, k_200, k_255, k_420, k_448, k_720, k_800, k_999, k_bit, k_shl, fa_and, nI_add, bl_1, bl_0, bl_n1, bl_n0, bl_i1, nI_lt0, nI_0le, nI_eq0, nI_eqT, nI_leI, nI_ltI, nI_eq, Nat.not_le, Nat.not_lt, Bool.not_eq_true, Bool.not_eq_false, not_true_eq_false, not_false_eq_true, Decidable.not_not] at cq
        omega
      · repeat (first | refine g_px rfl rfl rfl ?_ | refine g_get hv 0 rfl rfl rfl rfl ?_)
        refine g_aald4 hv 1 rfl rfl (vp_in_nI hk (by decide)) ?_
        rw [rf3 hk]
        repeat (first | refine g_px rfl rfl rfl ?_)
        refine g_n6 hv 2 (by omega) rfl rfl ?_
        refine g_callS hv [] rfl rfl rfl rfl rfl rfl rfl (by decide) (s_max sta d (mst c x) (c x) (by omega) (by omega)) (fun v w' h hp hk hv => ?_)
        obtain ⟨rfl, rfl⟩ := hp
        refine g_run 3 rfl ?_
        have hnx := ih (x + 1) h (by omega) hv
        rw [nI_succ, mst] at hnx
        exact hnx
  refine g_run 4 rfl ?_
  exact loop n 0 h0 (by omega) hv
end Wit
/-- whom to ask: the first with the least most -/
def bst (c : Nat → Nat → Nat) (n : Nat) : Nat → Option Nat × Nat
  | 0 => (none, 0)
  | k + 1 => if (bst c n k).1 = none ∨ mst (c k) n < (bst c n k).2 then (some k, mst (c k) n) else bst c n k
theorem bst_lt {c : Nat → Nat → Nat} {n : Nat} (hc : ∀ k, bd 1000 (c k)) : ∀ k, (bst c n k).2 < 1000 ∧ ∀ q, (bst c n k).1 = some q → q < k
  | 0 => ⟨Nat.le_of_ble_eq_true rfl, fun q h => by cases h⟩
  | k + 1 => by
    have ih := bst_lt (n := n) hc k
    rw [bst]
    split
    · exact ⟨mst_lt (hc k) n, fun q h => by cases h; omega⟩
    · exact ⟨ih.1, fun q h => by have := ih.2 q h; omega⟩
theorem snd_n2 {o : Option Nat} (h : ∀ q, o = some q → q < 1000) : (snd o = (Int8.ofInt (-2)).toInt32 ↔ o = none) := by
  cases o with
  | none => exact ⟨fun _ => rfl, fun _ => rfl⟩
  | some q =>
    refine ⟨fun z => ?_, fun z => by cases z⟩
    have hq := nI_pos' (n := q) (by have := h q rfl; omega)
    have z : nI q = -2 := z
    rw [z] at hq
    exact absurd hq (by decide)
theorem s_best (sta : mj_S) (d b n f wn : Nat) (ti tk kn sp hd hi er sh : Int32) (c : Nat → Nat → Nat) (hf : f < 1000) (hwn : wn ≤ 3) (hn : n ≤ 6) (hc : ∀ k, bd 1000 (c k)) :
    mj_Sx sta (d + 3) 66 [.ref 146, .ref b] (wwt (nI f) ti c ++ [(b, .inr (1, dob b tk (nI n) kn sp hd hi er sh (nI wn)))]) (fun v w => v = some (.int (snd (if 0 < f then (bst c n wn).1 else none))) ∧ w = wwt (nI f) ti c ++ [(b, .inr (1, dob b tk (nI n) kn sp hd hi er sh (nI wn)))]) := by
  refine mj_Sx.mk m_X7_best (by decide) n_X7_best rfl (fun h0 hv => ?_)
  generalize hT : mj_rx m_X7_best h0 _ _ = T
  have loop : ∀ j x h o, x + j = wn → (0 < f ∨ x = 0) → mj_Vw h0 (wwt (nI f) ti c ++ [(b, .inr (1, dob b tk (nI n) kn sp hd hi er sh (nI wn)))]) h → mj_go sta (mj_Cl sta (d + 2)) m_X7_best T 8 [some (.ref 146), some (.ref b), some (.int (snd (bst c n x).1)), some (.int (nI ((bst c n x).2))), some (.int (nI x)), o] [] h := by
    intro j
    induction j with
    | zero =>
      intro x h o hx hf0 hv
      repeat (first | refine g_px rfl rfl rfl ?_ | refine g_get hv 5 rfl rfl rfl rfl ?_)
      refine g_ic rfl (fun cq => ?_) (fun cq => ?_)
      · have hx : x = wn := by omega
        subst hx
        repeat (first | refine g_px rfl rfl rfl ?_)
        subst hT
        refine g_iret hv rfl rfl rfl rfl ?_
        refine ⟨?_, rfl⟩
        split
        · rfl
        · have : x = 0 := by omega
          subst this
          rfl
      · simp (disch := omega) only [mj_cp, k_6, k_7, k_8, k_9, k_10, k_12, k_15, k_16, k_18, k_20, k_24, k_25, k_26, k_27, k_28, k_32, k_36, k_48, k_57, k_59, k_63, k_74, k_75, k_84, k_90, k_97, k_99, k_100, k_122, k_200, k_255, k_420, k_448, k_720, k_800, k_999, k_bit, k_shl, fa_and, nI_add, bl_1, bl_0, bl_n1, bl_n0, bl_i1, nI_lt0, nI_0le, nI_eq0, nI_eqT, nI_leI, nI_ltI, nI_eq, Nat.not_le, Nat.not_lt, Bool.not_eq_true, Bool.not_eq_false, not_true_eq_false, not_false_eq_true, Decidable.not_not] at cq
        omega
    | succ j ih =>
      intro x h o hx hf0 hv
      have hb := bst_lt (n := n) hc x
      have hmx := mst_lt (hc x) n
      repeat (first | refine g_px rfl rfl rfl ?_ | refine g_get hv 5 rfl rfl rfl rfl ?_)
      refine g_ic rfl (fun cq => ?_) (fun cq => ?_)
      · simp (disch := omega) only [mj_cp, k_6, k_7, k_8, k_9, k_10, k_12, k_15, k_16, k_18, k_20, k_24, k_25, k_26, k_27, k_28, k_32, k_36, k_48, k_57, k_59, k_63, k_74, k_75, k_84, k_90, k_97, k_99, k_100, k_122, k_200, k_255, k_420, k_448, k_720, k_800, k_999, k_bit, k_shl, fa_and, nI_add, bl_1, bl_0, bl_n1, bl_n0, bl_i1, nI_lt0, nI_0le, nI_eq0, nI_eqT, nI_leI, nI_ltI, nI_eq, Nat.not_le, Nat.not_lt, Bool.not_eq_true, Bool.not_eq_false, not_true_eq_false, not_false_eq_true, Decidable.not_not] at cq
        omega
      · repeat (first | refine g_px rfl rfl rfl ?_ | refine g_get hv 0 rfl rfl rfl rfl ?_)
        refine g_if rfl (fun cq => ?_) (fun cq => ?_)
        · have cq : nI f ≤ nI 0 := cq
          simp (disch := omega) only [mj_cp, k_6, k_7, k_8, k_9, k_10, k_12, k_15, k_16, k_18, k_20, k_24, k_25, k_26, k_27, k_28, k_32, k_36, k_48, k_57, k_59, k_63, k_74, k_75, k_84, k_90, k_97, k_99, k_100, k_122, k_200, k_255, k_420, k_448, k_720, k_800, k_999, k_bit, k_shl, fa_and, nI_add, bl_1, bl_0, bl_n1, bl_n0, bl_i1, nI_lt0, nI_0le, nI_eq0, nI_eqT, nI_leI, nI_ltI, nI_eq, Nat.not_le, Nat.not_lt, Bool.not_eq_true, Bool.not_eq_false, not_true_eq_false, not_false_eq_true, Decidable.not_not] at cq
          have : x = 0 := by omega
          subst this
          repeat (first | refine g_px rfl rfl rfl ?_)
          subst hT
          refine g_iret hv rfl rfl rfl rfl ?_
          exact ⟨by rw [if_neg (by omega)]; rfl, rfl⟩
        · have cq : ¬ nI f ≤ nI 0 := cq
          simp (disch := omega) only [mj_cp, k_6, k_7, k_8, k_9, k_10, k_12, k_15, k_16, k_18, k_20, k_24, k_25, k_26, k_27, k_28, k_32, k_36, k_48, k_57, k_59, k_63, k_74, k_75, k_84, k_90, k_97, k_99, k_100, k_122, k_200, k_255, k_420, k_448, k_720, k_800, k_999, k_bit, k_shl, fa_and, nI_add, bl_1, bl_0, bl_n1, bl_n0, bl_i1, nI_lt0, nI_0le, nI_eq0, nI_eqT, nI_leI, nI_ltI, nI_eq, Nat.not_le, Nat.not_lt, Bool.not_eq_true, Bool.not_eq_false, not_true_eq_false, not_false_eq_true, Decidable.not_not] at cq
          repeat (first | refine g_px rfl rfl rfl ?_ | refine g_get hv 5 rfl rfl rfl rfl ?_)
          have key : mj_go sta (mj_Cl sta (d + 2)) m_X7_best T 31 [some (.ref 146), some (.ref b), some (.int (snd (bst c n x).1)), some (.int (nI ((bst c n x).2))), some (.int (nI x)), o] [(.int (nI n)), (.int (nI x)), (.ref 146)] h := by
            have nxt : ∀ h, mj_Vw h0 (wwt (nI f) ti c ++ [(b, .inr (1, dob b tk (nI n) kn sp hd hi er sh (nI wn)))]) h → mj_go sta (mj_Cl sta (d + 2)) m_X7_best T 34 [some (.ref 146), some (.ref b), some (.int (snd (bst c n x).1)), some (.int (nI ((bst c n x).2))), some (.int (nI x)), o] [(.int (nI (mst (c x) n)))] h := by
              intro h hv
              have hnx := ih (x + 1) h (some (.int (nI (mst (c x) n)))) (by omega) (Or.inl (by omega)) hv
              rw [nI_succ, bst] at hnx
              repeat (first | refine g_px rfl rfl rfl ?_)
              refine g_ic rfl (fun cq => ?_) (fun cq => ?_)
              · have cq : snd (bst c n x).1 = (Int8.ofInt (-2)).toInt32 := cq
                rw [snd_n2 (fun q hq => by have := hb.2 q hq; omega)] at cq
                rw [if_pos (Or.inl cq)] at hnx
                refine g_run 6 rfl ?_
                exact hnx
              · have cq : ¬ snd (bst c n x).1 = (Int8.ofInt (-2)).toInt32 := cq
                rw [snd_n2 (fun q hq => by have := hb.2 q hq; omega)] at cq
                have hno := cq
                repeat (first | refine g_px rfl rfl rfl ?_)
                refine g_ic rfl (fun cq => ?_) (fun cq => ?_)
                · simp (disch := omega) only [mj_cp, k_6, k_7, k_8, k_9, k_10, k_12, k_15, k_16, k_18, k_20, k_24, k_25, k_26, k_27, k_28, k_32, k_36, k_48, k_57, k_59, k_63, k_74, k_75, k_84, k_90, k_97, k_99, k_100, k_122, k_200, k_255, k_420, k_448, k_720, k_800, k_999, k_bit, k_shl, fa_and, nI_add, bl_1, bl_0, bl_n1, bl_n0, bl_i1, nI_lt0, nI_0le, nI_eq0, nI_eqT, nI_leI, nI_ltI, nI_eq, Nat.not_le, Nat.not_lt, Bool.not_eq_true, Bool.not_eq_false, not_true_eq_false, not_false_eq_true, Decidable.not_not] at cq
                  rw [if_neg (fun z => z.elim hno (fun z => by omega))] at hnx
                  refine g_run 2 rfl ?_
                  exact hnx
                · simp (disch := omega) only [mj_cp, k_6, k_7, k_8, k_9, k_10, k_12, k_15, k_16, k_18, k_20, k_24, k_25, k_26, k_27, k_28, k_32, k_36, k_48, k_57, k_59, k_63, k_74, k_75, k_84, k_90, k_97, k_99, k_100, k_122, k_200, k_255, k_420, k_448, k_720, k_800, k_999, k_bit, k_shl, fa_and, nI_add, bl_1, bl_0, bl_n1, bl_n0, bl_i1, nI_lt0, nI_0le, nI_eq0, nI_eqT, nI_leI, nI_ltI, nI_eq, Nat.not_le, Nat.not_lt, Bool.not_eq_true, Bool.not_eq_false, not_true_eq_false, not_false_eq_true, Decidable.not_not] at cq
                  rw [if_pos (Or.inr (by omega))] at hnx
                  refine g_run 6 rfl ?_
                  exact hnx
            have h3 : x = 0 ∨ x = 1 ∨ x = 2 := by omega
            rcases h3 with rfl | rfl | rfl
            · refine g_callV hv [0, 1, 2] 0 rfl rfl rfl rfl rfl rfl rfl rfl (by decide) (s_mostLeft sta d 0 n (nI f) ti (c 0) (by omega) hn (hc 0)) (fun v w' h hp hk hv => ?_)
              obtain ⟨rfl, rfl⟩ := hp
              exact nxt h hv
            · refine g_callV hv [0, 1, 3] 0 rfl rfl rfl rfl rfl rfl rfl rfl (by decide) (s_mostLeft sta d 1 n (nI f) ti (c 1) (by omega) hn (hc 1)) (fun v w' h hp hk hv => ?_)
              obtain ⟨rfl, rfl⟩ := hp
              exact nxt h hv
            · refine g_callV hv [0, 1, 4] 0 rfl rfl rfl rfl rfl rfl rfl rfl (by decide) (s_mostLeft sta d 2 n (nI f) ti (c 2) (by omega) hn (hc 2)) (fun v w' h hp hk hv => ?_)
              obtain ⟨rfl, rfl⟩ := hp
              exact nxt h hv
          exact key
  refine g_run 6 rfl ?_
  exact loop wn 0 h0 none (by omega) (Or.inr rfl) hv
