/-! LowNumber: rows by number -/
abbrev wrv (tr : Int32) (dr : Bool) (a b : Nat) (sl : Bool) (D : Nat → Nat) (DA : Nat → Nat → Nat) (N : Nat → Nat) (NA : Nat → Nat → Nat) (g : Nat → Option Nat) (tb sb cl : Int32) (g2 : Nat → Option Nat) (r : Nat → Nat) : mj_W := [wob tr dr a b sl] ++ dv a D DA ++ nv 19 N NA g ++ [(127, .inr (4, lob 127 tb sb cl)), (128, sq g2), (129, an r)]
/-- the digits of a row's number, the last first; those seen -/
def dj (k j : Nat) : Nat := k / 10 ^ j % 10
def sj (k : Nat) : Nat → Nat
  | 0 => 0
  | j + 1 => sj k j ||| 2 ^ dj k j
def okj (n k : Nat) : Nat → Bool
  | 0 => true
  | j + 1 => okj n k j && (decide (dj k j < n) && !(sj k j).testBit (dj k j))
def okr (n k : Nat) : Bool := okj n k n && decide (k / 10 ^ n = 0)
def rwo (n k : Nat) : Nat → Nat := fun i => dj k (n - 1 - i)
theorem okj_no {n k j : Nat} (h : (decide (dj k j < n) && !(sj k j).testBit (dj k j)) = false) : ∀ m, j < m → okj n k m = false
  | 0, hm => by omega
  | m + 1, hm => by
    rw [okj]
    by_cases e : j = m
    · subst e; rw [h, Bool.and_false]
    · rw [okj_no h m (by omega), Bool.false_and]
theorem okj_lt {n k : Nat} : ∀ m, okj n k m = true → ∀ j, j < m → dj k j < n
  | 0, _, j, hj => by omega
  | m + 1, h, j, hj => by
    rw [okj, Bool.and_eq_true, Bool.and_eq_true, decide_eq_true_eq] at h
    by_cases e : j = m
    · subst e; exact h.2.1
    · exact okj_lt m h.1 j (by omega)
theorem sj_lt {n k : Nat} (hn : n ≤ 6) : ∀ j, okj n k j = true → sj k j < 64
  | 0, _ => Nat.le_of_ble_eq_true rfl
  | j + 1, h => by
    have hd := okj_lt (j + 1) h j (by omega)
    rw [okj, Bool.and_eq_true] at h
    exact bt_lt _ (sj_lt hn j h.1) _ (by omega)
theorem up_bd {c k x : Nat} {f : Nat → Nat} (h : bd c f) (hx : x < c) : bd c (va_up f k x) := fun i => by
  unfold va_up
  split
  · exact hx
  · exact h i
section Rd
variable (sta : mj_S) (d : Nat) (tr : Int32) (sl : Bool) (a b : Nat) (D : Nat → Nat) (r : Nat → Nat)
theorem s_readRow0 (x : Int32) (hx : x < 0) : mj_Sx sta (d + 1) 82 [.ref 0, .int x] [] (fun v w => v = some (.int (bl false)) ∧ w = []) := by
  refine mj_Sx.mk m_X8_readRow (by decide) n_X8_readRow rfl (fun h0 hv => ?_)
  generalize hT : mj_rx m_X8_readRow h0 _ _ = T
  repeat (first | refine g_px rfl rfl rfl ?_)
  refine g_if rfl (fun cq => absurd cq (Int32.not_le.mpr hx)) (fun cq => ?_)
  repeat (first | refine g_px rfl rfl rfl ?_)
  subst hT
  exact g_iret hv rfl rfl rfl rfl ⟨rfl, rfl⟩
theorem s_readRow (k : Nat) (hk : k < 2 ^ 31) (hn : D 1 ≤ 6) (hr : bd 6 r) : mj_Sx sta (d + 1) 82 [.ref 0, (.int (nI k))] [wob tr true a b sl, dhd a D, (129, an r)] (fun v w => v = some (.int (bl (okr (D 1) k))) ∧ ∃ r', bd 6 r' ∧ (okr (D 1) k = true → ∀ i, i < D 1 → r' i = rwo (D 1) k i) ∧ w = [wob tr true a b sl, dhd a D, (129, an r')]) := by
  refine mj_Sx.mk m_X8_readRow (by decide) n_X8_readRow rfl (fun h0 hv => ?_)
  generalize hT : mj_rx m_X8_readRow h0 _ _ = T
  have loop : ∀ p j h r o, j + p = D 1 → okj (D 1) k j = true → bd 6 r → (∀ i, p ≤ i → i < D 1 → r i = rwo (D 1) k i) → mj_Vw h0 [wob tr true a b sl, dhd a D, (129, an r)] h → mj_go sta (mj_Cl sta d) m_X8_readRow T 21 [some (.ref 0), some (.int (nI k)), some (.int (nI (k / 10 ^ j))), some (.int (nI (sj k j))), some (.int (nI p + Int32.ofInt (-1))), o] [] h := by
    intro p
    induction p with
    | zero =>
      intro j h r o hj hok hr hro hv
      have hj : j = D 1 := by omega
      subst hj
      have hq : k / 10 ^ D 1 < 2 ^ 31 := Nat.lt_of_le_of_lt (Nat.div_le_self _ _) hk
      repeat (first | refine g_px rfl rfl rfl ?_)
      refine g_if rfl (fun cq => ?_) (fun cq => absurd (show nI 0 + Int32.ofInt (-1) < 0 by decide) cq)
      repeat (first | refine g_px rfl rfl rfl ?_)
      refine g_if rfl (fun cq => ?_) (fun cq => ?_)
      · simp (disch := omega) only [mj_cp, k_6, k_7, k_8, k_9, k_10, k_12, k_15, k_16, k_18, k_20, k_24, k_25, k_26, k_27, k_28, k_32, k_36, k_48, k_57, k_59, k_63, k_74, k_75, k_84, k_90, k_97, k_99, k_100, k_122, k_200, k_255, k_420, k_448, k_720, k_800, k_999, k_bit, k_shl, fa_and, nI_add, bl_1, bl_0, bl_n1, bl_n0, bl_i1, nI_lt0, nI_0le, nI_eq0, nI_eqT, nI_leI, nI_ltI, nI_eq, Nat.not_le, Nat.not_lt, Bool.not_eq_true, Bool.not_eq_false, not_true_eq_false, not_false_eq_true, Decidable.not_not] at cq
        have e : okr (D 1) k = false := by rw [okr, hok, decide_eq_false cq]; rfl
        repeat (first | refine g_px rfl rfl rfl ?_)
        subst hT
        exact g_iret hv rfl rfl rfl rfl ⟨by rw [e]; rfl, r, hr, (fun z => by rw [e] at z; cases z), rfl⟩
      · simp (disch := omega) only [mj_cp, k_6, k_7, k_8, k_9, k_10, k_12, k_15, k_16, k_18, k_20, k_24, k_25, k_26, k_27, k_28, k_32, k_36, k_48, k_57, k_59, k_63, k_74, k_75, k_84, k_90, k_97, k_99, k_100, k_122, k_200, k_255, k_420, k_448, k_720, k_800, k_999, k_bit, k_shl, fa_and, nI_add, bl_1, bl_0, bl_n1, bl_n0, bl_i1, nI_lt0, nI_0le, nI_eq0, nI_eqT, nI_leI, nI_ltI, nI_eq, Nat.not_le, Nat.not_lt, Bool.not_eq_true, Bool.not_eq_false, not_true_eq_false, not_false_eq_true, Decidable.not_not] at cq
        have e : okr (D 1) k = true := by rw [okr, hok, decide_eq_true cq]; rfl
        repeat (first | refine g_px rfl rfl rfl ?_)
        subst hT
        exact g_iret hv rfl rfl rfl rfl ⟨by rw [e]; rfl, r, hr, fun _ i hi => hro i (Nat.zero_le _) hi, rfl⟩
    | succ p ih =>
      intro j h r o hj hok hr hro hv
      have hq : k / 10 ^ j < 2 ^ 31 := Nat.lt_of_le_of_lt (Nat.div_le_self _ _) hk
      have hsj := sj_lt hn j hok
      have hdj : dj k j < 10 := Nat.mod_lt _ (by decide)
      have e1 : nI (k / 10 ^ j) - nI (k / 10 ^ j) / (Int8.ofInt 10).toInt32 * (Int8.ofInt 10).toInt32 = nI (dj k j) := pk_rem (d := 10) hq (by decide) (by decide)
      have e2 : nI (k / 10 ^ j) / (Int8.ofInt 10).toInt32 = nI (k / 10 ^ (j + 1)) := by
        rw [Nat.pow_succ, ← Nat.div_div_eq_div_mul]
        exact pk_div (d := 10) hq (by decide) (by decide)
      rw [nI_m1 (by omega), Nat.add_sub_cancel]
      repeat (first | refine g_px rfl rfl rfl ?_)
      refine g_if rfl (fun cq => absurd cq (nI_pos (by omega))) (fun cq => ?_)
      refine g_run 4 rfl ?_
      rw [e1]
      refine g_run 4 rfl ?_
      rw [e2]
      have no : (decide (dj k j < D 1) && !(sj k j).testBit (dj k j)) = false → mj_go sta (mj_Cl sta d) m_X8_readRow T 59 [some (.ref 0), some (.int (nI k)), some (.int (nI (k / 10 ^ (j + 1)))), some (.int (nI (sj k j))), some (.int (nI p)), some (.int (nI (dj k j)))] [] h := by
        intro hz
        have e : okr (D 1) k = false := by rw [okr, okj_no hz (D 1) (by omega)]; rfl
        repeat (first | refine g_px rfl rfl rfl ?_)
        subst hT
        exact g_iret hv rfl rfl rfl rfl ⟨by rw [e]; rfl, r, hr, (fun z => by rw [e] at z; cases z), rfl⟩
      repeat (first | refine g_px rfl rfl rfl ?_ | refine g_get hv 0 rfl rfl rfl rfl ?_ | refine g_get hv 1 rfl rfl rfl rfl ?_)
      refine g_ic rfl (fun cq => ?_) (fun cq => ?_)
      · simp (disch := omega) only [mj_cp, k_6, k_7, k_8, k_9, k_10, k_12, k_15, k_16, k_18, k_20, k_24, k_25, k_26, k_27, k_28, k_32, k_36, k_48, k_57, k_59, k_63, k_74, k_75, k_84, k_90, k_97, k_99, k_100, k_122, k_200, k_255, k_420, k_448, k_720, k_800, k_999, k_bit, k_shl, fa_and, nI_add, bl_1, bl_0, bl_n1, bl_n0, bl_i1, nI_lt0, nI_0le, nI_eq0, nI_eqT, nI_leI, nI_ltI, nI_eq, Nat.not_le, Nat.not_lt, Bool.not_eq_true, Bool.not_eq_false, not_true_eq_false, not_false_eq_true, Decidable.not_not] at cq
        exact no (by rw [decide_eq_false (by omega), Bool.false_and])
      · simp (disch := omega) only [mj_cp, k_6, k_7, k_8, k_9, k_10, k_12, k_15, k_16, k_18, k_20, k_24, k_25, k_26, k_27, k_28, k_32, k_36, k_48, k_57, k_59, k_63, k_74, k_75, k_84, k_90, k_97, k_99, k_100, k_122, k_200, k_255, k_420, k_448, k_720, k_800, k_999, k_bit, k_shl, fa_and, nI_add, bl_1, bl_0, bl_n1, bl_n0, bl_i1, nI_lt0, nI_0le, nI_eq0, nI_eqT, nI_leI, nI_ltI, nI_eq, Nat.not_le, Nat.not_lt, Bool.not_eq_true, Bool.not_eq_false, not_true_eq_false, not_false_eq_true, Decidable.not_not] at cq
        have hlt := cq
        repeat (first | refine g_px rfl rfl rfl ?_)
        refine g_ic rfl (fun cq => ?_) (fun cq => ?_)
        · simp (disch := omega) only [mj_cp, k_6, k_7, k_8, k_9, k_10, k_12, k_15, k_16, k_18, k_20, k_24, k_25, k_26, k_27, k_28, k_32, k_36, k_48, k_57, k_59, k_63, k_74, k_75, k_84, k_90, k_97, k_99, k_100, k_122, k_200, k_255, k_420, k_448, k_720, k_800, k_999, k_bit, k_shl, fa_and, nI_add, bl_1, bl_0, bl_n1, bl_n0, bl_i1, nI_lt0, nI_0le, nI_eq0, nI_eqT, nI_leI, nI_ltI, nI_eq, Nat.not_le, Nat.not_lt, Bool.not_eq_true, Bool.not_eq_false, not_true_eq_false, not_false_eq_true, Decidable.not_not] at cq
          have hy : (decide (dj k j < D 1) && !(sj k j).testBit (dj k j)) = true := by rw [decide_eq_true (by omega), cq]; rfl
          refine g_run 5 rfl ?_
          rw [k_shl (show dj k j < 31 by omega), fa_or]
          repeat (first | refine g_px rfl rfl rfl ?_ | refine g_get hv 0 rfl rfl rfl rfl ?_)
          refine g_nst hv 2 (show p < 6 by omega) rfl rfl (fun h hv => ?_)
          refine g_run 2 rfl ?_
          exact ih (j + 1) h (va_up r p (dj k j)) _ (by omega) (by rw [okj, hok, hy]; rfl) (up_bd hr (by omega)) (fun i hi hi2 => by
            unfold va_up
            by_cases e : i = p
            · subst e
              rw [if_pos rfl, rwo, show D 1 - 1 - i = j by omega]
            · rw [if_neg e]
              exact hro i (by omega) hi2) hv
        · simp (disch := omega) only [mj_cp, k_6, k_7, k_8, k_9, k_10, k_12, k_15, k_16, k_18, k_20, k_24, k_25, k_26, k_27, k_28, k_32, k_36, k_48, k_57, k_59, k_63, k_74, k_75, k_84, k_90, k_97, k_99, k_100, k_122, k_200, k_255, k_420, k_448, k_720, k_800, k_999, k_bit, k_shl, fa_and, nI_add, bl_1, bl_0, bl_n1, bl_n0, bl_i1, nI_lt0, nI_0le, nI_eq0, nI_eqT, nI_leI, nI_ltI, nI_eq, Nat.not_le, Nat.not_lt, Bool.not_eq_true, Bool.not_eq_false, not_true_eq_false, not_false_eq_true, Decidable.not_not] at cq
          exact no (by rw [cq]; simp)
  repeat (first | refine g_px rfl rfl rfl ?_)
  refine g_if rfl (fun cq => ?_) (fun cq => absurd (nI_pos' hk) cq)
  refine g_run 5 rfl ?_
  refine g_get hv 0 rfl rfl rfl rfl ?_
  refine g_get hv 1 rfl rfl rfl rfl ?_
  refine g_run 3 rfl ?_
  rw [show nI (D 1) - Int32.ofInt 1 = nI (D 1) + Int32.ofInt (-1) from sub1 _]
  have := loop (D 1) 0 h0 r none (by omega) rfl hr (fun i hi hi2 => by omega) hv
  rw [Nat.pow_zero, Nat.div_one] at this
  exact this
end Rd
section By
variable (sta : mj_S) (d : Nat) (tr : Int32) (sl : Bool) (a b : Nat) (D : Nat → Nat) (DA : Nat → Nat → Nat) (N : Nat → Nat) (NA : Nat → Nat → Nat) (g : Nat → Option Nat) (tb sb cl : Int32) (g2 : Nat → Option Nat) (r : Nat → Nat)
def qS (D : Nat → Nat) (DA : Nat → Nat → Nat) (lw : Nat) (sn C : Nat → Nat) (r : Nat → Nat) : Nat := rS (D 1) (D 0) lw sn (DA 4) (DA 1) (DA 3) C r
/-- rows that agree are played alike -/
theorem q_ag {D : Nat → Nat} {DA : Nat → Nat → Nat} {lw : Nat} {sn C r r' : Nat → Nat} (h : ∀ i, i < D 1 → r i = r' i) (hb : ∀ i, i < D 1 → r i < D 1) : qT D DA lw sn r = qT D DA lw sn r' ∧ qG D DA lw sn C r = qG D DA lw sn C r' ∧ qS D DA lw sn C r = qS D DA lw sn C r' := by
  have hs := row_same (n := D 1) (t := D 0) (lw := lw) (sn := sn) (kin := DA 4) (W := DA 1) (A := DA 3) (C := C) (sn' := sn) (kin' := DA 4) (W' := DA 1) (A' := DA 3) (C' := C) (r := r) (r' := r') (fun m _ => ⟨rfl, rfl, rfl, rfl, rfl⟩) (fun i hi => by
    have hc := rC_le (n := D 1) (t := D 0) (lw := lw) (sn := sn) (kin := DA 4) (r := r)
    exact ⟨h i (by omega), hb i (by omega)⟩)
  exact ⟨hs.2.1.symm, hs.2.2.1.symm, hs.2.2.2.symm⟩
/-- a levy by the lots as they lie -/
theorem s_runQ (hD : okD D DA) (hN : okN N NA g) (hr : bd 6 r) : mj_Sx sta (d + 3) 29 [.ref 127, .ref a, .ref 19, (.int (nI (N 0))), .ref 129] (wrv tr true a b sl D DA N NA g tb sb cl g2 r) (fun v w => v = none ∧ w = wrv tr true a b sl D DA N NA g (nI (qT D DA (N 0) (NA 0) r)) (nI (qS D DA (N 0) (NA 0) (NA 1) r)) (nI (rC (D 1) (D 0) (N 0) (NA 0) (DA 4) r)) (qG D DA (N 0) (NA 0) (NA 1) r) r) := by
  have hD2 := hD
  obtain ⟨d0, d1, d3, d4, d5, d6, d7, d8, d2, a0, a1, a2, a3, a4, a5⟩ := hD2
  obtain ⟨n0, n1, n3, b0, b1, b2, gk⟩ := hN
  refine mj_Sx.post (mj_Sx.fr (w := wrv tr true a b sl D DA N NA g tb sb cl g2 r) [13, 1, 8, 9, 6, 15, 3, 5, 10, 14] (s_run sta d 127 a 19 129 (D 1) (D 0) (N 0) (nI (D 2)) (nI (D 3)) (nI (D 4)) (nI (D 5)) (nI (D 6)) (nI (D 7)) (nI (D 8)) (nI (N 0)) (nI (N 1)) (nI (N 2)) (nI (N 3)) (NA 0) (DA 4) r (DA 1) (DA 3) (NA 1) tb sb cl g2 d1 (by omega) n0 (bd_le a1 (by decide)) (bd_le a3 (by decide)) b0 (bd_le b1 (by decide)) a4 hr) rfl rfl (by decide)) (fun v w' hp hk => ?_)
  obtain ⟨wc', ⟨rfl, rfl⟩, -, rfl⟩ := hp
  exact ⟨rfl, rfl⟩
theorem qT_lt {D : Nat → Nat} {DA : Nat → Nat → Nat} {lw : Nat} {sn r : Nat → Nat} (hr : bd 6 r) : qT D DA lw sn r < 64 := rT_lt hr
theorem qG_ok {D : Nat → Nat} {DA : Nat → Nat → Nat} {lw : Nat} {sn C r : Nat → Nat} (hn : D 1 ≤ 6) : gok (qG D DA lw sn C r) := rns_ok hn _
theorem rwo_bd {n k : Nat} (h : okr n k = true) : ∀ i, i < n → rwo n k i < n := fun i hi => by
  rw [okr, Bool.and_eq_true] at h
  exact okj_lt n h.1 _ (by omega)
theorem s_levyBy0 (x : Int32) : mj_Sx sta (d + 1) 81 [.ref 0, .int x] [wob tr false a b sl] (fun v w => v = some (.int 1) ∧ w = [wob tr false a b sl]) := by
  refine mj_Sx.mk m_X8_levyBy (by decide) n_X8_levyBy rfl (fun h0 hv => ?_)
  generalize hT : mj_rx m_X8_levyBy h0 _ _ = T
  repeat (first | refine g_px rfl rfl rfl ?_ | refine g_get hv 0 rfl rfl rfl rfl ?_)
  refine g_if rfl (fun cq => absurd rfl cq) (fun cq => ?_)
  repeat (first | refine g_px rfl rfl rfl ?_)
  subst hT
  exact g_iret hv rfl rfl rfl rfl ⟨rfl, rfl⟩
/-- is it a row -/
def isr (n : Nat) (x : Int32) : Bool := decide (0 ≤ x) && okr n x.toNatClampNeg
theorem s_levyBy (x : Int32) (hD : okD D DA) (hN : okN N NA g) (hr : bd 6 r) : mj_Sx sta (d + 4) 81 [.ref 0, .int x] (wrv tr true a b sl D DA N NA g tb sb cl g2 r) (fun v w => ∃ r', bd 6 r' ∧ ((isr (D 1) x = false ∧ v = some (.int 2) ∧ w = wrv tr true a b sl D DA N NA g tb sb cl g2 r') ∨ (isr (D 1) x = true ∧ v = some (.int 0) ∧ ∃ cl', w = wrv tr true a b sl D DA N NA g (nI (qT D DA (N 0) (NA 0) (rwo (D 1) x.toNatClampNeg))) (nI (qS D DA (N 0) (NA 0) (NA 1) (rwo (D 1) x.toNatClampNeg))) cl' (qG D DA (N 0) (NA 0) (NA 1) (rwo (D 1) x.toNatClampNeg)) r'))) := by
  refine mj_Sx.mk m_X8_levyBy (by decide) n_X8_levyBy rfl (fun h0 hv => ?_)
  generalize hT : mj_rx m_X8_levyBy h0 _ _ = T
  have d1 := hD.2.1
  repeat (first | refine g_px rfl rfl rfl ?_ | refine g_get hv 0 rfl rfl rfl rfl ?_)
  refine g_if rfl (fun cq => ?_) (fun cq => absurd (show ¬ bl true = 0 by decide) cq)
  repeat (first | refine g_px rfl rfl rfl ?_)
  by_cases hx : x < 0
  · refine g_callV hv [] 0 rfl rfl rfl rfl rfl rfl rfl rfl (by simp) (s_readRow0 sta (d + 2) x hx) (fun v w' h hp hk2 hv => ?_)
    obtain ⟨rfl, rfl⟩ := hp
    refine g_if rfl (fun cq => absurd rfl cq) (fun cq => ?_)
    repeat (first | refine g_px rfl rfl rfl ?_)
    subst hT
    exact g_iret hv rfl rfl rfl rfl ⟨r, hr, Or.inl ⟨by rw [isr, decide_eq_false (Int32.not_le.mpr hx)]; rfl, rfl, rfl⟩⟩
  · obtain ⟨k, hk, rfl⟩ := nI_of hx
    have e : isr (D 1) (nI k) = okr (D 1) k := by rw [isr, nI_clamp hk, decide_eq_true (nI_pos' hk), Bool.true_and]
    rw [e, nI_clamp hk] at hT
    refine g_callV hv [0, 1, 15] 0 rfl rfl rfl rfl rfl rfl rfl rfl (by decide) (s_readRow sta (d + 2) tr sl a b D r k hk d1 hr) (fun v w' h hp hk2 hv => ?_)
    obtain ⟨rfl, r', hr', hro, rfl⟩ := hp
    have hv : mj_Vw h0 (wrv tr true a b sl D DA N NA g tb sb cl g2 r') h := hv
    refine g_if rfl (fun cq => ?_) (fun cq => ?_)
    · simp (disch := omega) only [mj_cp, k_6, k_7, k_8, k_9, k_10, k_12, k_15, k_16, k_18, k_20, k_24, k_25, k_26, k_27, k_28, k_32, k_36, k_48, k_57, k_59, k_63, k_74, k_75, k_84, k_90, k_97, k_99, k_100, k_122, k_200, k_255, k_420, k_448, k_720, k_800, k_999, k_bit, k_shl, fa_and, nI_add, bl_1, bl_0, bl_n1, bl_n0, bl_i1, nI_lt0, nI_0le, nI_eq0, nI_eqT, nI_leI, nI_ltI, nI_eq, Nat.not_le, Nat.not_lt, Bool.not_eq_true, Bool.not_eq_false, not_true_eq_false, not_false_eq_true, Decidable.not_not] at cq
      have hag := q_ag (D := D) (DA := DA) (lw := N 0) (sn := NA 0) (C := NA 1) (r := rwo (D 1) k) (r' := r') (fun i hi => (hro cq i hi).symm) (rwo_bd cq)
      repeat (first | refine g_px rfl rfl rfl ?_ | refine g_get hv 0 rfl rfl rfl rfl ?_ | refine g_get hv 8 rfl rfl rfl rfl ?_)
      refine g_callV hv [0, 1, 2, 3, 4, 5, 6, 7, 8, 9, 10, 11, 12, 13, 14, 15] 13 rfl rfl rfl rfl rfl rfl rfl rfl (by decide) (s_runQ sta d tr sl a b D DA N NA g tb sb cl g2 r' hD hN hr') (fun v w' h hp hk2 hv => ?_)
      obtain ⟨rfl, rfl⟩ := hp
      rw [← hag.1, ← hag.2.1, ← hag.2.2] at hv
      repeat (first | refine g_px rfl rfl rfl ?_)
      subst hT
      exact g_iret hv rfl rfl rfl rfl ⟨r', hr', Or.inr ⟨cq, rfl, _, rfl⟩⟩
    · simp (disch := omega) only [mj_cp, k_6, k_7, k_8, k_9, k_10, k_12, k_15, k_16, k_18, k_20, k_24, k_25, k_26, k_27, k_28, k_32, k_36, k_48, k_57, k_59, k_63, k_74, k_75, k_84, k_90, k_97, k_99, k_100, k_122, k_200, k_255, k_420, k_448, k_720, k_800, k_999, k_bit, k_shl, fa_and, nI_add, bl_1, bl_0, bl_n1, bl_n0, bl_i1, nI_lt0, nI_0le, nI_eq0, nI_eqT, nI_leI, nI_ltI, nI_eq, Nat.not_le, Nat.not_lt, Bool.not_eq_true, Bool.not_eq_false, not_true_eq_false, not_false_eq_true, Decidable.not_not] at cq
      repeat (first | refine g_px rfl rfl rfl ?_)
      subst hT
      exact g_iret hv rfl rfl rfl rfl ⟨r', hr', Or.inl ⟨cq, rfl, rfl⟩⟩
end By
section By2
variable (sta : mj_S) (d : Nat) (tr : Int32) (sl : Bool) (a b : Nat) (D : Nat → Nat) (DA : Nat → Nat → Nat) (N : Nat → Nat) (NA : Nat → Nat → Nat) (g : Nat → Option Nat) (tb sb cl : Int32) (g2 : Nat → Option Nat) (r : Nat → Nat)
theorem s_takenBy (x : Int32) (hD : okD D DA) (hN : okN N NA g) (hr : bd 6 r) : mj_Sx sta (d + 5) 76 [.ref 0, .int x] (wrv tr true a b sl D DA N NA g tb sb cl g2 r) (fun v w => ∃ tb sb cl g2 r', bd 6 r' ∧ ((isr (D 1) x = false ∧ v = some (.int (-1)) ∧ w = wrv 2 true a b sl D DA N NA g tb sb cl g2 r') ∨ (isr (D 1) x = true ∧ v = some (.int (nI (qT D DA (N 0) (NA 0) (rwo (D 1) x.toNatClampNeg)))) ∧ w = wrv 0 true a b sl D DA N NA g tb sb cl g2 r'))) := by
  refine mj_Sx.mk m_X8_takenBy (by decide) n_X8_takenBy rfl (fun h0 hv => ?_)
  generalize hT : mj_rx m_X8_takenBy h0 _ _ = T
  have d1 := hD.2.1
  repeat (first | refine g_px rfl rfl rfl ?_)
  refine g_callV hv [0, 1, 2, 3, 4, 5, 6, 7, 8, 9, 10, 11, 12, 13, 14, 15] 0 rfl rfl rfl rfl rfl rfl rfl rfl (by decide) (s_levyBy sta d tr sl a b D DA N NA g tb sb cl g2 r x hD hN hr) (fun v w' h hp hk2 hv => ?_)
  obtain ⟨r', hr', hp⟩ := hp
  rcases hp with ⟨e, rfl, rfl⟩ | ⟨e, rfl, cl', rfl⟩
  · have hv : mj_Vw h0 (wrv tr true a b sl D DA N NA g tb sb cl g2 r') h := hv
    repeat (first | refine g_px rfl rfl rfl ?_)
    refine g_if rfl (fun cq => ?_) (fun cq => absurd (show ¬ (2 : Int32) = 0 by decide) cq)
    repeat (first | refine g_px rfl rfl rfl ?_)
    refine g_callV hv [0] 0 rfl rfl rfl rfl rfl rfl rfl rfl (by decide) (s_refuse' sta (d + 3) tr true sl a b _) (fun v w' h hp hk2 hv => ?_)
    obtain ⟨rfl, rfl⟩ := hp
    subst hT
    exact g_iret hv rfl rfl rfl rfl ⟨_, _, _, _, r', hr', Or.inl ⟨e, rfl, rfl⟩⟩
  · have hv : mj_Vw h0 (wrv tr true a b sl D DA N NA g (nI (qT D DA (N 0) (NA 0) (rwo (D 1) x.toNatClampNeg))) (nI (qS D DA (N 0) (NA 0) (NA 1) (rwo (D 1) x.toNatClampNeg))) cl' (qG D DA (N 0) (NA 0) (NA 1) (rwo (D 1) x.toNatClampNeg)) r') h := hv
    repeat (first | refine g_px rfl rfl rfl ?_)
    refine g_if rfl (fun cq => absurd rfl cq) (fun cq => ?_)
    repeat (first | refine g_px rfl rfl rfl ?_ | refine g_get hv 0 rfl rfl rfl rfl ?_ | refine g_get hv 13 rfl rfl rfl rfl ?_)
    refine g_callV hv [0] 0 rfl rfl rfl rfl rfl rfl rfl rfl (by decide) (s_answer' sta (d + 3) tr true sl a b _) (fun v w' h hp hk2 hv => ?_)
    obtain ⟨rfl, rfl⟩ := hp
    repeat (first | refine g_px rfl rfl rfl ?_)
    subst hT
    exact g_iret hv rfl rfl rfl rfl ⟨_, _, _, _, r', hr', Or.inr ⟨e, rfl, rfl⟩⟩
theorem s_goesBy (x : Int32) (hD : okD D DA) (hN : okN N NA g) (hr : bd 6 r) : mj_Sx sta (d + 5) 77 [.ref 0, .int x] (wrv tr true a b sl D DA N NA g tb sb cl g2 r) (fun v w => ∃ tb sb cl g2 r', bd 6 r' ∧ ((isr (D 1) x = false ∧ v = some (.int (-1)) ∧ w = wrv 2 true a b sl D DA N NA g tb sb cl g2 r') ∨ (isr (D 1) x = true ∧ v = some (.int (nI (gng (qT D DA (N 0) (NA 0) (rwo (D 1) x.toNatClampNeg)) (qG D DA (N 0) (NA 0) (NA 1) (rwo (D 1) x.toNatClampNeg)) 6))) ∧ w = wrv 0 true a b sl D DA N NA g tb sb cl g2 r'))) := by
  refine mj_Sx.mk m_X8_goesBy (by decide) n_X8_goesBy rfl (fun h0 hv => ?_)
  generalize hT : mj_rx m_X8_goesBy h0 _ _ = T
  have d1 := hD.2.1
  repeat (first | refine g_px rfl rfl rfl ?_)
  refine g_callV hv [0, 1, 2, 3, 4, 5, 6, 7, 8, 9, 10, 11, 12, 13, 14, 15] 0 rfl rfl rfl rfl rfl rfl rfl rfl (by decide) (s_levyBy sta d tr sl a b D DA N NA g tb sb cl g2 r x hD hN hr) (fun v w' h hp hk2 hv => ?_)
  obtain ⟨r', hr', hp⟩ := hp
  rcases hp with ⟨e, rfl, rfl⟩ | ⟨e, rfl, cl', rfl⟩
  · have hv : mj_Vw h0 (wrv tr true a b sl D DA N NA g tb sb cl g2 r') h := hv
    repeat (first | refine g_px rfl rfl rfl ?_)
    refine g_if rfl (fun cq => ?_) (fun cq => absurd (show ¬ (2 : Int32) = 0 by decide) cq)
    repeat (first | refine g_px rfl rfl rfl ?_)
    refine g_callV hv [0] 0 rfl rfl rfl rfl rfl rfl rfl rfl (by decide) (s_refuse' sta (d + 3) tr true sl a b _) (fun v w' h hp hk2 hv => ?_)
    obtain ⟨rfl, rfl⟩ := hp
    subst hT
    exact g_iret hv rfl rfl rfl rfl ⟨_, _, _, _, r', hr', Or.inl ⟨e, rfl, rfl⟩⟩
  · have hv : mj_Vw h0 (wrv tr true a b sl D DA N NA g (nI (qT D DA (N 0) (NA 0) (rwo (D 1) x.toNatClampNeg))) (nI (qS D DA (N 0) (NA 0) (NA 1) (rwo (D 1) x.toNatClampNeg))) cl' (qG D DA (N 0) (NA 0) (NA 1) (rwo (D 1) x.toNatClampNeg)) r') h := hv
    repeat (first | refine g_px rfl rfl rfl ?_)
    refine g_if rfl (fun cq => absurd rfl cq) (fun cq => ?_)
    have hlt : (qT D DA (N 0) (NA 0) (rwo (D 1) x.toNatClampNeg)) < 64 := by
      have hb := rwo_bd (n := D 1) (k := x.toNatClampNeg) (by rw [isr, Bool.and_eq_true] at e; exact e.2)
      have h6 : bd 6 (fun i => if i < D 1 then rwo (D 1) x.toNatClampNeg i else 0) := fun i => by
        by_cases hi : i < D 1
        · have := hb i hi
          simp only [if_pos hi]
          omega
        · simp only [if_neg hi]
          omega
      rw [(q_ag (D := D) (DA := DA) (lw := N 0) (sn := NA 0) (C := NA 1) (r := rwo (D 1) x.toNatClampNeg) (r' := fun i => if i < D 1 then rwo (D 1) x.toNatClampNeg i else 0) (fun i hi => (if_pos hi).symm) hb).1]
      exact qT_lt h6
    repeat (first | refine g_px rfl rfl rfl ?_ | refine g_get hv 0 rfl rfl rfl rfl ?_ | refine g_get hv 13 rfl rfl rfl rfl ?_)
    refine g_callS hv [14] rfl rfl rfl rfl rfl rfl rfl (by decide) (s_goers sta (d + 3) 128 (qT D DA (N 0) (NA 0) (rwo (D 1) x.toNatClampNeg)) (qG D DA (N 0) (NA 0) (NA 1) (rwo (D 1) x.toNatClampNeg)) hlt (fun m q _ hq => qG_ok d1 m q hq)) (fun v w' h hp hk2 hv => ?_)
    obtain ⟨rfl, rfl⟩ := hp
    have hv : mj_Vw h0 (wrv tr true a b sl D DA N NA g (nI (qT D DA (N 0) (NA 0) (rwo (D 1) x.toNatClampNeg))) (nI (qS D DA (N 0) (NA 0) (NA 1) (rwo (D 1) x.toNatClampNeg))) cl' (qG D DA (N 0) (NA 0) (NA 1) (rwo (D 1) x.toNatClampNeg)) r') h := hv
    refine g_callV hv [0] 0 rfl rfl rfl rfl rfl rfl rfl rfl (by decide) (s_answer' sta (d + 3) tr true sl a b _) (fun v w' h hp hk2 hv => ?_)
    obtain ⟨rfl, rfl⟩ := hp
    repeat (first | refine g_px rfl rfl rfl ?_)
    subst hT
    exact g_iret hv rfl rfl rfl rfl ⟨_, _, _, _, r', hr', Or.inr ⟨e, rfl, rfl⟩⟩
theorem s_sendsBy (x : Int32) (m : Nat) (hm : m < D 1) (hD : okD D DA) (hN : okN N NA g) (hr : bd 6 r) : mj_Sx sta (d + 5) 78 [.ref 0, .int x, (.int (nI m))] (wrv tr true a b sl D DA N NA g tb sb cl g2 r) (fun v w => ∃ tb sb cl g2 r', bd 6 r' ∧ ((isr (D 1) x = false ∧ v = some (.int (-1)) ∧ w = wrv 2 true a b sl D DA N NA g tb sb cl g2 r') ∨ (isr (D 1) x = true ∧ v = some (.int (snd ((qG D DA (N 0) (NA 0) (NA 1) (rwo (D 1) x.toNatClampNeg)) m))) ∧ w = wrv 0 true a b sl D DA N NA g tb sb cl g2 r'))) := by
  refine mj_Sx.mk m_X8_sendsBy (by decide) n_X8_sendsBy rfl (fun h0 hv => ?_)
  generalize hT : mj_rx m_X8_sendsBy h0 _ _ = T
  have d1 := hD.2.1
  repeat (first | refine g_px rfl rfl rfl ?_)
  refine g_callV hv [0, 1] 0 rfl rfl rfl rfl rfl rfl rfl rfl (by decide) (s_isMan sta (d + 3) tr true sl a b D (nI m) d1) (fun v w' h hp hk2 hv => ?_)
  obtain ⟨rfl, rfl⟩ := hp
  rw [inR_k hm (by omega)]
  refine g_if rfl (fun cq => absurd cq (show ¬ bl true = 0 by decide)) (fun cq => ?_)
  have hv : mj_Vw h0 (wrv tr true a b sl D DA N NA g tb sb cl g2 r) h := hv
  repeat (first | refine g_px rfl rfl rfl ?_)
  refine g_callV hv [0, 1, 2, 3, 4, 5, 6, 7, 8, 9, 10, 11, 12, 13, 14, 15] 0 rfl rfl rfl rfl rfl rfl rfl rfl (by decide) (s_levyBy sta d tr sl a b D DA N NA g tb sb cl g2 r x hD hN hr) (fun v w' h hp hk2 hv => ?_)
  obtain ⟨r', hr', hp⟩ := hp
  rcases hp with ⟨e, rfl, rfl⟩ | ⟨e, rfl, cl', rfl⟩
  · have hv : mj_Vw h0 (wrv tr true a b sl D DA N NA g tb sb cl g2 r') h := hv
    repeat (first | refine g_px rfl rfl rfl ?_)
    refine g_if rfl (fun cq => ?_) (fun cq => absurd (show ¬ (2 : Int32) = 0 by decide) cq)
    repeat (first | refine g_px rfl rfl rfl ?_)
    refine g_callV hv [0] 0 rfl rfl rfl rfl rfl rfl rfl rfl (by decide) (s_refuse' sta (d + 3) tr true sl a b _) (fun v w' h hp hk2 hv => ?_)
    obtain ⟨rfl, rfl⟩ := hp
    subst hT
    exact g_iret hv rfl rfl rfl rfl ⟨_, _, _, _, r', hr', Or.inl ⟨e, rfl, rfl⟩⟩
  · have hv : mj_Vw h0 (wrv tr true a b sl D DA N NA g (nI (qT D DA (N 0) (NA 0) (rwo (D 1) x.toNatClampNeg))) (nI (qS D DA (N 0) (NA 0) (NA 1) (rwo (D 1) x.toNatClampNeg))) cl' (qG D DA (N 0) (NA 0) (NA 1) (rwo (D 1) x.toNatClampNeg)) r') h := hv
    repeat (first | refine g_px rfl rfl rfl ?_)
    refine g_if rfl (fun cq => absurd rfl cq) (fun cq => ?_)
    repeat (first | refine g_px rfl rfl rfl ?_ | refine g_get hv 0 rfl rfl rfl rfl ?_ | refine g_get hv 13 rfl rfl rfl rfl ?_)
    refine g_s6 hv 14 (by omega) rfl rfl ?_
    refine g_callV hv [0] 0 rfl rfl rfl rfl rfl rfl rfl rfl (by decide) (s_answer' sta (d + 3) tr true sl a b _) (fun v w' h hp hk2 hv => ?_)
    obtain ⟨rfl, rfl⟩ := hp
    repeat (first | refine g_px rfl rfl rfl ?_)
    subst hT
    exact g_iret hv rfl rfl rfl rfl ⟨_, _, _, _, r', hr', Or.inr ⟨e, rfl, rfl⟩⟩
theorem s_lossBy (x : Int32) (m : Nat) (hm : m < D 1) (hD : okD D DA) (hN : okN N NA g) (hr : bd 6 r) : mj_Sx sta (d + 5) 79 [.ref 0, .int x, (.int (nI m))] (wrv tr true a b sl D DA N NA g tb sb cl g2 r) (fun v w => ∃ tb sb cl g2 r', bd 6 r' ∧ ((isr (D 1) x = false ∧ v = some (.int (-1)) ∧ w = wrv 2 true a b sl D DA N NA g tb sb cl g2 r') ∨ (isr (D 1) x = true ∧ v = some (.int (nI (los (qT D DA (N 0) (NA 0) (rwo (D 1) x.toNatClampNeg)) (qG D DA (N 0) (NA 0) (NA 1) (rwo (D 1) x.toNatClampNeg)) (DA 1) (DA 3) m))) ∧ w = wrv 0 true a b sl D DA N NA g tb sb cl g2 r'))) := by
  refine mj_Sx.mk m_X8_lossBy (by decide) n_X8_lossBy rfl (fun h0 hv => ?_)
  generalize hT : mj_rx m_X8_lossBy h0 _ _ = T
  have d1 := hD.2.1
  repeat (first | refine g_px rfl rfl rfl ?_)
  refine g_callV hv [0, 1] 0 rfl rfl rfl rfl rfl rfl rfl rfl (by decide) (s_isMan sta (d + 3) tr true sl a b D (nI m) d1) (fun v w' h hp hk2 hv => ?_)
  obtain ⟨rfl, rfl⟩ := hp
  rw [inR_k hm (by omega)]
  refine g_if rfl (fun cq => absurd cq (show ¬ bl true = 0 by decide)) (fun cq => ?_)
  have hv : mj_Vw h0 (wrv tr true a b sl D DA N NA g tb sb cl g2 r) h := hv
  repeat (first | refine g_px rfl rfl rfl ?_)
  refine g_callV hv [0, 1, 2, 3, 4, 5, 6, 7, 8, 9, 10, 11, 12, 13, 14, 15] 0 rfl rfl rfl rfl rfl rfl rfl rfl (by decide) (s_levyBy sta d tr sl a b D DA N NA g tb sb cl g2 r x hD hN hr) (fun v w' h hp hk2 hv => ?_)
  obtain ⟨r', hr', hp⟩ := hp
  rcases hp with ⟨e, rfl, rfl⟩ | ⟨e, rfl, cl', rfl⟩
  · have hv : mj_Vw h0 (wrv tr true a b sl D DA N NA g tb sb cl g2 r') h := hv
    repeat (first | refine g_px rfl rfl rfl ?_)
    refine g_if rfl (fun cq => ?_) (fun cq => absurd (show ¬ (2 : Int32) = 0 by decide) cq)
    repeat (first | refine g_px rfl rfl rfl ?_)
    refine g_callV hv [0] 0 rfl rfl rfl rfl rfl rfl rfl rfl (by decide) (s_refuse' sta (d + 3) tr true sl a b _) (fun v w' h hp hk2 hv => ?_)
    obtain ⟨rfl, rfl⟩ := hp
    subst hT
    exact g_iret hv rfl rfl rfl rfl ⟨_, _, _, _, r', hr', Or.inl ⟨e, rfl, rfl⟩⟩
  · have hv : mj_Vw h0 (wrv tr true a b sl D DA N NA g (nI (qT D DA (N 0) (NA 0) (rwo (D 1) x.toNatClampNeg))) (nI (qS D DA (N 0) (NA 0) (NA 1) (rwo (D 1) x.toNatClampNeg))) cl' (qG D DA (N 0) (NA 0) (NA 1) (rwo (D 1) x.toNatClampNeg)) r') h := hv
    repeat (first | refine g_px rfl rfl rfl ?_)
    refine g_if rfl (fun cq => absurd rfl cq) (fun cq => ?_)
    have hlt : (qT D DA (N 0) (NA 0) (rwo (D 1) x.toNatClampNeg)) < 64 := by
      have hb := rwo_bd (n := D 1) (k := x.toNatClampNeg) (by rw [isr, Bool.and_eq_true] at e; exact e.2)
      have h6 : bd 6 (fun i => if i < D 1 then rwo (D 1) x.toNatClampNeg i else 0) := fun i => by
        by_cases hi : i < D 1
        · have := hb i hi
          simp only [if_pos hi]
          omega
        · simp only [if_neg hi]
          omega
      rw [(q_ag (D := D) (DA := DA) (lw := N 0) (sn := NA 0) (C := NA 1) (r := rwo (D 1) x.toNatClampNeg) (r' := fun i => if i < D 1 then rwo (D 1) x.toNatClampNeg i else 0) (fun i hi => (if_pos hi).symm) hb).1]
      exact qT_lt h6
    repeat (first | refine g_px rfl rfl rfl ?_ | refine g_get hv 0 rfl rfl rfl rfl ?_)
    refine g_callV hv [13, 14, 1, 3, 5] 13 rfl rfl rfl rfl rfl rfl rfl rfl (by decide) (s_lost sta (d + 3) 127 a m (qT D DA (N 0) (NA 0) (rwo (D 1) x.toNatClampNeg)) (nI (qS D DA (N 0) (NA 0) (NA 1) (rwo (D 1) x.toNatClampNeg))) cl' (nI (D 0)) (nI (D 1)) (nI (D 2)) (nI (D 3)) (nI (D 4)) (nI (D 5)) (nI (D 6)) (nI (D 7)) (nI (D 8)) (qG D DA (N 0) (NA 0) (NA 1) (rwo (D 1) x.toNatClampNeg)) (DA 1) (DA 3) (by omega) hlt (fun q hq => qG_ok d1 m q hq)) (fun v w' h hp hk2 hv => ?_)
    obtain ⟨rfl, rfl⟩ := hp
    have hv : mj_Vw h0 (wrv tr true a b sl D DA N NA g (nI (qT D DA (N 0) (NA 0) (rwo (D 1) x.toNatClampNeg))) (nI (qS D DA (N 0) (NA 0) (NA 1) (rwo (D 1) x.toNatClampNeg))) cl' (qG D DA (N 0) (NA 0) (NA 1) (rwo (D 1) x.toNatClampNeg)) r') h := hv
    refine g_callV hv [0] 0 rfl rfl rfl rfl rfl rfl rfl rfl (by decide) (s_answer' sta (d + 3) tr true sl a b _) (fun v w' h hp hk2 hv => ?_)
    obtain ⟨rfl, rfl⟩ := hp
    repeat (first | refine g_px rfl rfl rfl ?_)
    subst hT
    exact g_iret hv rfl rfl rfl rfl ⟨_, _, _, _, r', hr', Or.inr ⟨e, rfl, rfl⟩⟩
end By2
