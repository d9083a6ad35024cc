/-! LowNumber: drafts by draws -/
theorem g_irem {sta : mj_S} {Cl : mj_R} {M : mj_M} {T : Nat → mj_L → List Value → mj_H → Prop} {pc q len wp : Nat} {lv : mj_L} {r : List Value} {h : mj_H} {raw : Instr} {x y : Int32} (hy : ¬ y = 0) (he : mj_ent (mj_cd M) pc = some (q, .irem, len, raw, wp)) (k : mj_go sta Cl M T (q + len) lv (.int (x - x / y * y) :: r) h) : mj_go sta Cl M T pc lv (.int y :: .int x :: r) h := by
  refine g_nx he ?_ k
  simp only [mj_nx]
  rw [if_neg hy]
def nsd (s : Nat) : Nat := (75 * s + 74) % 65537
def drw : Nat → Nat → (Nat → Nat) → Nat × (Nat → Nat)
  | 0, s, r => (s, r)
  | 1, s, r => (s, r)
  | i + 2, s, r => drw (i + 1) (nsd s) (swp r (nsd s % (i + 2)) (i + 1))
theorem drw_ag {n : Nat} : ∀ i s (r r' : Nat → Nat), i ≤ n → ag n r r' → (drw i s r).1 = (drw i s r').1 ∧ ag n (drw i s r).2 (drw i s r').2
  | 0, s, r, r', _, h => ⟨rfl, h⟩
  | 1, s, r, r', _, h => ⟨rfl, h⟩
  | i + 2, s, r, r', hi, h => by
    rw [drw, drw]
    have := Nat.mod_lt (nsd s) (show 0 < i + 2 by omega)
    exact drw_ag (i + 1) _ _ _ (by omega) (swp_ag (by omega) (by omega) h)
theorem swp_in {n : Nat} {r : Nat → Nat} {i j : Nat} (hi : i < n) (hj : j < n) (h : ∀ x, x < n → r x < n) : ∀ x, x < n → swp r i j x < n := by
  intro x hx
  unfold swp va_up
  split
  · exact h i hi
  · split
    · exact h j hj
    · exact h x hx
theorem drw_in {n : Nat} : ∀ i s (r : Nat → Nat), i ≤ n → (∀ x, x < n → r x < n) → ∀ x, x < n → (drw i s r).2 x < n
  | 0, s, r, _, h => h
  | 1, s, r, _, h => h
  | i + 2, s, r, hi, h => by
    rw [drw]
    have := Nat.mod_lt (nsd s) (show 0 < i + 2 by omega)
    exact drw_in (i + 1) _ _ (by omega) (swp_in (by omega) (by omega) h)
theorem drw_bd : ∀ i s (r : Nat → Nat), bd 6 r → bd 6 (drw i s r).2
  | 0, s, r, h => h
  | 1, s, r, h => h
  | i + 2, s, r, h => by
    rw [drw]
    exact drw_bd (i + 1) _ _ (swp_bd h)
theorem nsd_lt (s : Nat) : nsd s < 65537 := Nat.mod_lt _ (by decide)
theorem drw_s : ∀ i s (r : Nat → Nat), s < 65537 → (drw i s r).1 < 65537
  | 0, s, r, h => h
  | 1, s, r, h => h
  | i + 2, s, r, h => by
    rw [drw]
    exact drw_s (i + 1) _ _ (nsd_lt s)
/-- the row that is drawn, the seed behind it -/
def dR (n s : Nat) : Nat → Nat := (drw n s (fun i => i)).2
def dS (n s : Nat) : Nat := (drw n s (fun i => i)).1
theorem dS_lt {n s : Nat} (h : s < 65537) : dS n s < 65537 := drw_s n s _ h
theorem dR_in {n s : Nat} : ∀ i, i < n → dR n s i < n := drw_in n s _ (Nat.le_refl _) (fun x hx => hx)
theorem inD_k {c : Nat} (hc : 1 ≤ c ∧ c ≤ 90) : inD (nI c) = true := by
  unfold inD
  rw [decide_eq_true (show (1 : Int32) ≤ nI c from nI_le (a := 1) hc.1 (by omega)), decide_eq_true (show nI c ≤ (90 : Int32) from nI_le (b := 90) hc.2 (by omega))]
  rfl
section Draws
variable (sta : mj_S) (d : Nat) (tr : Int32) (sl : Bool) (a b : Nat) (D : Nat → Nat) (DA : Nat → Nat → Nat) (N : Nat → Nat) (NA : Nat → Nat → Nat) (g : Nat → Option Nat)
theorem s_levyByDraws (s : Nat) (hs : s < 65537) (tb sb cl : Int32) (g2 : Nat → Option Nat) (r : Nat → Nat) (hD : okD D DA) (hN : okN N NA g) (hr : bd 6 r) : mj_Sx sta (d + 4) 116 [.ref 0, (.int (nI s))] (wrv tr true a b sl D DA N NA g tb sb cl g2 r) (fun v w => v = some (.int (nI (dS (D 1) s))) ∧ ∃ cl' r', bd 6 r' ∧ (∀ i, i < D 1 → r' i = dR (D 1) s i) ∧ qT D DA (N 0) (NA 0) (dR (D 1) s) < 64 ∧ qS D DA (N 0) (NA 0) (NA 1) (dR (D 1) s) < 64 ∧ w = wrv tr true a b sl D DA N NA g (nI (qT D DA (N 0) (NA 0) (dR (D 1) s))) (nI (qS D DA (N 0) (NA 0) (NA 1) (dR (D 1) s))) cl' (qG D DA (N 0) (NA 0) (NA 1) (dR (D 1) s)) r') := by
  refine mj_Sx.mk m_X8_levyByDraws (by decide) n_X8_levyByDraws rfl (fun h0 hv => ?_)
  generalize hT : mj_rx m_X8_levyByDraws h0 _ _ = T
  have d1 := hD.2.1
  have fin : ∀ i s' h r', i < 2 → bd 6 r' → (∀ i, i < D 1 → r' i = dR (D 1) s i) → s' = dS (D 1) s → mj_Vw h0 (wrv tr true a b sl D DA N NA g tb sb cl g2 r') h → mj_go sta (mj_Cl sta (d + 3)) m_X8_levyByDraws T 24 [some (.ref 0), some (.int (nI s)), some (.int (nI s')), some (.int (nI i))] [] h := by
    intro i s' h r' hi hr' hro hs' hv
    subst hs'
    have hag := q_ag (D := D) (DA := DA) (lw := N 0) (sn := NA 0) (C := NA 1) (r := dR (D 1) s) (r' := r') (fun i hi => (hro i hi).symm) dR_in
    repeat (first | refine g_px rfl rfl rfl ?_)
    refine g_ic rfl (fun cq => ?_) (fun cq => ?_)
    · repeat (first | refine g_px rfl rfl rfl ?_ | refine g_get hv 0 rfl rfl rfl rfl ?_ | refine g_get hv 8 rfl rfl rfl rfl ?_)
      refine g_callV hv [0, 1, 2, 3, 4, 5, 6, 7, 8, 9, 10, 11, 12, 13, 14, 15] 13 rfl rfl rfl rfl rfl rfl rfl rfl (by decide) (s_runQ sta d tr sl a b D DA N NA g tb sb cl g2 r' hD hN hr') (fun v w' h hp hk2 hv => ?_)
      obtain ⟨rfl, rfl⟩ := hp
      rw [← hag.1, ← hag.2.1, ← hag.2.2] at hv
      repeat (first | refine g_px rfl rfl rfl ?_)
      subst hT
      exact g_iret hv rfl rfl rfl rfl ⟨rfl, _, r', hr', hro, by rw [hag.1]; exact qT_lt hr', rns_lt d1 _, rfl⟩
    · have cq : ¬ nI i < nI 2 := cq
      simp (disch := omega) only [mj_cp, k_6, k_7, k_8, k_9, k_10, k_12, k_15, k_16, k_18, k_20, k_24, k_25, k_26, k_27, k_28, k_32, k_36, k_48, k_57, k_59, k_63, k_74, k_75, k_84, k_90, k_97, k_99, k_100, k_122, k_200, k_255, k_420, k_448, k_720, k_800, k_999, k_bit, k_shl, fa_and, nI_add, bl_1, bl_0, bl_n1, bl_n0, bl_i1, nI_lt0, nI_0le, nI_eq0, nI_eqT, nI_leI, nI_ltI, nI_eq, Nat.not_le, Nat.not_lt, Bool.not_eq_true, Bool.not_eq_false, not_true_eq_false, not_false_eq_true, Decidable.not_not] at cq
      omega
  have loop : ∀ i s' h r', i ≤ D 1 → s' < 65537 → bd 6 r' → (∀ x, x < D 1 → (drw i s' r').2 x = dR (D 1) s x) → (drw i s' r').1 = dS (D 1) s → mj_Vw h0 (wrv tr true a b sl D DA N NA g tb sb cl g2 r') h → mj_go sta (mj_Cl sta (d + 3)) m_X8_levyByDraws T 24 [some (.ref 0), some (.int (nI s)), some (.int (nI s')), some (.int (nI i))] [] h := by
    intro i
    induction i with
    | zero => intro s' h r' hi hs' hr' h2 h1 hv; exact fin 0 s' h r' (by omega) hr' h2 h1 hv
    | succ i ih =>
      intro s' h r' hi hs' hr' h2 h1 hv
      cases i with
      | zero => exact fin 1 s' h r' (by omega) hr' h2 h1 hv
      | succ i =>
        rw [drw] at h1
        have h2 : ∀ x, x < D 1 → (drw (i + 1) (nsd s') (swp r' (nsd s' % (i + 2)) (i + 1))).2 x = dR (D 1) s x := h2
        have hsl := nsd_lt s'
        have hml := Nat.mod_lt (nsd s') (show 0 < i + 2 by omega)
        repeat (first | refine g_px rfl rfl rfl ?_)
        refine g_ic rfl (fun cq => ?_) (fun cq => ?_)
        · have cq : nI (i + 1 + 1) < nI 2 := cq
          simp (disch := omega) only [mj_cp, k_6, k_7, k_8, k_9, k_10, k_12, k_15, k_16, k_18, k_20, k_24, k_25, k_26, k_27, k_28, k_32, k_36, k_48, k_57, k_59, k_63, k_74, k_75, k_84, k_90, k_97, k_99, k_100, k_122, k_200, k_255, k_420, k_448, k_720, k_800, k_999, k_bit, k_shl, fa_and, nI_add, bl_1, bl_0, bl_n1, bl_n0, bl_i1, nI_lt0, nI_0le, nI_eq0, nI_eqT, nI_leI, nI_ltI, nI_eq, Nat.not_le, Nat.not_lt, Bool.not_eq_true, Bool.not_eq_false, not_true_eq_false, not_false_eq_true, Decidable.not_not] at cq
          omega
        · refine g_run 7 rfl ?_
          rw [show (Int8.ofInt 75).toInt32 * nI s' + (Int8.ofInt 74).toInt32 - ((Int8.ofInt 75).toInt32 * nI s' + (Int8.ofInt 74).toInt32) / Int32.ofInt 65537 * Int32.ofInt 65537 = nI (nsd s') by
            rw [k_75, k_74, pk_mul, nI_add]
            exact pk_rem (d := 65537) (by omega) (by decide) (by decide)]
          refine g_run 2 rfl ?_
          refine g_get hv 0 rfl rfl rfl rfl ?_
          refine g_run 2 rfl ?_
          refine g_irem (nI_ne0 (by omega) (by omega)) rfl ?_
          rw [pk_rem (by omega) (by omega) (by omega)]
          refine g_run 3 rfl ?_
          rw [show nI (i + 1 + 1) - Int32.ofInt 1 = nI (i + 1) from nI_pred (i + 1)]
          refine g_callS hv [15] rfl rfl rfl rfl rfl rfl rfl (by decide) (s_swap sta (d + 2) 129 (nsd s' % (i + 2)) (i + 1) r' (by omega) (by omega)) (fun v w' h hp2 hk2 hv => ?_)
          obtain ⟨rfl, rfl⟩ := hp2
          have hv : mj_Vw h0 (wrv tr true a b sl D DA N NA g tb sb cl g2 (swp r' (nsd s' % (i + 2)) (i + 1))) h := hv
          refine g_run 2 rfl ?_
          have hnx := ih (nsd s') h _ (by omega) hsl (swp_bd hr') h2 h1 hv
          rw [show nI (i + 1 + 1) + Int32.ofInt (-1) = nI (i + 1) from nI_m1 (by omega)]
          exact hnx
  refine g_run 1 rfl ?_
  refine g_get hv 0 rfl rfl rfl rfl ?_
  refine g_run 1 rfl ?_
  refine g_get hv 0 rfl rfl rfl rfl ?_
  refine g_get hv 1 rfl rfl rfl rfl ?_
  refine g_callS hv [15] rfl rfl rfl rfl rfl rfl rfl (by decide) (s_byNumbers sta (d + 2) 129 (D 1) r d1) (fun v w' h hp2 hk2 hv => ?_)
  obtain ⟨rfl, rfl⟩ := hp2
  have hv : mj_Vw h0 (wrv tr true a b sl D DA N NA g tb sb cl g2 (idn (D 1) r)) h := hv
  refine g_run 3 rfl ?_
  refine g_get hv 0 rfl rfl rfl rfl ?_
  refine g_get hv 1 rfl rfl rfl rfl ?_
  refine g_run 1 rfl ?_
  have hag := drw_ag (n := D 1) (D 1) s (idn (D 1) r) (fun i => i) (Nat.le_refl _) (fun i hi => if_pos hi)
  exact loop (D 1) s h _ (Nat.le_refl _) hs (idn_bd d1 hr) hag.2 hag.1 hv
/-- the seed behind k drafts -/
def dsk (n s : Nat) : Nat → Nat
  | 0 => s
  | k + 1 => dS n (dsk n s k)
theorem dsk_lt {n s : Nat} (h : s < 65537) : ∀ k, dsk n s k < 65537
  | 0 => h
  | k + 1 => dS_lt (dsk_lt h k)
def cdw (D : Nat → Nat) (DA : Nat → Nat → Nat) (lw : Nat) (sn C : Nat → Nat) (m s : Nat) (o : Bool) : Nat → Nat := fb_ct (fun k => (if o then qS D DA lw sn C (dR (D 1) (dsk (D 1) s k)) else qT D DA lw sn (dR (D 1) (dsk (D 1) s k))).testBit m)
theorem s_countDraws (m s c : Nat) (o : Bool) (hm : m < D 1) (hs : s < 65537) (hc : 1 ≤ c ∧ c ≤ 90) (tb sb cl : Int32) (g2 : Nat → Option Nat) (r : Nat → Nat) (hD : okD D DA) (hN : okN N NA g) (hr : bd 6 r) : mj_Sx sta (d + 5) 114 [.ref 0, (.int (nI m)), (.int (nI s)), (.int (nI c)), .int (bl o)] (wrv tr true a b sl D DA N NA g tb sb cl g2 r) (fun v w => v = some (.int (nI (cdw D DA (N 0) (NA 0) (NA 1) m s o c))) ∧ ∃ tb sb cl g2 r', bd 6 r' ∧ w = wrv 0 true a b sl D DA N NA g tb sb cl g2 r') := by
  refine mj_Sx.mk m_X8_countDraws (by decide) n_X8_countDraws rfl (fun h0 hv => ?_)
  generalize hT : mj_rx m_X8_countDraws h0 _ _ = T
  have d1 := hD.2.1
  have loop : ∀ j k h tb sb cl g2 r, k + j = c → bd 6 r → mj_Vw h0 (wrv tr true a b sl D DA N NA g tb sb cl g2 r) h → mj_go sta (mj_Cl sta (d + 4)) m_X8_countDraws T 43 [some (.ref 0), some (.int (nI m)), some (.int (nI s)), some (.int (nI c)), some (.int (bl o)), some (.int (nI (cdw D DA (N 0) (NA 0) (NA 1) m s o k))), some (.int (nI (dsk (D 1) s k))), some (.int (nI k))] [] h := by
    intro j
    induction j with
    | zero =>
      intro k h tb sb cl g2 r hk hr hv
      repeat (first | refine g_px rfl rfl rfl ?_)
      refine g_ic rfl (fun cq => ?_) (fun cq => ?_)
      · have hk : k = c := by omega
        subst hk
        repeat (first | refine g_px rfl rfl rfl ?_)
        refine g_callV hv [0] 0 rfl rfl rfl rfl rfl rfl rfl rfl (by decide) (s_answer' sta (d + 3) tr true sl a b _) (fun v w' h hp hk2 hv => ?_)
        obtain ⟨rfl, rfl⟩ := hp
        subst hT
        exact g_iret hv rfl rfl rfl rfl ⟨rfl, tb, sb, cl, g2, r, hr, rfl⟩
      · simp (disch := omega) only [mj_cp, k_6, k_7, k_8, k_9, k_10, k_12, k_15, k_16, k_18, k_20, k_24, k_25, k_26, k_27, k_28, k_32, k_36, k_48, k_57, k_59, k_63, k_74, k_75, k_84, k_90, k_97, k_99, k_100, k_122, k_200, k_255, k_420, k_448, k_720, k_800, k_999, k_bit, k_shl, fa_and, nI_add, bl_1, bl_0, bl_n1, bl_n0, bl_i1, nI_lt0, nI_0le, nI_eq0, nI_eqT, nI_leI, nI_ltI, nI_eq, Nat.not_le, Nat.not_lt, Bool.not_eq_true, Bool.not_eq_false, not_true_eq_false, not_false_eq_true, Decidable.not_not] at cq
        omega
    | succ j ih =>
      intro k h tb sb cl g2 r hk hr hv
      repeat (first | refine g_px rfl rfl rfl ?_)
      refine g_ic rfl (fun cq => ?_) (fun cq => ?_)
      · simp (disch := omega) only [mj_cp, k_6, k_7, k_8, k_9, k_10, k_12, k_15, k_16, k_18, k_20, k_24, k_25, k_26, k_27, k_28, k_32, k_36, k_48, k_57, k_59, k_63, k_74, k_75, k_84, k_90, k_97, k_99, k_100, k_122, k_200, k_255, k_420, k_448, k_720, k_800, k_999, k_bit, k_shl, fa_and, nI_add, bl_1, bl_0, bl_n1, bl_n0, bl_i1, nI_lt0, nI_0le, nI_eq0, nI_eqT, nI_leI, nI_ltI, nI_eq, Nat.not_le, Nat.not_lt, Bool.not_eq_true, Bool.not_eq_false, not_true_eq_false, not_false_eq_true, Decidable.not_not] at cq
        omega
      · repeat (first | refine g_px rfl rfl rfl ?_)
        refine g_callV hv [0, 1, 2, 3, 4, 5, 6, 7, 8, 9, 10, 11, 12, 13, 14, 15] 0 rfl rfl rfl rfl rfl rfl rfl rfl (by decide) (s_levyByDraws sta d tr sl a b D DA N NA g (dsk (D 1) s k) (dsk_lt hs k) tb sb cl g2 r hD hN hr) (fun v w' h hp hk2 hv => ?_)
        obtain ⟨rfl, cl', r', hr', hro, hT64, hS64, rfl⟩ := hp
        have hnx := ih (k + 1) h _ _ _ _ r' (by omega) hr' hv
        have hst : cdw D DA (N 0) (NA 0) (NA 1) m s o (k + 1) = cdw D DA (N 0) (NA 0) (NA 1) m s o k + (if (if o then qS D DA (N 0) (NA 0) (NA 1) (dR (D 1) (dsk (D 1) s k)) else qT D DA (N 0) (NA 0) (dR (D 1) (dsk (D 1) s k))).testBit m then 1 else 0) := rfl
        rw [nI_succ, hst, show dsk (D 1) s (k + 1) = dS (D 1) (dsk (D 1) s k) from rfl, ← nI_add, ← bl_nI] at hnx
        have hv : mj_Vw h0 (wrv tr true a b sl D DA N NA g (nI (qT D DA (N 0) (NA 0) (dR (D 1) (dsk (D 1) s k)))) (nI (qS D DA (N 0) (NA 0) (NA 1) (dR (D 1) (dsk (D 1) s k)))) cl' (qG D DA (N 0) (NA 0) (NA 1) (dR (D 1) (dsk (D 1) s k))) r') h := hv
        refine g_run 3 rfl ?_
        refine g_if rfl (fun cq => ?_) (fun cq => ?_)
        · simp (disch := omega) only [mj_cp, k_6, k_7, k_8, k_9, k_10, k_12, k_15, k_16, k_18, k_20, k_24, k_25, k_26, k_27, k_28, k_32, k_36, k_48, k_57, k_59, k_63, k_74, k_75, k_84, k_90, k_97, k_99, k_100, k_122, k_200, k_255, k_420, k_448, k_720, k_800, k_999, k_bit, k_shl, fa_and, nI_add, bl_1, bl_0, bl_n1, bl_n0, bl_i1, nI_lt0, nI_0le, nI_eq0, nI_eqT, nI_leI, nI_ltI, nI_eq, Nat.not_le, Nat.not_lt, Bool.not_eq_true, Bool.not_eq_false, not_true_eq_false, not_false_eq_true, Decidable.not_not] at cq
          subst cq
          refine g_run 1 rfl ?_
          refine g_get hv 0 rfl rfl rfl rfl ?_
          refine g_get hv 13 rfl rfl rfl rfl ?_
          refine g_run 4 rfl ?_
          rw [k_bit (by omega) (by omega)]
          refine g_run 4 rfl ?_
          exact hnx
        · simp (disch := omega) only [mj_cp, k_6, k_7, k_8, k_9, k_10, k_12, k_15, k_16, k_18, k_20, k_24, k_25, k_26, k_27, k_28, k_32, k_36, k_48, k_57, k_59, k_63, k_74, k_75, k_84, k_90, k_97, k_99, k_100, k_122, k_200, k_255, k_420, k_448, k_720, k_800, k_999, k_bit, k_shl, fa_and, nI_add, bl_1, bl_0, bl_n1, bl_n0, bl_i1, nI_lt0, nI_0le, nI_eq0, nI_eqT, nI_leI, nI_ltI, nI_eq, Nat.not_le, Nat.not_lt, Bool.not_eq_true, Bool.not_eq_false, not_true_eq_false, not_false_eq_true, Decidable.not_not] at cq
          subst cq
          refine g_run 1 rfl ?_
          refine g_get hv 0 rfl rfl rfl rfl ?_
          refine g_get hv 13 rfl rfl rfl rfl ?_
          refine g_run 5 rfl ?_
          rw [k_bit (by omega) (by omega)]
          refine g_run 4 rfl ?_
          exact hnx
  repeat (first | refine g_px rfl rfl rfl ?_)
  refine g_callV hv [0, 1] 0 rfl rfl rfl rfl rfl rfl rfl rfl (by decide) (s_isMan sta (d + 3) tr true sl a b D (nI m) d1) (fun v w' h hp hk2 hv => ?_)
  obtain ⟨rfl, rfl⟩ := hp
  rw [inR_k hm (by omega)]
  refine g_if rfl (fun cq => ?_) (fun cq => absurd (show ¬ bl true = 0 by decide) cq)
  have hv : mj_Vw h0 (wrv tr true a b sl D DA N NA g tb sb cl g2 r) h := hv
  repeat (first | refine g_px rfl rfl rfl ?_)
  refine g_callS hv [] rfl rfl rfl rfl rfl rfl rfl (by simp) (s_isSeed sta (d + 3) (nI s)) (fun v w' h hp hk2 hv => ?_)
  obtain ⟨rfl, rfl⟩ := hp
  rw [inR_k hs (by decide)]
  refine g_if rfl (fun cq => absurd cq (show ¬ bl true = 0 by decide)) (fun cq => ?_)
  repeat (first | refine g_px rfl rfl rfl ?_)
  refine g_callS hv [] rfl rfl rfl rfl rfl rfl rfl (by simp) (s_isDrafts sta (d + 3) (nI c)) (fun v w' h hp hk2 hv => ?_)
  obtain ⟨rfl, rfl⟩ := hp
  rw [inD_k hc]
  refine g_if rfl (fun cq => ?_) (fun cq => absurd (show ¬ bl true = 0 by decide) cq)
  refine g_run 6 rfl ?_
  exact loop c 0 h tb sb cl g2 r (by omega) hr hv
theorem s_countDraws_2 (m : Nat) (s c z : Int32) (hm : m < D 1) (hn : D 1 ≤ 6) (hno : (inR 65537 s && inD c) = false) : mj_Sx sta (d + 2) 114 [.ref 0, (.int (nI m)), .int s, .int c, .int z] [wob tr true a b sl, dhd a D] (fun v w => v = some (.int (-1)) ∧ w = [wob 2 true a b sl, dhd a D]) := by
  refine mj_Sx.mk m_X8_countDraws (by decide) n_X8_countDraws rfl (fun h0 hv => ?_)
  generalize hT : mj_rx m_X8_countDraws h0 _ _ = T
  have no : ∀ h, mj_Vw h0 [wob tr true a b sl, dhd a D] h → mj_go sta (mj_Cl sta (d + 1)) m_X8_countDraws T 28 [some (.ref 0), some (.int (nI m)), some (.int s), some (.int c), some (.int z), none, none, none] [] h := by
    intro h hv
    repeat (first | refine g_px rfl rfl rfl ?_)
    refine g_callV hv [0] 0 rfl rfl rfl rfl rfl rfl rfl rfl (by simp) (s_refuse' sta d tr true sl a b _) (fun v w' h hp hk2 hv => ?_)
    obtain ⟨rfl, rfl⟩ := hp
    subst hT
    exact g_iret hv rfl rfl rfl rfl ⟨rfl, rfl⟩
  repeat (first | refine g_px rfl rfl rfl ?_)
  refine g_callV hv [0, 1] 0 rfl rfl rfl rfl rfl rfl rfl rfl (by simp) (s_isMan sta d tr true sl a b D (nI m) hn) (fun v w' h hp hk2 hv => ?_)
  obtain ⟨rfl, rfl⟩ := hp
  rw [inR_k hm (by omega)]
  refine g_if rfl (fun cq => ?_) (fun cq => absurd (show ¬ bl true = 0 by decide) cq)
  repeat (first | refine g_px rfl rfl rfl ?_)
  refine g_callS hv [] rfl rfl rfl rfl rfl rfl rfl (by simp) (s_isSeed sta d s) (fun v w' h hp hk2 hv => ?_)
  obtain ⟨rfl, rfl⟩ := hp
  refine g_if rfl (fun cq => ?_) (fun cq => ?_)
  · exact no h hv
  · simp (disch := omega) only [mj_cp, k_6, k_7, k_8, k_9, k_10, k_12, k_15, k_16, k_18, k_20, k_24, k_25, k_26, k_27, k_28, k_32, k_36, k_48, k_57, k_59, k_63, k_74, k_75, k_84, k_90, k_97, k_99, k_100, k_122, k_200, k_255, k_420, k_448, k_720, k_800, k_999, k_bit, k_shl, fa_and, nI_add, bl_1, bl_0, bl_n1, bl_n0, bl_i1, nI_lt0, nI_0le, nI_eq0, nI_eqT, nI_leI, nI_ltI, nI_eq, Nat.not_le, Nat.not_lt, Bool.not_eq_true, Bool.not_eq_false, not_true_eq_false, not_false_eq_true, Decidable.not_not] at cq
    rw [cq, Bool.true_and] at hno
    repeat (first | refine g_px rfl rfl rfl ?_)
    refine g_callS hv [] rfl rfl rfl rfl rfl rfl rfl (by simp) (s_isDrafts sta d c) (fun v w' h hp hk2 hv => ?_)
    obtain ⟨rfl, rfl⟩ := hp
    rw [hno]
    refine g_if rfl (fun cq => absurd rfl cq) (fun cq => ?_)
    exact no h hv
theorem s_drafts {w : mj_W} {P : Option Value → mj_W → Prop} {fs : List Value} (hw : mj_nth w 0 = some (0, .inr (8, fs))) (x y z : Int32) (hnd : mj_pk w (List.range w.length) = w) (hS : mj_Sx sta d 114 [.ref 0, .int x, .int y, .int z, .int 0] w P) (hP : ∀ v w', P v w' → ∃ q, v = some (.int q)) : mj_Sx sta (d + 1) 112 [.ref 0, .int x, .int y, .int z] w P := by
  refine mj_Sx.mk m_X8_drafts (by decide) n_X8_drafts rfl (fun h0 hv => ?_)
  generalize hT : mj_rx m_X8_drafts h0 _ _ = T
  refine g_run 5 rfl ?_
  refine g_callV hv (List.range w.length) 0 rfl rfl rfl hw rfl rfl hnd (by simp) (List.nodup_range) hS (fun v w' h hp hk2 hv => ?_)
  obtain ⟨q, rfl⟩ := hP v w' hp
  subst hT
  have e : mj_pb w (List.range w.length) w' = w' := by
    apply List.ext_getElem?
    intro i
    rw [← mj_nth_eq, ← mj_nth_eq]
    have hl : w'.length = w.length := by
      have := congrArg List.length hk2
      simpa using this
    unfold mj_pb
    rw [mj_pbx_nth, Nat.zero_add]
    by_cases hi : i < w.length
    · have h1 : mj_nth w i = some w[i] := by rw [mj_nth_eq]; exact List.getElem?_eq_getElem hi
      have h2 : mj_nth w' i = some (w'[i]'(by omega)) := by rw [mj_nth_eq]; exact List.getElem?_eq_getElem (by omega)
      rw [h1, h2]
      cases hf : mj_fd (List.range w.length) w' i with
      | none =>
        have := mj_fd_none hf i (by omega)
        rw [mj_nth_eq, List.getElem?_range hi] at this
        exact absurd rfl this
      | some y =>
        obtain ⟨t, t1, t2⟩ := mj_fd_some hf
        have ht : t = i := by
          rw [mj_nth_eq] at t1
          have := List.getElem?_eq_some_iff.mp t1
          obtain ⟨q1, q2⟩ := this
          simpa using q2
        subst ht
        rw [h2] at t2
        simp [t2]
    · have h1 : mj_nth w i = none := by rw [mj_nth_eq]; exact List.getElem?_eq_none (by omega)
      have h2 : mj_nth w' i = none := by rw [mj_nth_eq]; exact List.getElem?_eq_none (by omega)
      rw [h1, h2]
      rfl
  rw [e] at hv
  exact g_iret hv rfl rfl rfl hk2 hp
theorem s_sentIn {w : mj_W} {P : Option Value → mj_W → Prop} {fs : List Value} (hw : mj_nth w 0 = some (0, .inr (8, fs))) (x y z : Int32) (hnd : mj_pk w (List.range w.length) = w) (hS : mj_Sx sta d 114 [.ref 0, .int x, .int y, .int z, .int 1] w P) (hP : ∀ v w', P v w' → ∃ q, v = some (.int q)) (he : ∀ w', mj_ks w' = mj_ks w → mj_pb w (List.range w.length) w' = w') : mj_Sx sta (d + 1) 113 [.ref 0, .int x, .int y, .int z] w P := by
  refine mj_Sx.mk m_X8_sentIn (by decide) n_X8_sentIn rfl (fun h0 hv => ?_)
  generalize hT : mj_rx m_X8_sentIn h0 _ _ = T
  refine g_run 5 rfl ?_
  refine g_callV hv (List.range w.length) 0 rfl rfl rfl hw rfl rfl hnd (by simp) (List.nodup_range) hS (fun v w' h hp hk2 hv => ?_)
  obtain ⟨q, rfl⟩ := hP v w' hp
  subst hT
  rw [he w' hk2] at hv
  exact g_iret hv rfl rfl rfl hk2 hp
def lsI (D : Nat → Nat) (DA : Nat → Nat → Nat) (lw : Nat) (sn C : Nat → Nat) (s : Nat) : Nat → Nat := fb_sm (fun k => fb_sm (fun m => los (qT D DA lw sn (dR (D 1) (dsk (D 1) s k))) (qG D DA lw sn C (dR (D 1) (dsk (D 1) s k))) (DA 1) (DA 3) m) (D 1))
theorem s_lossIn (s c : Nat) (hs : s < 65537) (hc : 1 ≤ c ∧ c ≤ 90) (tb sb cl : Int32) (g2 : Nat → Option Nat) (r : Nat → Nat) (hD : okD D DA) (hN : okN N NA g) (hr : bd 6 r) : mj_Sx sta (d + 5) 115 [.ref 0, (.int (nI s)), (.int (nI c))] (wrv tr true a b sl D DA N NA g tb sb cl g2 r) (fun v w => v = some (.int (nI (lsI D DA (N 0) (NA 0) (NA 1) s c))) ∧ ∃ tb sb cl g2 r', bd 6 r' ∧ w = wrv 0 true a b sl D DA N NA g tb sb cl g2 r') := by
  refine mj_Sx.mk m_X8_lossIn (by decide) n_X8_lossIn rfl (fun h0 hv => ?_)
  generalize hT : mj_rx m_X8_lossIn h0 _ _ = T
  have d1 := hD.2.1
  have loop : ∀ j k h o tb sb cl g2 r, k + j = c → bd 6 r → mj_Vw h0 (wrv tr true a b sl D DA N NA g tb sb cl g2 r) h → mj_go sta (mj_Cl sta (d + 4)) m_X8_lossIn T 41 [some (.ref 0), some (.int (nI s)), some (.int (nI c)), some (.int (nI (lsI D DA (N 0) (NA 0) (NA 1) s k))), some (.int (nI (dsk (D 1) s k))), some (.int (nI k)), o] [] h := by
    intro j
    induction j with
    | zero =>
      intro k h o tb sb cl g2 r hk hr hv
      repeat (first | refine g_px rfl rfl rfl ?_)
      refine g_ic rfl (fun cq => ?_) (fun cq => ?_)
      · have hk : k = c := by omega
        subst hk
        repeat (first | refine g_px rfl rfl rfl ?_)
        refine g_callV hv [0] 0 rfl rfl rfl rfl rfl rfl rfl rfl (by decide) (s_answer' sta (d + 3) tr true sl a b _) (fun v w' h hp hk2 hv => ?_)
        obtain ⟨rfl, rfl⟩ := hp
        subst hT
        exact g_iret hv rfl rfl rfl rfl ⟨rfl, tb, sb, cl, g2, r, hr, rfl⟩
      · simp (disch := omega) only [mj_cp, k_6, k_7, k_8, k_9, k_10, k_12, k_15, k_16, k_18, k_20, k_24, k_25, k_26, k_27, k_28, k_32, k_36, k_48, k_57, k_59, k_63, k_74, k_75, k_84, k_90, k_97, k_99, k_100, k_122, k_200, k_255, k_420, k_448, k_720, k_800, k_999, k_bit, k_shl, fa_and, nI_add, bl_1, bl_0, bl_n1, bl_n0, bl_i1, nI_lt0, nI_0le, nI_eq0, nI_eqT, nI_leI, nI_ltI, nI_eq, Nat.not_le, Nat.not_lt, Bool.not_eq_true, Bool.not_eq_false, not_true_eq_false, not_false_eq_true, Decidable.not_not] at cq
        omega
    | succ j ih =>
      intro k h o tb sb cl g2 r hk hr hv
      repeat (first | refine g_px rfl rfl rfl ?_)
      refine g_ic rfl (fun cq => ?_) (fun cq => ?_)
      · simp (disch := omega) only [mj_cp, k_6, k_7, k_8, k_9, k_10, k_12, k_15, k_16, k_18, k_20, k_24, k_25, k_26, k_27, k_28, k_32, k_36, k_48, k_57, k_59, k_63, k_74, k_75, k_84, k_90, k_97, k_99, k_100, k_122, k_200, k_255, k_420, k_448, k_720, k_800, k_999, k_bit, k_shl, fa_and, nI_add, bl_1, bl_0, bl_n1, bl_n0, bl_i1, nI_lt0, nI_0le, nI_eq0, nI_eqT, nI_leI, nI_ltI, nI_eq, Nat.not_le, Nat.not_lt, Bool.not_eq_true, Bool.not_eq_false, not_true_eq_false, not_false_eq_true, Decidable.not_not] at cq
        omega
      · repeat (first | refine g_px rfl rfl rfl ?_)
        refine g_callV hv [0, 1, 2, 3, 4, 5, 6, 7, 8, 9, 10, 11, 12, 13, 14, 15] 0 rfl rfl rfl rfl rfl rfl rfl rfl (by decide) (s_levyByDraws sta d tr sl a b D DA N NA g (dsk (D 1) s k) (dsk_lt hs k) tb sb cl g2 r hD hN hr) (fun v w' h hp hk2 hv => ?_)
        obtain ⟨rfl, cl', r', hr', hro, hT64, hS64, rfl⟩ := hp
        have hv : mj_Vw h0 (wrv tr true a b sl D DA N NA g (nI (qT D DA (N 0) (NA 0) (dR (D 1) (dsk (D 1) s k)))) (nI (qS D DA (N 0) (NA 0) (NA 1) (dR (D 1) (dsk (D 1) s k)))) cl' (qG D DA (N 0) (NA 0) (NA 1) (dR (D 1) (dsk (D 1) s k))) r') h := hv
        have hgk : gok (qG D DA (N 0) (NA 0) (NA 1) (dR (D 1) (dsk (D 1) s k))) := qG_ok d1
        have hst : lsI D DA (N 0) (NA 0) (NA 1) s (k + 1) = lsI D DA (N 0) (NA 0) (NA 1) s k + fb_sm (fun m => los (qT D DA (N 0) (NA 0) (dR (D 1) (dsk (D 1) s k))) (qG D DA (N 0) (NA 0) (NA 1) (dR (D 1) (dsk (D 1) s k))) (DA 1) (DA 3) m) (D 1) := rfl
        have inner : ∀ j2 m h, m + j2 = D 1 → mj_Vw h0 (wrv tr true a b sl D DA N NA g (nI (qT D DA (N 0) (NA 0) (dR (D 1) (dsk (D 1) s k)))) (nI (qS D DA (N 0) (NA 0) (NA 1) (dR (D 1) (dsk (D 1) s k)))) cl' (qG D DA (N 0) (NA 0) (NA 1) (dR (D 1) (dsk (D 1) s k))) r') h → mj_go sta (mj_Cl sta (d + 4)) m_X8_lossIn T 58 [some (.ref 0), some (.int (nI s)), some (.int (nI c)), some (.int (nI (lsI D DA (N 0) (NA 0) (NA 1) s k + fb_sm (fun m => los (qT D DA (N 0) (NA 0) (dR (D 1) (dsk (D 1) s k))) (qG D DA (N 0) (NA 0) (NA 1) (dR (D 1) (dsk (D 1) s k))) (DA 1) (DA 3) m) m))), some (.int (nI (dsk (D 1) s (k + 1)))), some (.int (nI k)), some (.int (nI m))] [] h := by
          intro j2
          induction j2 with
          | zero =>
            intro m h hm hv
            have hm : m = D 1 := by omega
            subst hm
            repeat (first | refine g_px rfl rfl rfl ?_ | refine g_get hv 0 rfl rfl rfl rfl ?_ | refine g_get hv 1 rfl rfl rfl rfl ?_)
            refine g_ic rfl (fun cq => ?_) (fun cq => ?_)
            · refine g_run 2 rfl ?_
              have hnx := ih (k + 1) h (some (.int (nI (D 1)))) _ _ _ _ r' (by omega) hr' hv
              rw [nI_succ, hst] at hnx
              exact hnx
            · simp (disch := omega) only [mj_cp, k_6, k_7, k_8, k_9, k_10, k_12, k_15, k_16, k_18, k_20, k_24, k_25, k_26, k_27, k_28, k_32, k_36, k_48, k_57, k_59, k_63, k_74, k_75, k_84, k_90, k_97, k_99, k_100, k_122, k_200, k_255, k_420, k_448, k_720, k_800, k_999, k_bit, k_shl, fa_and, nI_add, bl_1, bl_0, bl_n1, bl_n0, bl_i1, nI_lt0, nI_0le, nI_eq0, nI_eqT, nI_leI, nI_ltI, nI_eq, Nat.not_le, Nat.not_lt, Bool.not_eq_true, Bool.not_eq_false, not_true_eq_false, not_false_eq_true, Decidable.not_not] at cq
              omega
          | succ j2 ih2 =>
            intro m h hm hv
            repeat (first | refine g_px rfl rfl rfl ?_ | refine g_get hv 0 rfl rfl rfl rfl ?_ | refine g_get hv 1 rfl rfl rfl rfl ?_)
            refine g_ic rfl (fun cq => ?_) (fun cq => ?_)
            · simp (disch := omega) only [mj_cp, k_6, k_7, k_8, k_9, k_10, k_12, k_15, k_16, k_18, k_20, k_24, k_25, k_26, k_27, k_28, k_32, k_36, k_48, k_57, k_59, k_63, k_74, k_75, k_84, k_90, k_97, k_99, k_100, k_122, k_200, k_255, k_420, k_448, k_720, k_800, k_999, k_bit, k_shl, fa_and, nI_add, bl_1, bl_0, bl_n1, bl_n0, bl_i1, nI_lt0, nI_0le, nI_eq0, nI_eqT, nI_leI, nI_ltI, nI_eq, Nat.not_le, Nat.not_lt, Bool.not_eq_true, Bool.not_eq_false, not_true_eq_false, not_false_eq_true, Decidable.not_not] at cq
              omega
            · repeat (first | refine g_px rfl rfl rfl ?_ | refine g_get hv 0 rfl rfl rfl rfl ?_)
              refine g_callV hv [13, 14, 1, 3, 5] 13 rfl rfl rfl rfl rfl rfl rfl rfl (by decide) (s_lost sta (d + 3) 127 a m (qT D DA (N 0) (NA 0) (dR (D 1) (dsk (D 1) s k))) (nI (qS D DA (N 0) (NA 0) (NA 1) (dR (D 1) (dsk (D 1) s k)))) cl' (nI (D 0)) (nI (D 1)) (nI (D 2)) (nI (D 3)) (nI (D 4)) (nI (D 5)) (nI (D 6)) (nI (D 7)) (nI (D 8)) (qG D DA (N 0) (NA 0) (NA 1) (dR (D 1) (dsk (D 1) s k))) (DA 1) (DA 3) (by omega) hT64 (fun q hq => hgk m q hq)) (fun v w' h hp hk2 hv => ?_)
              obtain ⟨rfl, rfl⟩ := hp
              have hnx := ih2 (m + 1) h (by omega) hv
              rw [nI_succ, fb_sm_succ, ← Nat.add_assoc, ← nI_add] at hnx
              refine g_run 4 rfl ?_
              exact hnx
        refine g_run 3 rfl ?_
        exact inner (D 1) 0 h (by omega) hv
  repeat (first | refine g_px rfl rfl rfl ?_ | refine g_get hv 0 rfl rfl rfl rfl ?_)
  refine g_if rfl (fun cq => ?_) (fun cq => absurd (show ¬ bl true = 0 by decide) cq)
  repeat (first | refine g_px rfl rfl rfl ?_)
  refine g_callS hv [] rfl rfl rfl rfl rfl rfl rfl (by simp) (s_isSeed sta (d + 3) (nI s)) (fun v w' h hp hk2 hv => ?_)
  obtain ⟨rfl, rfl⟩ := hp
  rw [inR_k hs (by decide)]
  refine g_if rfl (fun cq => absurd cq (show ¬ bl true = 0 by decide)) (fun cq => ?_)
  repeat (first | refine g_px rfl rfl rfl ?_)
  refine g_callS hv [] rfl rfl rfl rfl rfl rfl rfl (by simp) (s_isDrafts sta (d + 3) (nI c)) (fun v w' h hp hk2 hv => ?_)
  obtain ⟨rfl, rfl⟩ := hp
  rw [inD_k hc]
  refine g_if rfl (fun cq => ?_) (fun cq => absurd (show ¬ bl true = 0 by decide) cq)
  refine g_run 6 rfl ?_
  exact loop c 0 h none tb sb cl g2 r (by omega) hr hv
theorem s_lossIn_2 (s c : Int32) (hno : (inR 65537 s && inD c) = false) : mj_Sx sta (d + 2) 115 [.ref 0, .int s, .int c] [wob tr true a b sl] (fun v w => v = some (.int (-1)) ∧ w = [wob 2 true a b sl]) := by
  refine mj_Sx.mk m_X8_lossIn (by decide) n_X8_lossIn rfl (fun h0 hv => ?_)
  generalize hT : mj_rx m_X8_lossIn h0 _ _ = T
  have no : ∀ h, mj_Vw h0 [wob tr true a b sl] h → mj_go sta (mj_Cl sta (d + 1)) m_X8_lossIn T 27 [some (.ref 0), some (.int s), some (.int c), none, none, none, none] [] h := by
    intro h hv
    repeat (first | refine g_px rfl rfl rfl ?_)
    refine g_callV hv [0] 0 rfl rfl rfl rfl rfl rfl rfl rfl (by simp) (s_refuse' sta d tr true sl a b _) (fun v w' h hp hk2 hv => ?_)
    obtain ⟨rfl, rfl⟩ := hp
    subst hT
    exact g_iret hv rfl rfl rfl rfl ⟨rfl, rfl⟩
  repeat (first | refine g_px rfl rfl rfl ?_ | refine g_get hv 0 rfl rfl rfl rfl ?_)
  refine g_if rfl (fun cq => ?_) (fun cq => absurd (show ¬ bl true = 0 by decide) cq)
  repeat (first | refine g_px rfl rfl rfl ?_)
  refine g_callS hv [] rfl rfl rfl rfl rfl rfl rfl (by simp) (s_isSeed sta d s) (fun v w' h hp hk2 hv => ?_)
  obtain ⟨rfl, rfl⟩ := hp
  refine g_if rfl (fun cq => ?_) (fun cq => ?_)
  · exact no h hv
  · simp (disch := omega) only [mj_cp, k_6, k_7, k_8, k_9, k_10, k_12, k_15, k_16, k_18, k_20, k_24, k_25, k_26, k_27, k_28, k_32, k_36, k_48, k_57, k_59, k_63, k_74, k_75, k_84, k_90, k_97, k_99, k_100, k_122, k_200, k_255, k_420, k_448, k_720, k_800, k_999, k_bit, k_shl, fa_and, nI_add, bl_1, bl_0, bl_n1, bl_n0, bl_i1, nI_lt0, nI_0le, nI_eq0, nI_eqT, nI_leI, nI_ltI, nI_eq, Nat.not_le, Nat.not_lt, Bool.not_eq_true, Bool.not_eq_false, not_true_eq_false, not_false_eq_true, Decidable.not_not] at cq
    rw [cq, Bool.true_and] at hno
    repeat (first | refine g_px rfl rfl rfl ?_)
    refine g_callS hv [] rfl rfl rfl rfl rfl rfl rfl (by simp) (s_isDrafts sta d c) (fun v w' h hp hk2 hv => ?_)
    obtain ⟨rfl, rfl⟩ := hp
    rw [hno]
    refine g_if rfl (fun cq => absurd rfl cq) (fun cq => ?_)
    exact no h hv
end Draws
