/-! LowNumber: firstTaken, believed, wrong, agents -/
def frs (p : Nat → Bool) : Nat → Nat → Option Nat
  | 0, _ => none
  | j + 1, x => if p x then some x else frs p j (x + 1)
theorem frs_skip {p : Nat → Bool} : ∀ F N x, F ≤ N → (∀ i, i < F → p (x + i) = false) → frs p N x = frs p (N - F) (x + F)
  | 0, N, x, _, _ => rfl
  | F + 1, 0, x, h, _ => by omega
  | F + 1, N + 1, x, h, hp => by
    have h0 := hp 0 (by omega)
    rw [Nat.add_zero] at h0
    rw [frs, h0, if_neg (by decide), frs_skip F N (x + 1) (by omega) (fun i hi => by rw [show x + 1 + i = x + (i + 1) by omega]; exact hp (i + 1) (by omega))]
    rw [show x + 1 + F = x + (F + 1) by omega, show N + 1 - (F + 1) = N - F by omega]
def fT (D : Nat → Nat) (DA : Nat → Nat → Nat) (lw : Nat) (sn : Nat → Nat) (m : Nat) : Option Nat := (frs (fun j => (qT D DA lw sn (lx (D 1) j)).testBit m) (fac (D 1)) 0).map (fun j => rno (lx (D 1) j) (D 1))
section First
variable (sta : mj_S) (d : Nat) (tr : Int32) (sl : Bool) (a b : Nat) (D : Nat → Nat) (DA : Nat → Nat → Nat) (N : Nat → Nat) (NA : Nat → Nat → Nat) (g : Nat → Option Nat)
theorem s_firstTaken (m : Nat) (hm : m < D 1) (tb sb cl : Int32) (g2 : Nat → Option Nat) (r : Nat → Nat) (hD : okD D DA) (h1 : 1 ≤ D 1) (hN : okN N NA g) (hr : bd 6 r) : mj_Sx sta (d + 4) 80 [.ref 0, (.int (nI m))] (wrv tr true a b sl D DA N NA g tb sb cl g2 r) (fun v w => v = some (.int (snd (fT D DA (N 0) (NA 0) m))) ∧ ∃ tb sb cl g2 r', bd 6 r' ∧ w = wrv 0 true a b sl D DA N NA g tb sb cl g2 r') := by
  refine mj_Sx.mk m_X8_firstTaken (by decide) n_X8_firstTaken rfl (fun h0 hv => ?_)
  generalize hT : mj_rx m_X8_firstTaken h0 _ _ = T
  have d1 := hD.2.1
  have hf7 := fac_720 (D 1) d1
  have loop : ∀ f x p h tb sb cl g2 r, x + f = 720 → fac (D 1) ≤ p + f → p < fac (D 1) → bd 6 r → ag (D 1) r (lx (D 1) p) → p % fac (D 1 - rC (D 1) (D 0) (N 0) (NA 0) (DA 4) r) = 0 → fT D DA (N 0) (NA 0) m = (frs (fun j => (qT D DA (N 0) (NA 0) (lx (D 1) j)).testBit m) (fac (D 1) - p) p).map (fun j => rno (lx (D 1) j) (D 1)) → mj_Vw h0 (wrv tr true a b sl D DA N NA g tb sb cl g2 r) h → mj_go sta (mj_Cl sta (d + 3)) m_X8_firstTaken T 30 [some (.ref 0), some (.int (nI m)), some (.int (nI x))] [] h := by
    intro f
    induction f with
    | zero => intro x p h tb sb cl g2 r hx hf hp; omega
    | succ f ih =>
      intro x p h tb sb cl g2 r hx hf hp hr hag hmod he hv
      repeat (first | refine g_px rfl rfl rfl ?_)
      refine g_ic rfl (fun cq => ?_) (fun cq => ?_)
      · simp (disch := omega) only [mj_cp, k_6, k_7, k_8, k_9, k_10, k_12, k_15, k_16, k_18, k_20, k_24, k_25, k_26, k_27, k_28, k_32, k_36, k_48, k_57, k_59, k_63, k_74, k_75, k_84, k_90, k_97, k_99, k_100, k_122, k_200, k_255, k_420, k_448, k_720, k_800, k_999, k_bit, k_shl, fa_and, nI_add, bl_1, bl_0, bl_n1, bl_n0, bl_i1, nI_lt0, nI_0le, nI_eq0, nI_eqT, nI_leI, nI_ltI, nI_eq, Nat.not_le, Nat.not_lt, Bool.not_eq_true, Bool.not_eq_false, not_true_eq_false, not_false_eq_true, Decidable.not_not] at cq
        omega
      · repeat (first | refine g_px rfl rfl rfl ?_ | refine g_get hv 0 rfl rfl rfl rfl ?_ | refine g_get hv 8 rfl rfl rfl rfl ?_)
        refine g_callV hv [0, 1, 2, 3, 4, 5, 6, 7, 8, 9, 10, 11, 12, 13, 14, 15] 13 rfl rfl rfl rfl rfl rfl rfl rfl (by decide) (s_runQ sta d tr sl a b D DA N NA g tb sb cl g2 r hD hN hr) (fun v w' h hp hk2 hv => ?_)
        obtain ⟨rfl, rfl⟩ := hp
        have hlt : qT D DA (N 0) (NA 0) r < 64 := qT_lt hr
        have hst := stp (t := D 0) (lw := N 0) (sn := NA 0) (kin := DA 4) ⟨h1, d1⟩ hag hp hmod
        have hF := fac_pos (D 1 - rC (D 1) (D 0) (N 0) (NA 0) (DA 4) r)
        have hrC := rC_le (n := D 1) (t := D 0) (lw := N 0) (sn := NA 0) (kin := DA 4) (r := r)
        have hroom := room (fac_dvd (show D 1 - rC (D 1) (D 0) (N 0) (NA 0) (DA 4) r ≤ D 1 by omega)) hmod hp hF
        have hbk : ∀ i, i < fac (D 1 - rC (D 1) (D 0) (N 0) (NA 0) (DA 4) r) → qT D DA (N 0) (NA 0) (lx (D 1) (p + i)) = qT D DA (N 0) (NA 0) r := fun i hi => (blk (t := D 0) (lw := N 0) (sn := NA 0) (kin := DA 4) (W := DA 1) (A := DA 3) (C := NA 1) ⟨h1, d1⟩ hag hp hmod hi).2.1
        have hv : mj_Vw h0 (wrv tr true a b sl D DA N NA g _ _ (nI (rC (D 1) (D 0) (N 0) (NA 0) (DA 4) r)) _ r) h := hv
        repeat (first | refine g_px rfl rfl rfl ?_ | refine g_get hv 0 rfl rfl rfl rfl ?_ | refine g_get hv 13 rfl rfl rfl rfl ?_)
        refine g_ic rfl (fun cq => ?_) (fun cq => ?_)
        · simp (disch := omega) only [mj_cp, k_6, k_7, k_8, k_9, k_10, k_12, k_15, k_16, k_18, k_20, k_24, k_25, k_26, k_27, k_28, k_32, k_36, k_48, k_57, k_59, k_63, k_74, k_75, k_84, k_90, k_97, k_99, k_100, k_122, k_200, k_255, k_420, k_448, k_720, k_800, k_999, k_bit, k_shl, fa_and, nI_add, bl_1, bl_0, bl_n1, bl_n0, bl_i1, nI_lt0, nI_0le, nI_eq0, nI_eqT, nI_leI, nI_ltI, nI_eq, Nat.not_le, Nat.not_lt, Bool.not_eq_true, Bool.not_eq_false, not_true_eq_false, not_false_eq_true, Decidable.not_not] at cq
          have hskip := frs_skip (p := fun j => (qT D DA (N 0) (NA 0) (lx (D 1) j)).testBit m) (fac (D 1 - rC (D 1) (D 0) (N 0) (NA 0) (DA 4) r)) (fac (D 1) - p) p (by omega) (fun i hi => by simp only [hbk i hi]; exact cq)
          rw [hskip] at he
          repeat (first | refine g_px rfl rfl rfl ?_ | refine g_get hv 0 rfl rfl rfl rfl ?_ | refine g_get hv 1 rfl rfl rfl rfl ?_ | refine g_get hv 13 rfl rfl rfl rfl ?_)
          refine g_callS hv [15] rfl rfl rfl rfl rfl rfl rfl (by decide) (s_nextRow sta d 129 (D 1) (rC (D 1) (D 0) (N 0) (NA 0) (DA 4) r) r hr ⟨h1, d1⟩ (by omega)) (fun v w' h hp2 hk2 hv => ?_)
          obtain ⟨rfl, rfl⟩ := hp2
          have hv : mj_Vw h0 (wrv tr true a b sl D DA N NA g _ _ (nI (rC (D 1) (D 0) (N 0) (NA 0) (DA 4) r)) _ (nxr (D 1) (rC (D 1) (D 0) (N 0) (NA 0) (DA 4) r) r).1) h := hv
          refine g_if rfl (fun cq => ?_) (fun cq => ?_)
          · simp (disch := omega) only [mj_cp, k_6, k_7, k_8, k_9, k_10, k_12, k_15, k_16, k_18, k_20, k_24, k_25, k_26, k_27, k_28, k_32, k_36, k_48, k_57, k_59, k_63, k_74, k_75, k_84, k_90, k_97, k_99, k_100, k_122, k_200, k_255, k_420, k_448, k_720, k_800, k_999, k_bit, k_shl, fa_and, nI_add, bl_1, bl_0, bl_n1, bl_n0, bl_i1, nI_lt0, nI_0le, nI_eq0, nI_eqT, nI_leI, nI_ltI, nI_eq, Nat.not_le, Nat.not_lt, Bool.not_eq_true, Bool.not_eq_false, not_true_eq_false, not_false_eq_true, Decidable.not_not] at cq
            have hlt2 : p + fac (D 1 - rC (D 1) (D 0) (N 0) (NA 0) (DA 4) r) < fac (D 1) := by
              have := hst.1
              unfold rX at this
              rw [cq] at this
              exact of_decide_eq_true this.symm
            have h3 := hst.2 hlt2
            refine g_run 2 rfl ?_
            have hnx := ih (x + 1) _ h _ _ _ _ _ (by omega) (by omega) hlt2 (nxr_bd hr) h3.1 h3.2 (by rw [he]; congr 2; omega) hv
            rw [nI_succ] at hnx
            exact hnx
          · simp (disch := omega) only [mj_cp, k_6, k_7, k_8, k_9, k_10, k_12, k_15, k_16, k_18, k_20, k_24, k_25, k_26, k_27, k_28, k_32, k_36, k_48, k_57, k_59, k_63, k_74, k_75, k_84, k_90, k_97, k_99, k_100, k_122, k_200, k_255, k_420, k_448, k_720, k_800, k_999, k_bit, k_shl, fa_and, nI_add, bl_1, bl_0, bl_n1, bl_n0, bl_i1, nI_lt0, nI_0le, nI_eq0, nI_eqT, nI_leI, nI_ltI, nI_eq, Nat.not_le, Nat.not_lt, Bool.not_eq_true, Bool.not_eq_false, not_true_eq_false, not_false_eq_true, Decidable.not_not] at cq
            have hge : ¬ p + fac (D 1 - rC (D 1) (D 0) (N 0) (NA 0) (DA 4) r) < fac (D 1) := by
              have := hst.1
              unfold rX at this
              rw [cq] at this
              exact of_decide_eq_false this.symm
            repeat (first | refine g_px rfl rfl rfl ?_)
            refine g_callV hv [0] 0 rfl rfl rfl rfl rfl rfl rfl rfl (by decide) (s_answer' sta (d + 2) tr true sl a b _) (fun v w' h hp hk2 hv => ?_)
            obtain ⟨rfl, rfl⟩ := hp
            subst hT
            refine g_iret hv rfl rfl rfl rfl ⟨?_, _, _, _, _, _, nxr_bd hr, rfl⟩
            rw [he, show fac (D 1) - p - fac (D 1 - rC (D 1) (D 0) (N 0) (NA 0) (DA 4) r) = 0 by omega]
            rfl
        · simp (disch := omega) only [mj_cp, k_6, k_7, k_8, k_9, k_10, k_12, k_15, k_16, k_18, k_20, k_24, k_25, k_26, k_27, k_28, k_32, k_36, k_48, k_57, k_59, k_63, k_74, k_75, k_84, k_90, k_97, k_99, k_100, k_122, k_200, k_255, k_420, k_448, k_720, k_800, k_999, k_bit, k_shl, fa_and, nI_add, bl_1, bl_0, bl_n1, bl_n0, bl_i1, nI_lt0, nI_0le, nI_eq0, nI_eqT, nI_leI, nI_ltI, nI_eq, Nat.not_le, Nat.not_lt, Bool.not_eq_true, Bool.not_eq_false, not_true_eq_false, not_false_eq_true, Decidable.not_not] at cq
          repeat (first | refine g_px rfl rfl rfl ?_ | refine g_get hv 0 rfl rfl rfl rfl ?_ | refine g_get hv 1 rfl rfl rfl rfl ?_)
          refine g_callS hv [15] rfl rfl rfl rfl rfl rfl rfl (by decide) (s_numberOf sta (d + 2) 129 (D 1) r d1) (fun v w' h hp2 hk2 hv => ?_)
          obtain ⟨rfl, rfl⟩ := hp2
          have hv : mj_Vw h0 (wrv tr true a b sl D DA N NA g _ _ (nI (rC (D 1) (D 0) (N 0) (NA 0) (DA 4) r)) _ r) h := hv
          refine g_callV hv [0] 0 rfl rfl rfl rfl rfl rfl rfl rfl (by decide) (s_answer' sta (d + 2) tr true sl a b _) (fun v w' h hp hk2 hv => ?_)
          obtain ⟨rfl, rfl⟩ := hp
          subst hT
          refine g_iret hv rfl rfl rfl rfl ⟨?_, _, _, _, _, r, hr, rfl⟩
          have h0' := hbk 0 hF
          rw [Nat.add_zero] at h0'
          rw [he, show fac (D 1) - p = (fac (D 1) - p - 1) + 1 by omega, frs, h0', if_pos cq, Option.map_some, ← rno_ag hag]
          rfl
  repeat (first | refine g_px rfl rfl rfl ?_)
  refine g_callV hv [0, 1] 0 rfl rfl rfl rfl rfl rfl rfl rfl (by decide) (s_isMan sta (d + 2) tr true sl a b D (nI m) d1) (fun v w' h hp hk2 hv => ?_)
  obtain ⟨rfl, rfl⟩ := hp
  rw [inR_k hm (by omega)]
  refine g_if rfl (fun cq => ?_) (fun cq => absurd (show ¬ bl true = 0 by decide) cq)
  have hv : mj_Vw h0 (wrv tr true a b sl D DA N NA g tb sb cl g2 r) h := hv
  repeat (first | refine g_px rfl rfl rfl ?_ | refine g_get hv 0 rfl rfl rfl rfl ?_ | refine g_get hv 1 rfl rfl rfl rfl ?_)
  refine g_callS hv [15] rfl rfl rfl rfl rfl rfl rfl (by decide) (s_byNumbers sta (d + 2) 129 (D 1) r d1) (fun v w' h hp2 hk2 hv => ?_)
  obtain ⟨rfl, rfl⟩ := hp2
  have hv : mj_Vw h0 (wrv tr true a b sl D DA N NA g tb sb cl g2 (idn (D 1) r)) h := hv
  refine g_run 2 rfl ?_
  exact loop 720 0 0 h tb sb cl g2 _ (by omega) (by omega) (fac_pos _) (idn_bd d1 hr) (fun i hi => by rw [lx0 d1 hi]; exact if_pos hi) (Nat.zero_mod _) rfl hv
theorem s_doctor (lo : Bool) (s : Bool) (hD : okD D DA) (h4 : D 4 = 1) : mj_Sx sta (d + 3) 104 [.ref 0, .int (bl s), .int (bl lo)] [wob tr true a b sl, dhd a D] (fun v w => v = some (.long (lN (pfr (D 7 * (if s then D 5 else 100 - D 5)) (D 7 * (if s then D 5 else 100 - D 5) + (100 - D 7) * (if s then D 6 else 100 - D 6)) lo))) ∧ w = [wob 0 true a b sl, dhd a D]) := by
  refine mj_Sx.mk m_X8_believed (by decide) n_X8_believed rfl (fun h0 hv => ?_)
  generalize hT : mj_rx m_X8_believed h0 _ _ = T
  obtain ⟨d0, d1, d3, d4, d5, d6, d7, d8, d2, a0, a1, a2, a3, a4, a5⟩ := hD
  have m1 : ∀ x y, x ≤ 100 → y ≤ 100 → x * y ≤ 10000 := fun x y hx hy => by
    have := Nat.mul_le_mul hx hy
    omega
  have fin : ∀ P Q, P ≤ 10000 → Q ≤ 10000 → (∀ h, mj_Vw h0 [wob 0 true a b sl, dhd a D] h → ∀ lv, mj_go sta (mj_Cl sta (d + 2)) m_X8_believed T 114 lv [(.long (lN (pfr P (P + Q) lo)))] h) → mj_go sta (mj_Cl sta (d + 2)) m_X8_believed T 100 [some (.ref 0), some (.int (bl s)), some (.int (bl lo)), some (.long (lN P)), none, none, none] [(.int (nI Q)), (.int (nI 1))] h0 → True := fun _ _ _ _ _ _ => trivial
  clear fin
  have tail : ∀ P Q x y lv5, P = D 7 * (if s then D 5 else 100 - D 5) → Q = (100 - D 7) * (if s then D 6 else 100 - D 6) → Q = x * y → P ≤ 10000 → Q ≤ 10000 → mj_go sta (mj_Cl sta (d + 2)) m_X8_believed T 100 [some (.ref 0), some (.int (bl s)), some (.int (bl lo)), some (.long (lN P)), none, lv5, none] [(.int (nI y)), (.int (nI x))] h0 := by
    intro P Q x y lv5 hP hQ hxy hp hq
    refine g_run 1 rfl ?_
    rw [pk_mul, ← hxy]
    refine g_run 2 rfl ?_
    rw [nI_l (by omega)]
    refine g_run 5 rfl ?_
    rw [lN_add]
    refine g_run 1 rfl ?_
    refine g_callV hv [0] 0 rfl rfl rfl rfl rfl rfl rfl rfl (by simp) (s_part sta d P (P + Q) tr true sl lo a b (by omega) (by omega)) (fun v w' h hp hk2 hv => ?_)
    obtain ⟨rfl, rfl⟩ := hp
    subst hT
    exact g_lret hv rfl rfl rfl ⟨by rw [hP, hQ], rfl⟩
  repeat (first | refine g_px rfl rfl rfl ?_ | refine g_get hv 0 rfl rfl rfl rfl ?_)
  refine g_if rfl (fun cq => ?_) (fun cq => absurd (show ¬ bl true = 0 by decide) cq)
  repeat (first | refine g_px rfl rfl rfl ?_ | refine g_get hv 0 rfl rfl rfl rfl ?_ | refine g_get hv 1 rfl rfl rfl rfl ?_)
  refine g_if rfl (fun cq => ?_) (fun cq => absurd (nI_ne0 (n := D 4) (by omega) (by omega)) cq)
  repeat (first | refine g_px rfl rfl rfl ?_ | refine g_get hv 0 rfl rfl rfl rfl ?_ | refine g_get hv 1 rfl rfl rfl rfl ?_)
  refine g_if rfl (fun cq => ?_) (fun cq => ?_)
  · simp (disch := omega) only [mj_cp, k_6, k_7, k_8, k_9, k_10, k_12, k_15, k_16, k_18, k_20, k_24, k_25, k_26, k_27, k_28, k_32, k_36, k_48, k_57, k_59, k_63, k_74, k_75, k_84, k_90, k_97, k_99, k_100, k_122, k_200, k_255, k_420, k_448, k_720, k_800, k_999, k_bit, k_shl, fa_and, nI_add, bl_1, bl_0, bl_n1, bl_n0, bl_i1, nI_lt0, nI_0le, nI_eq0, nI_eqT, nI_leI, nI_ltI, nI_eq, Nat.not_le, Nat.not_lt, Bool.not_eq_true, Bool.not_eq_false, not_true_eq_false, not_false_eq_true, Decidable.not_not] at cq
    subst cq
    refine g_run 2 rfl ?_
    refine g_get hv 0 rfl rfl rfl rfl ?_
    refine g_get hv 1 rfl rfl rfl rfl ?_
    refine g_run 2 rfl ?_
    have hm := m1 (D 7) (100 - D 5) d7 (by omega)
    rw [k_100, pk_sub d5, pk_mul, ]
    refine g_run 1 rfl ?_
    rw [nI_l (by omega)]
    refine g_run 3 rfl ?_
    refine g_get hv 0 rfl rfl rfl rfl ?_
    refine g_get hv 1 rfl rfl rfl rfl ?_
    refine g_run 1 rfl ?_
    rw [k_100, pk_sub d7]
    refine g_run 1 rfl ?_
    refine g_if rfl (fun cq => ?_) (fun cq => absurd rfl cq)
    refine g_run 2 rfl ?_
    refine g_get hv 0 rfl rfl rfl rfl ?_
    refine g_get hv 1 rfl rfl rfl rfl ?_
    refine g_run 1 rfl ?_
    rw [k_100, pk_sub d6]
    exact tail (D 7 * (100 - D 5)) _ (100 - D 7) (100 - D 6) none rfl rfl rfl hm (m1 (100 - D 7) (100 - D 6) (by omega) (by omega))
  · simp (disch := omega) only [mj_cp, k_6, k_7, k_8, k_9, k_10, k_12, k_15, k_16, k_18, k_20, k_24, k_25, k_26, k_27, k_28, k_32, k_36, k_48, k_57, k_59, k_63, k_74, k_75, k_84, k_90, k_97, k_99, k_100, k_122, k_200, k_255, k_420, k_448, k_720, k_800, k_999, k_bit, k_shl, fa_and, nI_add, bl_1, bl_0, bl_n1, bl_n0, bl_i1, nI_lt0, nI_0le, nI_eq0, nI_eqT, nI_leI, nI_ltI, nI_eq, Nat.not_le, Nat.not_lt, Bool.not_eq_true, Bool.not_eq_false, not_true_eq_false, not_false_eq_true, Decidable.not_not] at cq
    subst cq
    refine g_run 1 rfl ?_
    refine g_get hv 0 rfl rfl rfl rfl ?_
    refine g_get hv 1 rfl rfl rfl rfl ?_
    refine g_run 2 rfl ?_
    have hm := m1 (D 7) (D 5) d7 d5
    rw [pk_mul]
    refine g_run 1 rfl ?_
    rw [nI_l (by omega)]
    refine g_run 3 rfl ?_
    refine g_get hv 0 rfl rfl rfl rfl ?_
    refine g_get hv 1 rfl rfl rfl rfl ?_
    refine g_run 1 rfl ?_
    rw [k_100, pk_sub d7]
    refine g_run 1 rfl ?_
    refine g_if rfl (fun cq => absurd cq (show ¬ bl true = 0 by decide)) (fun cq => ?_)
    refine g_run 1 rfl ?_
    refine g_get hv 0 rfl rfl rfl rfl ?_
    refine g_get hv 1 rfl rfl rfl rfl ?_
    refine g_run 1 rfl ?_
    exact tail (D 7 * D 5) _ (100 - D 7) (D 6) none rfl rfl rfl hm (m1 _ _ (by omega) d6)
theorem s_wrong (lo : Bool) (hD : okD D DA) (h4 : D 4 = 1) : mj_Sx sta (d + 3) 105 [.ref 0, .int (bl lo)] [wob tr true a b sl, dhd a D] (fun v w => v = some (.long (lN (pfr (D 7 * (100 - D 5) + (100 - D 7) * D 6) 10000 lo))) ∧ w = [wob 0 true a b sl, dhd a D]) := by
  refine mj_Sx.mk m_X8_wrong (by decide) n_X8_wrong rfl (fun h0 hv => ?_)
  generalize hT : mj_rx m_X8_wrong h0 _ _ = T
  obtain ⟨d0, d1, d3, d4, d5, d6, d7, d8, d2, a0, a1, a2, a3, a4, a5⟩ := hD
  have m1 : ∀ x y, x ≤ 100 → y ≤ 100 → x * y ≤ 10000 := fun x y hx hy => by
    have := Nat.mul_le_mul hx hy
    omega
  repeat (first | refine g_px rfl rfl rfl ?_ | refine g_get hv 0 rfl rfl rfl rfl ?_)
  refine g_if rfl (fun cq => ?_) (fun cq => absurd (show ¬ bl true = 0 by decide) cq)
  repeat (first | refine g_px rfl rfl rfl ?_ | refine g_get hv 0 rfl rfl rfl rfl ?_ | refine g_get hv 1 rfl rfl rfl rfl ?_)
  refine g_if rfl (fun cq => ?_) (fun cq => absurd (nI_ne0 (n := D 4) (by omega) (by omega)) cq)
  refine g_run 1 rfl ?_
  refine g_get hv 0 rfl rfl rfl rfl ?_
  refine g_get hv 1 rfl rfl rfl rfl ?_
  refine g_run 2 rfl ?_
  refine g_get hv 0 rfl rfl rfl rfl ?_
  refine g_get hv 1 rfl rfl rfl rfl ?_
  refine g_run 2 rfl ?_
  have hm := m1 (D 7) (100 - D 5) d7 (by omega)
  have hm2 := m1 (100 - D 7) (D 6) (by omega) d6
  rw [k_100, pk_sub d5, pk_mul]
  refine g_run 1 rfl ?_
  rw [nI_l (by omega)]
  refine g_run 3 rfl ?_
  refine g_get hv 0 rfl rfl rfl rfl ?_
  refine g_get hv 1 rfl rfl rfl rfl ?_
  refine g_run 2 rfl ?_
  refine g_get hv 0 rfl rfl rfl rfl ?_
  refine g_get hv 1 rfl rfl rfl rfl ?_
  refine g_run 1 rfl ?_
  rw [k_100, pk_sub d7, pk_mul]
  refine g_run 1 rfl ?_
  rw [nI_l (by omega)]
  refine g_run 5 rfl ?_
  rw [lN_add]
  refine g_run 2 rfl ?_
  refine g_callV hv [0] 0 rfl rfl rfl rfl rfl rfl rfl rfl (by simp) (s_part sta d (D 7 * (100 - D 5) + (100 - D 7) * D 6) 10000 tr true sl lo a b (by omega) (by decide)) (fun v w' h hp hk2 hv => ?_)
  obtain ⟨rfl, rfl⟩ := hp
  subst hT
  exact g_lret hv rfl rfl rfl ⟨rfl, rfl⟩
theorem s_believed_6 (lo : Bool) (x : Int32) (h4 : D 4 = 0) : mj_Sx sta (d + 2) 104 [.ref 0, .int x, .int (bl lo)] [wob tr true a b sl, dhd a D] (fun v w => v = some (.long (-1 : Int32).toInt64) ∧ w = [wob 6 true a b sl, dhd a D]) := by
  refine mj_Sx.mk m_X8_believed (by decide) n_X8_believed rfl (fun h0 hv => ?_)
  generalize hT : mj_rx m_X8_believed h0 _ _ = T
  repeat (first | refine g_px rfl rfl rfl ?_ | refine g_get hv 0 rfl rfl rfl rfl ?_)
  refine g_if rfl (fun cq => ?_) (fun cq => absurd (show ¬ bl true = 0 by decide) cq)
  repeat (first | refine g_px rfl rfl rfl ?_ | refine g_get hv 0 rfl rfl rfl rfl ?_ | refine g_get hv 1 rfl rfl rfl rfl ?_)
  refine g_if rfl (fun cq => absurd (show nI (D 4) = 0 by rw [h4]; rfl) cq) (fun cq => ?_)
  repeat (first | refine g_px rfl rfl rfl ?_)
  refine g_callV hv [0] 0 rfl rfl rfl rfl rfl rfl rfl rfl (by simp) (s_refuse' sta d tr true sl a b _) (fun v w' h hp hk2 hv => ?_)
  obtain ⟨rfl, rfl⟩ := hp
  repeat (first | refine g_px rfl rfl rfl ?_)
  subst hT
  exact g_lret hv rfl rfl rfl ⟨rfl, rfl⟩
theorem s_wrong_6 (lo : Bool) (h4 : D 4 = 0) : mj_Sx sta (d + 2) 105 [.ref 0, .int (bl lo)] [wob tr true a b sl, dhd a D] (fun v w => v = some (.long (-1 : Int32).toInt64) ∧ w = [wob 6 true a b sl, dhd a D]) := by
  refine mj_Sx.mk m_X8_wrong (by decide) n_X8_wrong rfl (fun h0 hv => ?_)
  generalize hT : mj_rx m_X8_wrong h0 _ _ = T
  repeat (first | refine g_px rfl rfl rfl ?_ | refine g_get hv 0 rfl rfl rfl rfl ?_)
  refine g_if rfl (fun cq => ?_) (fun cq => absurd (show ¬ bl true = 0 by decide) cq)
  repeat (first | refine g_px rfl rfl rfl ?_ | refine g_get hv 0 rfl rfl rfl rfl ?_ | refine g_get hv 1 rfl rfl rfl rfl ?_)
  refine g_if rfl (fun cq => absurd (show nI (D 4) = 0 by rw [h4]; rfl) cq) (fun cq => ?_)
  repeat (first | refine g_px rfl rfl rfl ?_)
  refine g_callV hv [0] 0 rfl rfl rfl rfl rfl rfl rfl rfl (by simp) (s_refuse' sta d tr true sl a b _) (fun v w' h hp hk2 hv => ?_)
  obtain ⟨rfl, rfl⟩ := hp
  repeat (first | refine g_px rfl rfl rfl ?_)
  subst hT
  exact g_lret hv rfl rfl rfl ⟨rfl, rfl⟩
theorem s_agent_u (x y z u : Int32) : mj_Sx sta (d + 2) 106 [.ref 0, .int x, .int y, .int z, .int u] [wob tr false a b sl] (fun v w => v = some (.int (-100)) ∧ w = [wob 1 false a b sl]) := by
  refine mj_Sx.mk m_X8_agent (by decide) n_X8_agent rfl (fun h0 hv => ?_)
  generalize hT : mj_rx m_X8_agent h0 _ _ = T
  repeat (first | refine g_px rfl rfl rfl ?_ | refine g_get hv 0 rfl rfl rfl rfl ?_)
  refine g_if rfl (fun cq => absurd rfl cq) (fun cq => ?_)
  repeat (first | refine g_px rfl rfl rfl ?_)
  refine g_callV hv [0] 0 rfl rfl rfl rfl rfl rfl rfl rfl (by simp) (s_refuse' sta d tr false sl a b _) (fun v w' h hp hk2 hv => ?_)
  obtain ⟨rfl, rfl⟩ := hp
  repeat (first | refine g_px rfl rfl rfl ?_)
  subst hT
  exact g_iret hv rfl rfl rfl rfl ⟨rfl, rfl⟩
theorem s_agent_2 (x y z u : Int32) (hno : (inR 100 x && (inR 10 y && inR 10 z)) = false) : mj_Sx sta (d + 2) 106 [.ref 0, .int x, .int y, .int z, .int u] [wob tr true a b sl] (fun v w => v = some (.int (-100)) ∧ w = [wob 2 true a b sl]) := by
  refine mj_Sx.mk m_X8_agent (by decide) n_X8_agent rfl (fun h0 hv => ?_)
  generalize hT : mj_rx m_X8_agent h0 _ _ = T
  have no : ∀ h, mj_Vw h0 [wob tr true a b sl] h → mj_go sta (mj_Cl sta (d + 1)) m_X8_agent T 43 [some (.ref 0), some (.int x), some (.int y), some (.int z), some (.int u)] [] h := by
    intro h hv
    repeat (first | refine g_px rfl rfl rfl ?_)
    refine g_callV hv [0] 0 rfl rfl rfl rfl rfl rfl rfl rfl (by simp) (s_refuse' sta d tr true sl a b _) (fun v w' h hp hk2 hv => ?_)
    obtain ⟨rfl, rfl⟩ := hp
    repeat (first | refine g_px rfl rfl rfl ?_)
    subst hT
    exact g_iret hv rfl rfl rfl rfl ⟨rfl, rfl⟩
  repeat (first | refine g_px rfl rfl rfl ?_ | refine g_get hv 0 rfl rfl rfl rfl ?_)
  refine g_if rfl (fun cq => ?_) (fun cq => absurd (show ¬ bl true = 0 by decide) cq)
  repeat (first | refine g_px rfl rfl rfl ?_)
  refine g_callS hv [] rfl rfl rfl rfl rfl rfl rfl (by simp) (s_isBuyers sta d x) (fun v w' h hp hk2 hv => ?_)
  obtain ⟨rfl, rfl⟩ := hp
  refine g_if rfl (fun cq => ?_) (fun cq => ?_)
  · exact no h hv
  · simp (disch := omega) only [mj_cp, k_6, k_7, k_8, k_9, k_10, k_12, k_15, k_16, k_18, k_20, k_24, k_25, k_26, k_27, k_28, k_32, k_36, k_48, k_57, k_59, k_63, k_74, k_75, k_84, k_90, k_97, k_99, k_100, k_122, k_200, k_255, k_420, k_448, k_720, k_800, k_999, k_bit, k_shl, fa_and, nI_add, bl_1, bl_0, bl_n1, bl_n0, bl_i1, nI_lt0, nI_0le, nI_eq0, nI_eqT, nI_leI, nI_ltI, nI_eq, Nat.not_le, Nat.not_lt, Bool.not_eq_true, Bool.not_eq_false, not_true_eq_false, not_false_eq_true, Decidable.not_not] at cq
    rw [cq, Bool.true_and] at hno
    repeat (first | refine g_px rfl rfl rfl ?_)
    refine g_if rfl (fun cq => ?_) (fun cq => ?_)
    · exact no h hv
    · obtain ⟨k, hk, rfl⟩ := nI_of cq
      repeat (first | refine g_px rfl rfl rfl ?_)
      refine g_ic rfl (fun cq => ?_) (fun cq => ?_)
      · exact no h hv
      · simp (disch := omega) only [mj_cp, k_6, k_7, k_8, k_9, k_10, k_12, k_15, k_16, k_18, k_20, k_24, k_25, k_26, k_27, k_28, k_32, k_36, k_48, k_57, k_59, k_63, k_74, k_75, k_84, k_90, k_97, k_99, k_100, k_122, k_200, k_255, k_420, k_448, k_720, k_800, k_999, k_bit, k_shl, fa_and, nI_add, bl_1, bl_0, bl_n1, bl_n0, bl_i1, nI_lt0, nI_0le, nI_eq0, nI_eqT, nI_leI, nI_ltI, nI_eq, Nat.not_le, Nat.not_lt, Bool.not_eq_true, Bool.not_eq_false, not_true_eq_false, not_false_eq_true, Decidable.not_not] at cq
        rw [inR_k (by omega) (by decide), Bool.true_and] at hno
        repeat (first | refine g_px rfl rfl rfl ?_)
        refine g_if rfl (fun cq => ?_) (fun cq => ?_)
        · exact no h hv
        · obtain ⟨q, hq, rfl⟩ := nI_of cq
          repeat (first | refine g_px rfl rfl rfl ?_)
          refine g_ic rfl (fun cq => ?_) (fun cq => ?_)
          · simp (disch := omega) only [mj_cp, k_6, k_7, k_8, k_9, k_10, k_12, k_15, k_16, k_18, k_20, k_24, k_25, k_26, k_27, k_28, k_32, k_36, k_48, k_57, k_59, k_63, k_74, k_75, k_84, k_90, k_97, k_99, k_100, k_122, k_200, k_255, k_420, k_448, k_720, k_800, k_999, k_bit, k_shl, fa_and, nI_add, bl_1, bl_0, bl_n1, bl_n0, bl_i1, nI_lt0, nI_0le, nI_eq0, nI_eqT, nI_leI, nI_ltI, nI_eq, Nat.not_le, Nat.not_lt, Bool.not_eq_true, Bool.not_eq_false, not_true_eq_false, not_false_eq_true, Decidable.not_not] at cq
            rw [inR_k (by omega) (by decide)] at hno
            cases hno
          · exact no h hv
theorem s_agent (x y z : Nat) (o : Bool) (hx : x < 100) (hy : y < 10) (hz : z < 10) : mj_Sx sta (d + 3) 106 [.ref 0, (.int (nI x)), (.int (nI y)), (.int (nI z)), .int (bl o)] [wob tr true a b sl] (fun v w => v = some (.int (if o then gn x z y else gn x y z)) ∧ w = [wob 0 true a b sl]) := by
  refine mj_Sx.mk m_X8_agent (by decide) n_X8_agent rfl (fun h0 hv => ?_)
  generalize hT : mj_rx m_X8_agent h0 _ _ = T
  repeat (first | refine g_px rfl rfl rfl ?_ | refine g_get hv 0 rfl rfl rfl rfl ?_)
  refine g_if rfl (fun cq => ?_) (fun cq => absurd (show ¬ bl true = 0 by decide) cq)
  repeat (first | refine g_px rfl rfl rfl ?_)
  refine g_callS hv [] rfl rfl rfl rfl rfl rfl rfl (by simp) (s_isBuyers sta (d + 1) (nI x)) (fun v w' h hp hk2 hv => ?_)
  obtain ⟨rfl, rfl⟩ := hp
  rw [inR_k hx (by decide)]
  refine g_if rfl (fun cq => absurd cq (show ¬ bl true = 0 by decide)) (fun cq => ?_)
  repeat (first | refine g_px rfl rfl rfl ?_)
  refine g_if rfl (fun cq => absurd cq (nI_pos (by omega))) (fun cq => ?_)
  repeat (first | refine g_px rfl rfl rfl ?_)
  refine g_ic rfl (fun cq => ?_) (fun cq => ?_)
  · simp (disch := omega) only [mj_cp, k_6, k_7, k_8, k_9, k_10, k_12, k_15, k_16, k_18, k_20, k_24, k_25, k_26, k_27, k_28, k_32, k_36, k_48, k_57, k_59, k_63, k_74, k_75, k_84, k_90, k_97, k_99, k_100, k_122, k_200, k_255, k_420, k_448, k_720, k_800, k_999, k_bit, k_shl, fa_and, nI_add, bl_1, bl_0, bl_n1, bl_n0, bl_i1, nI_lt0, nI_0le, nI_eq0, nI_eqT, nI_leI, nI_ltI, nI_eq, Nat.not_le, Nat.not_lt, Bool.not_eq_true, Bool.not_eq_false, not_true_eq_false, not_false_eq_true, Decidable.not_not] at cq
    omega
  · repeat (first | refine g_px rfl rfl rfl ?_)
    refine g_if rfl (fun cq => absurd cq (nI_pos (by omega))) (fun cq => ?_)
    repeat (first | refine g_px rfl rfl rfl ?_)
    refine g_ic rfl (fun cq => ?_) (fun cq => ?_)
    · repeat (first | refine g_px rfl rfl rfl ?_)
      refine g_if rfl (fun cq => ?_) (fun cq => ?_)
      · simp (disch := omega) only [mj_cp, k_6, k_7, k_8, k_9, k_10, k_12, k_15, k_16, k_18, k_20, k_24, k_25, k_26, k_27, k_28, k_32, k_36, k_48, k_57, k_59, k_63, k_74, k_75, k_84, k_90, k_97, k_99, k_100, k_122, k_200, k_255, k_420, k_448, k_720, k_800, k_999, k_bit, k_shl, fa_and, nI_add, bl_1, bl_0, bl_n1, bl_n0, bl_i1, nI_lt0, nI_0le, nI_eq0, nI_eqT, nI_leI, nI_ltI, nI_eq, Nat.not_le, Nat.not_lt, Bool.not_eq_true, Bool.not_eq_false, not_true_eq_false, not_false_eq_true, Decidable.not_not] at cq
        subst cq
        repeat (first | refine g_px rfl rfl rfl ?_)
        refine g_callS hv [] rfl rfl rfl rfl rfl rfl rfl (by simp) (s_gain sta d x y z hx hy hz) (fun v w' h hp hk2 hv => ?_)
        obtain ⟨rfl, rfl⟩ := hp
        refine g_callV hv [0] 0 rfl rfl rfl rfl rfl rfl rfl rfl (by simp) (s_answer' sta (d + 1) tr true sl a b _) (fun v w' h hp hk2 hv => ?_)
        obtain ⟨rfl, rfl⟩ := hp
        subst hT
        exact g_iret hv rfl rfl rfl rfl ⟨rfl, rfl⟩
      · simp (disch := omega) only [mj_cp, k_6, k_7, k_8, k_9, k_10, k_12, k_15, k_16, k_18, k_20, k_24, k_25, k_26, k_27, k_28, k_32, k_36, k_48, k_57, k_59, k_63, k_74, k_75, k_84, k_90, k_97, k_99, k_100, k_122, k_200, k_255, k_420, k_448, k_720, k_800, k_999, k_bit, k_shl, fa_and, nI_add, bl_1, bl_0, bl_n1, bl_n0, bl_i1, nI_lt0, nI_0le, nI_eq0, nI_eqT, nI_leI, nI_ltI, nI_eq, Nat.not_le, Nat.not_lt, Bool.not_eq_true, Bool.not_eq_false, not_true_eq_false, not_false_eq_true, Decidable.not_not] at cq
        subst cq
        repeat (first | refine g_px rfl rfl rfl ?_)
        refine g_callS hv [] rfl rfl rfl rfl rfl rfl rfl (by simp) (s_gain sta d x z y hx hz hy) (fun v w' h hp hk2 hv => ?_)
        obtain ⟨rfl, rfl⟩ := hp
        refine g_run 1 rfl ?_
        refine g_callV hv [0] 0 rfl rfl rfl rfl rfl rfl rfl rfl (by simp) (s_answer' sta (d + 1) tr true sl a b _) (fun v w' h hp hk2 hv => ?_)
        obtain ⟨rfl, rfl⟩ := hp
        subst hT
        exact g_iret hv rfl rfl rfl rfl ⟨rfl, rfl⟩
    · simp (disch := omega) only [mj_cp, k_6, k_7, k_8, k_9, k_10, k_12, k_15, k_16, k_18, k_20, k_24, k_25, k_26, k_27, k_28, k_32, k_36, k_48, k_57, k_59, k_63, k_74, k_75, k_84, k_90, k_97, k_99, k_100, k_122, k_200, k_255, k_420, k_448, k_720, k_800, k_999, k_bit, k_shl, fa_and, nI_add, bl_1, bl_0, bl_n1, bl_n0, bl_i1, nI_lt0, nI_0le, nI_eq0, nI_eqT, nI_leI, nI_ltI, nI_eq, Nat.not_le, Nat.not_lt, Bool.not_eq_true, Bool.not_eq_false, not_true_eq_false, not_false_eq_true, Decidable.not_not] at cq
      omega
theorem s_rests (x : Nat) (hx : x < 100) : mj_Sx sta (d + 5) 107 [.ref 0, (.int (nI x))] [wob tr true a b sl] (fun v w => v = some (.int (nI (fb_ct (fun p => rst x (p / 10) (p % 10)) 100))) ∧ w = [wob 0 true a b sl]) := by
  refine mj_Sx.mk m_X8_rests (by decide) n_X8_rests rfl (fun h0 hv => ?_)
  generalize hT : mj_rx m_X8_rests h0 _ _ = T
  have loop : ∀ j p h, p + j = 100 → mj_Vw h0 [wob tr true a b sl] h → mj_go sta (mj_Cl sta (d + 4)) m_X8_rests T 30 [some (.ref 0), some (.int (nI x)), some (.int (nI (fb_ct (fun p => rst x (p / 10) (p % 10)) p))), some (.int (nI p))] [] h := by
    intro j
    induction j with
    | zero =>
      intro p h hp hv
      have hp : p = 100 := by omega
      subst hp
      repeat (first | refine g_px rfl rfl rfl ?_)
      refine g_ic rfl (fun cq => ?_) (fun cq => ?_)
      · repeat (first | refine g_px rfl rfl rfl ?_)
        refine g_callV hv [0] 0 rfl rfl rfl rfl rfl rfl rfl rfl (by simp) (s_answer' sta (d + 3) tr true sl a b _) (fun v w' h hp hk2 hv => ?_)
        obtain ⟨rfl, rfl⟩ := hp
        subst hT
        exact g_iret hv rfl rfl rfl rfl ⟨rfl, rfl⟩
      · simp (disch := omega) only [mj_cp, k_6, k_7, k_8, k_9, k_10, k_12, k_15, k_16, k_18, k_20, k_24, k_25, k_26, k_27, k_28, k_32, k_36, k_48, k_57, k_59, k_63, k_74, k_75, k_84, k_90, k_97, k_99, k_100, k_122, k_200, k_255, k_420, k_448, k_720, k_800, k_999, k_bit, k_shl, fa_and, nI_add, bl_1, bl_0, bl_n1, bl_n0, bl_i1, nI_lt0, nI_0le, nI_eq0, nI_eqT, nI_leI, nI_ltI, nI_eq, Nat.not_le, Nat.not_lt, Bool.not_eq_true, Bool.not_eq_false, not_true_eq_false, not_false_eq_true, Decidable.not_not] at cq
        omega
    | succ j ih =>
      intro p h hp hv
      repeat (first | refine g_px rfl rfl rfl ?_)
      refine g_ic rfl (fun cq => ?_) (fun cq => ?_)
      · simp (disch := omega) only [mj_cp, k_6, k_7, k_8, k_9, k_10, k_12, k_15, k_16, k_18, k_20, k_24, k_25, k_26, k_27, k_28, k_32, k_36, k_48, k_57, k_59, k_63, k_74, k_75, k_84, k_90, k_97, k_99, k_100, k_122, k_200, k_255, k_420, k_448, k_720, k_800, k_999, k_bit, k_shl, fa_and, nI_add, bl_1, bl_0, bl_n1, bl_n0, bl_i1, nI_lt0, nI_0le, nI_eq0, nI_eqT, nI_leI, nI_ltI, nI_eq, Nat.not_le, Nat.not_lt, Bool.not_eq_true, Bool.not_eq_false, not_true_eq_false, not_false_eq_true, Decidable.not_not] at cq
        omega
      · refine g_run 4 rfl ?_
        rw [show nI p / (Int8.ofInt 10).toInt32 = nI (p / 10) from pk_div (d := 10) (by omega) (by decide) (by decide)]
        refine g_run 3 rfl ?_
        rw [show nI p - nI p / (Int8.ofInt 10).toInt32 * (Int8.ofInt 10).toInt32 = nI (p % 10) from pk_rem (d := 10) (by omega) (by decide) (by decide)]
        refine g_callS hv [] rfl rfl rfl rfl rfl rfl rfl (by simp) (s_isRest sta d x (p / 10) (p % 10) hx (by omega) (by omega)) (fun v w' h hp2 hk2 hv => ?_)
        obtain ⟨rfl, rfl⟩ := hp2
        have hnx := ih (p + 1) h (by omega) hv
        rw [nI_succ, fb_ct_succ] at hnx
        refine g_if rfl (fun cq => ?_) (fun cq => ?_)
        · simp (disch := omega) only [mj_cp, k_6, k_7, k_8, k_9, k_10, k_12, k_15, k_16, k_18, k_20, k_24, k_25, k_26, k_27, k_28, k_32, k_36, k_48, k_57, k_59, k_63, k_74, k_75, k_84, k_90, k_97, k_99, k_100, k_122, k_200, k_255, k_420, k_448, k_720, k_800, k_999, k_bit, k_shl, fa_and, nI_add, bl_1, bl_0, bl_n1, bl_n0, bl_i1, nI_lt0, nI_0le, nI_eq0, nI_eqT, nI_leI, nI_ltI, nI_eq, Nat.not_le, Nat.not_lt, Bool.not_eq_true, Bool.not_eq_false, not_true_eq_false, not_false_eq_true, Decidable.not_not] at cq
          rw [cq, if_neg (by decide), Nat.add_zero] at hnx
          refine g_run 2 rfl ?_
          exact hnx
        · simp (disch := omega) only [mj_cp, k_6, k_7, k_8, k_9, k_10, k_12, k_15, k_16, k_18, k_20, k_24, k_25, k_26, k_27, k_28, k_32, k_36, k_48, k_57, k_59, k_63, k_74, k_75, k_84, k_90, k_97, k_99, k_100, k_122, k_200, k_255, k_420, k_448, k_720, k_800, k_999, k_bit, k_shl, fa_and, nI_add, bl_1, bl_0, bl_n1, bl_n0, bl_i1, nI_lt0, nI_0le, nI_eq0, nI_eqT, nI_leI, nI_ltI, nI_eq, Nat.not_le, Nat.not_lt, Bool.not_eq_true, Bool.not_eq_false, not_true_eq_false, not_false_eq_true, Decidable.not_not] at cq
          rw [cq, if_pos rfl, nI_succ] at hnx
          refine g_run 3 rfl ?_
          exact hnx
  repeat (first | refine g_px rfl rfl rfl ?_ | refine g_get hv 0 rfl rfl rfl rfl ?_)
  refine g_if rfl (fun cq => ?_) (fun cq => absurd (show ¬ bl true = 0 by decide) cq)
  repeat (first | refine g_px rfl rfl rfl ?_)
  refine g_callS hv [] rfl rfl rfl rfl rfl rfl rfl (by simp) (s_isBuyers sta (d + 3) (nI x)) (fun v w' h hp hk2 hv => ?_)
  obtain ⟨rfl, rfl⟩ := hp
  rw [inR_k hx (by decide)]
  refine g_if rfl (fun cq => ?_) (fun cq => absurd (show ¬ bl true = 0 by decide) cq)
  refine g_run 4 rfl ?_
  exact loop 100 0 h (by omega) hv
theorem s_rest (x : Nat) (hx : x < 100) : mj_Sx sta (d + 5) 108 [.ref 0, (.int (nI x))] [wob tr true a b sl] (fun v w => v = some (.int (snd (frs (fun p => rst x (p / 10) (p % 10)) 100 0))) ∧ w = [wob 0 true a b sl]) := by
  refine mj_Sx.mk m_X8_rest (by decide) n_X8_rest rfl (fun h0 hv => ?_)
  generalize hT : mj_rx m_X8_rest h0 _ _ = T
  generalize hR : frs (fun p => rst x (p / 10) (p % 10)) 100 0 = R at hT
  have loop : ∀ j p h, p + j = 100 → R = frs (fun p => rst x (p / 10) (p % 10)) j p → mj_Vw h0 [wob tr true a b sl] h → mj_go sta (mj_Cl sta (d + 4)) m_X8_rest T 28 [some (.ref 0), some (.int (nI x)), some (.int (nI p))] [] h := by
    intro j
    induction j with
    | zero =>
      intro p h hp he hv
      have hp : p = 100 := by omega
      subst hp
      repeat (first | refine g_px rfl rfl rfl ?_)
      refine g_ic rfl (fun cq => ?_) (fun cq => ?_)
      · repeat (first | refine g_px rfl rfl rfl ?_)
        refine g_callV hv [0] 0 rfl rfl rfl rfl rfl rfl rfl rfl (by simp) (s_answer' sta (d + 3) tr true sl a b _) (fun v w' h hp hk2 hv => ?_)
        obtain ⟨rfl, rfl⟩ := hp
        subst hT
        exact g_iret hv rfl rfl rfl rfl ⟨by rw [he]; rfl, rfl⟩
      · simp (disch := omega) only [mj_cp, k_6, k_7, k_8, k_9, k_10, k_12, k_15, k_16, k_18, k_20, k_24, k_25, k_26, k_27, k_28, k_32, k_36, k_48, k_57, k_59, k_63, k_74, k_75, k_84, k_90, k_97, k_99, k_100, k_122, k_200, k_255, k_420, k_448, k_720, k_800, k_999, k_bit, k_shl, fa_and, nI_add, bl_1, bl_0, bl_n1, bl_n0, bl_i1, nI_lt0, nI_0le, nI_eq0, nI_eqT, nI_leI, nI_ltI, nI_eq, Nat.not_le, Nat.not_lt, Bool.not_eq_true, Bool.not_eq_false, not_true_eq_false, not_false_eq_true, Decidable.not_not] at cq
        omega
    | succ j ih =>
      intro p h hp he hv
      rw [frs] at he
      repeat (first | refine g_px rfl rfl rfl ?_)
      refine g_ic rfl (fun cq => ?_) (fun cq => ?_)
      · simp (disch := omega) only [mj_cp, k_6, k_7, k_8, k_9, k_10, k_12, k_15, k_16, k_18, k_20, k_24, k_25, k_26, k_27, k_28, k_32, k_36, k_48, k_57, k_59, k_63, k_74, k_75, k_84, k_90, k_97, k_99, k_100, k_122, k_200, k_255, k_420, k_448, k_720, k_800, k_999, k_bit, k_shl, fa_and, nI_add, bl_1, bl_0, bl_n1, bl_n0, bl_i1, nI_lt0, nI_0le, nI_eq0, nI_eqT, nI_leI, nI_ltI, nI_eq, Nat.not_le, Nat.not_lt, Bool.not_eq_true, Bool.not_eq_false, not_true_eq_false, not_false_eq_true, Decidable.not_not] at cq
        omega
      · refine g_run 4 rfl ?_
        rw [show nI p / (Int8.ofInt 10).toInt32 = nI (p / 10) from pk_div (d := 10) (by omega) (by decide) (by decide)]
        refine g_run 3 rfl ?_
        rw [show nI p - nI p / (Int8.ofInt 10).toInt32 * (Int8.ofInt 10).toInt32 = nI (p % 10) from pk_rem (d := 10) (by omega) (by decide) (by decide)]
        refine g_callS hv [] rfl rfl rfl rfl rfl rfl rfl (by simp) (s_isRest sta d x (p / 10) (p % 10) hx (by omega) (by omega)) (fun v w' h hp2 hk2 hv => ?_)
        obtain ⟨rfl, rfl⟩ := hp2
        refine g_if rfl (fun cq => ?_) (fun cq => ?_)
        · simp (disch := omega) only [mj_cp, k_6, k_7, k_8, k_9, k_10, k_12, k_15, k_16, k_18, k_20, k_24, k_25, k_26, k_27, k_28, k_32, k_36, k_48, k_57, k_59, k_63, k_74, k_75, k_84, k_90, k_97, k_99, k_100, k_122, k_200, k_255, k_420, k_448, k_720, k_800, k_999, k_bit, k_shl, fa_and, nI_add, bl_1, bl_0, bl_n1, bl_n0, bl_i1, nI_lt0, nI_0le, nI_eq0, nI_eqT, nI_leI, nI_ltI, nI_eq, Nat.not_le, Nat.not_lt, Bool.not_eq_true, Bool.not_eq_false, not_true_eq_false, not_false_eq_true, Decidable.not_not] at cq
          rw [cq, if_neg (by decide)] at he
          have hnx := ih (p + 1) h (by omega) he hv
          rw [nI_succ] at hnx
          refine g_run 2 rfl ?_
          exact hnx
        · simp (disch := omega) only [mj_cp, k_6, k_7, k_8, k_9, k_10, k_12, k_15, k_16, k_18, k_20, k_24, k_25, k_26, k_27, k_28, k_32, k_36, k_48, k_57, k_59, k_63, k_74, k_75, k_84, k_90, k_97, k_99, k_100, k_122, k_200, k_255, k_420, k_448, k_720, k_800, k_999, k_bit, k_shl, fa_and, nI_add, bl_1, bl_0, bl_n1, bl_n0, bl_i1, nI_lt0, nI_0le, nI_eq0, nI_eqT, nI_leI, nI_ltI, nI_eq, Nat.not_le, Nat.not_lt, Bool.not_eq_true, Bool.not_eq_false, not_true_eq_false, not_false_eq_true, Decidable.not_not] at cq
          rw [cq, if_pos rfl] at he
          repeat (first | refine g_px rfl rfl rfl ?_)
          refine g_callV hv [0] 0 rfl rfl rfl rfl rfl rfl rfl rfl (by simp) (s_answer' sta (d + 3) tr true sl a b _) (fun v w' h hp hk2 hv => ?_)
          obtain ⟨rfl, rfl⟩ := hp
          subst hT
          exact g_iret hv rfl rfl rfl rfl ⟨by rw [he]; rfl, rfl⟩
  repeat (first | refine g_px rfl rfl rfl ?_ | refine g_get hv 0 rfl rfl rfl rfl ?_)
  refine g_if rfl (fun cq => ?_) (fun cq => absurd (show ¬ bl true = 0 by decide) cq)
  repeat (first | refine g_px rfl rfl rfl ?_)
  refine g_callS hv [] rfl rfl rfl rfl rfl rfl rfl (by simp) (s_isBuyers sta (d + 3) (nI x)) (fun v w' h hp hk2 hv => ?_)
  obtain ⟨rfl, rfl⟩ := hp
  rw [inR_k hx (by decide)]
  refine g_if rfl (fun cq => ?_) (fun cq => absurd (show ¬ bl true = 0 by decide) cq)
  refine g_run 2 rfl ?_
  exact loop 100 0 h (by omega) hR.symm hv
end First
