/-! Cases: weights, losses; Laws.put -/
section Weights2
variable (sta : mj_S) (d s b ct n cl : Nat) (t : Nat) (kn sp hd hi er sh wn : Int32) (K : Nat → Nat) (G : Nat → Nat → Option Nat) (E W A : Nat → Nat)
abbrev wcx (s b ct n t : Nat) (K : Nat → Nat) (G : Nat → Nat → Option Nat) (E : Nat → Nat) (kn sp hd hi er sh wn : Int32) (W A : Nat → Nat) : mj_W := wcl s b (nI ct) n K G (nI t) kn sp hd hi er sh wn W A ++ [(s + 6, a7 E)]
theorem lsc_lt {cl T : Nat} {g : Nat → Option Nat} {W A : Nat → Nat} (hW : bd 1000 W) (hA : bd 1000 A) (m : Nat) : lsc cl T g W A m < 1000 := by
  unfold lsc
  split
  · exact los_lt hW hA m
  · omega
theorem lss_lt {cl T : Nat} {g : Nat → Option Nat} {W A : Nat → Nat} (hW : bd 1000 W) (hA : bd 1000 A) {n : Nat} (hn : n ≤ 6) : fb_sm (lsc cl T g W A) n ≤ 6000 := by
  have := fb_sm_bound (f := lsc cl T g W A) (c := 999) (n := n) (fun k _ => by have := lsc_lt (cl := cl) (T := T) (g := g) hW hA k; omega)
  omega
theorem s_wLosing (mu : Nat) (hmu : mu < 1000) (hK : bd 64 K) (hG : ∀ k, gok (G k)) (hE : bd 1000 E) (hct : ct ≤ 720) (hn : n ≤ 6) (hW : bd 1000 W) (hA : bd 1000 A) :
    mj_Sx sta (d + 3) 14 [.ref s, .ref b, (.int (nI cl)), (.int (nI mu))] (wcx s b ct n t K G E kn sp hd hi er sh wn W A) (fun v w => v = some (.long (lN (fb_sm (fun k => if decide (mu < fb_sm (lsc cl (K k) (G k) W A) n) then E k else 0) ct))) ∧ w = wcx s b ct n t K G E kn sp hd hi er sh wn W A) := by
  refine mj_Sx.mk m_X0_weightLosing (by decide) n_X0_weightLosing rfl (fun h0 hv => ?_)
  generalize hT : mj_rx m_X0_weightLosing h0 _ _ = T
  have loop : ∀ j x h, x + j = ct → mj_Vw h0 (wcx s b ct n t K G E kn sp hd hi er sh wn W A) h → mj_go sta (mj_Cl sta (d + 2)) m_X0_weightLosing T 6 [some (.ref s), some (.ref b), some (.int (nI cl)), some (.int (nI mu)), some (.long (lN (fb_sm (fun k => if decide (mu < fb_sm (lsc cl (K k) (G k) W A) n) then E k else 0) x))), none, some (.int (nI x))] [] h := by
    intro j
    induction j with
    | zero =>
      intro x h hx hv
      repeat (first | refine g_px rfl rfl rfl ?_ | refine g_get hv 0 rfl rfl rfl rfl ?_ | refine g_get hv 1 rfl rfl rfl rfl ?_ | refine g_get hv 2 rfl rfl rfl rfl ?_ | refine g_get hv 3 rfl rfl rfl rfl ?_)
      refine g_ic rfl (fun cq => ?_) (fun cq => ?_)
      · have hx : x = ct := by omega
        subst hx
        repeat (first | refine g_px rfl rfl rfl ?_ | refine g_get hv 0 rfl rfl rfl rfl ?_ | refine g_get hv 1 rfl rfl rfl rfl ?_ | refine g_get hv 2 rfl rfl rfl rfl ?_ | refine g_get hv 3 rfl rfl rfl rfl ?_)
        subst hT
        exact g_lret hv rfl rfl rfl ⟨rfl, rfl⟩
      · simp (disch := omega) only [mj_cp, k_6, k_7, k_8, k_9, k_10, k_12, k_15, k_16, k_18, k_20, k_24, k_25, k_26, k_27, k_28, k_32, k_36, k_48, k_57, k_59, k_63, k_74, k_75, k_84, k_90, k_97, k_99, k_100, k_122, k_200, k_255, k_420, k_448, k_720, k_800, k_999, k_bit, k_shl, fa_and, nI_add, bl_1, bl_0, bl_n1, bl_n0, bl_i1, nI_lt0, nI_0le, nI_eq0, nI_eqT, nI_leI, nI_ltI, nI_eq, Nat.not_le, Nat.not_lt, Bool.not_eq_true, Bool.not_eq_false, not_true_eq_false, not_false_eq_true, Decidable.not_not] at cq
        omega
    | succ j ih =>
      intro x h hx hv
      have hx7 : x < 720 := by omega
      have hl := lss_lt (cl := cl) (T := K x) (g := G x) hW hA hn
      repeat (first | refine g_px rfl rfl rfl ?_ | refine g_get hv 0 rfl rfl rfl rfl ?_ | refine g_get hv 1 rfl rfl rfl rfl ?_ | refine g_get hv 2 rfl rfl rfl rfl ?_ | refine g_get hv 3 rfl rfl rfl rfl ?_)
      refine g_ic rfl (fun cq => ?_) (fun cq => ?_)
      · simp (disch := omega) only [mj_cp, k_6, k_7, k_8, k_9, k_10, k_12, k_15, k_16, k_18, k_20, k_24, k_25, k_26, k_27, k_28, k_32, k_36, k_48, k_57, k_59, k_63, k_74, k_75, k_84, k_90, k_97, k_99, k_100, k_122, k_200, k_255, k_420, k_448, k_720, k_800, k_999, k_bit, k_shl, fa_and, nI_add, bl_1, bl_0, bl_n1, bl_n0, bl_i1, nI_lt0, nI_0le, nI_eq0, nI_eqT, nI_leI, nI_ltI, nI_eq, Nat.not_le, Nat.not_lt, Bool.not_eq_true, Bool.not_eq_false, not_true_eq_false, not_false_eq_true, Decidable.not_not] at cq
        omega
      · repeat (first | refine g_px rfl rfl rfl ?_ | refine g_get hv 0 rfl rfl rfl rfl ?_ | refine g_get hv 1 rfl rfl rfl rfl ?_ | refine g_get hv 2 rfl rfl rfl rfl ?_ | refine g_get hv 3 rfl rfl rfl rfl ?_)
        refine g_callV hv [0, 1, 2, 3, 4, 5] 0 rfl rfl rfl rfl rfl rfl rfl rfl (by decide) (s_clost sta d s b x cl n (nI ct) (nI t) kn sp hd hi er sh wn K G W A hG hK hx7 hn hW hA) (fun v w' h hp hk hv => ?_)
        obtain ⟨rfl, rfl⟩ := hp
        have hnx := ih (x + 1) h (by omega) hv
        rw [nI_succ] at hnx
        refine g_run 1 rfl ?_
        refine g_ic rfl (fun cq => ?_) (fun cq => ?_)
        · simp (disch := omega) only [mj_cp, k_6, k_7, k_8, k_9, k_10, k_12, k_15, k_16, k_18, k_20, k_24, k_25, k_26, k_27, k_28, k_32, k_36, k_48, k_57, k_59, k_63, k_74, k_75, k_84, k_90, k_97, k_99, k_100, k_122, k_200, k_255, k_420, k_448, k_720, k_800, k_999, k_bit, k_shl, fa_and, nI_add, bl_1, bl_0, bl_n1, bl_n0, bl_i1, nI_lt0, nI_0le, nI_eq0, nI_eqT, nI_leI, nI_ltI, nI_eq, Nat.not_le, Nat.not_lt, Bool.not_eq_true, Bool.not_eq_false, not_true_eq_false, not_false_eq_true, Decidable.not_not] at cq
          refine g_run 2 rfl ?_
          rw [sm_skip (p := fun k => decide (mu < fb_sm (lsc cl (K k) (G k) W A) n)) (decide_eq_false (by omega))] at hnx
          exact hnx
        · simp (disch := omega) only [mj_cp, k_6, k_7, k_8, k_9, k_10, k_12, k_15, k_16, k_18, k_20, k_24, k_25, k_26, k_27, k_28, k_32, k_36, k_48, k_57, k_59, k_63, k_74, k_75, k_84, k_90, k_97, k_99, k_100, k_122, k_200, k_255, k_420, k_448, k_720, k_800, k_999, k_bit, k_shl, fa_and, nI_add, bl_1, bl_0, bl_n1, bl_n0, bl_i1, nI_lt0, nI_0le, nI_eq0, nI_eqT, nI_leI, nI_ltI, nI_eq, Nat.not_le, Nat.not_lt, Bool.not_eq_true, Bool.not_eq_false, not_true_eq_false, not_false_eq_true, Decidable.not_not] at cq
          repeat (first | refine g_px rfl rfl rfl ?_ | refine g_get hv 0 rfl rfl rfl rfl ?_ | refine g_get hv 1 rfl rfl rfl rfl ?_ | refine g_get hv 2 rfl rfl rfl rfl ?_ | refine g_get hv 3 rfl rfl rfl rfl ?_)
          refine g_n7 hv 6 hx7 rfl rfl ?_
          refine g_run 5 rfl ?_
          rw [sm_congr (p := fun k => decide (mu < fb_sm (lsc cl (K k) (G k) W A) n)) (decide_eq_true (by omega)), ← add_l (by have := hE x; omega)] at hnx
          exact hnx
  refine g_run 4 rfl ?_
  exact loop ct 0 h0 (by omega) hv
theorem pop_lt (b : Nat) : pop b ≤ 6 := fb_ct_le _ _
theorem s_wUnfilled (ht : t ≤ 6) (hK : bd 64 K) (hE : bd 1000 E) (hct : ct ≤ 720) :
    mj_Sx sta (d + 2) 15 [.ref s, .ref b] (wcx s b ct n t K G E kn sp hd hi er sh wn W A) (fun v w => v = some (.long (lN (fb_sm (fun k => if decide (pop (K k) < t) then E k else 0) ct))) ∧ w = wcx s b ct n t K G E kn sp hd hi er sh wn W A) := by
  refine mj_Sx.mk m_X0_weightUnfilled (by decide) n_X0_weightUnfilled rfl (fun h0 hv => ?_)
  generalize hT : mj_rx m_X0_weightUnfilled h0 _ _ = T
  have loop : ∀ j x h, x + j = ct → mj_Vw h0 (wcx s b ct n t K G E kn sp hd hi er sh wn W A) h → mj_go sta (mj_Cl sta (d + 1)) m_X0_weightUnfilled T 5 [some (.ref s), some (.ref b), some (.long (lN (fb_sm (fun k => if decide (pop (K k) < t) then E k else 0) x))), none, some (.int (nI x))] [] h := by
    intro j
    induction j with
    | zero =>
      intro x h hx hv
      repeat (first | refine g_px rfl rfl rfl ?_ | refine g_get hv 0 rfl rfl rfl rfl ?_ | refine g_get hv 1 rfl rfl rfl rfl ?_ | refine g_get hv 2 rfl rfl rfl rfl ?_ | refine g_get hv 3 rfl rfl rfl rfl ?_)
      refine g_ic rfl (fun cq => ?_) (fun cq => ?_)
      · have hx : x = ct := by omega
        subst hx
        repeat (first | refine g_px rfl rfl rfl ?_ | refine g_get hv 0 rfl rfl rfl rfl ?_ | refine g_get hv 1 rfl rfl rfl rfl ?_ | refine g_get hv 2 rfl rfl rfl rfl ?_ | refine g_get hv 3 rfl rfl rfl rfl ?_)
        subst hT
        exact g_lret hv rfl rfl rfl ⟨rfl, rfl⟩
      · simp (disch := omega) only [mj_cp, k_6, k_7, k_8, k_9, k_10, k_12, k_15, k_16, k_18, k_20, k_24, k_25, k_26, k_27, k_28, k_32, k_36, k_48, k_57, k_59, k_63, k_74, k_75, k_84, k_90, k_97, k_99, k_100, k_122, k_200, k_255, k_420, k_448, k_720, k_800, k_999, k_bit, k_shl, fa_and, nI_add, bl_1, bl_0, bl_n1, bl_n0, bl_i1, nI_lt0, nI_0le, nI_eq0, nI_eqT, nI_leI, nI_ltI, nI_eq, Nat.not_le, Nat.not_lt, Bool.not_eq_true, Bool.not_eq_false, not_true_eq_false, not_false_eq_true, Decidable.not_not] at cq
        omega
    | succ j ih =>
      intro x h hx hv
      have hx7 : x < 720 := by omega
      have hl := pop_lt (K x)
      repeat (first | refine g_px rfl rfl rfl ?_ | refine g_get hv 0 rfl rfl rfl rfl ?_ | refine g_get hv 1 rfl rfl rfl rfl ?_ | refine g_get hv 2 rfl rfl rfl rfl ?_ | refine g_get hv 3 rfl rfl rfl rfl ?_)
      refine g_ic rfl (fun cq => ?_) (fun cq => ?_)
      · simp (disch := omega) only [mj_cp, k_6, k_7, k_8, k_9, k_10, k_12, k_15, k_16, k_18, k_20, k_24, k_25, k_26, k_27, k_28, k_32, k_36, k_48, k_57, k_59, k_63, k_74, k_75, k_84, k_90, k_97, k_99, k_100, k_122, k_200, k_255, k_420, k_448, k_720, k_800, k_999, k_bit, k_shl, fa_and, nI_add, bl_1, bl_0, bl_n1, bl_n0, bl_i1, nI_lt0, nI_0le, nI_eq0, nI_eqT, nI_leI, nI_ltI, nI_eq, Nat.not_le, Nat.not_lt, Bool.not_eq_true, Bool.not_eq_false, not_true_eq_false, not_false_eq_true, Decidable.not_not] at cq
        omega
      · repeat (first | refine g_px rfl rfl rfl ?_ | refine g_get hv 0 rfl rfl rfl rfl ?_ | refine g_get hv 1 rfl rfl rfl rfl ?_ | refine g_get hv 2 rfl rfl rfl rfl ?_ | refine g_get hv 3 rfl rfl rfl rfl ?_)
        refine g_n7 hv 1 hx7 rfl rfl ?_
        refine g_callS hv [] rfl rfl rfl rfl rfl rfl rfl (by decide) (s_bits sta d (K x) (hK x)) (fun v w' h hp hk hv => ?_)
        obtain ⟨rfl, rfl⟩ := hp
        have hnx := ih (x + 1) h (by omega) hv
        rw [nI_succ] at hnx
        repeat (first | refine g_px rfl rfl rfl ?_ | refine g_get hv 0 rfl rfl rfl rfl ?_ | refine g_get hv 1 rfl rfl rfl rfl ?_ | refine g_get hv 2 rfl rfl rfl rfl ?_ | refine g_get hv 3 rfl rfl rfl rfl ?_)
        refine g_ic rfl (fun cq => ?_) (fun cq => ?_)
        · simp (disch := omega) only [mj_cp, k_6, k_7, k_8, k_9, k_10, k_12, k_15, k_16, k_18, k_20, k_24, k_25, k_26, k_27, k_28, k_32, k_36, k_48, k_57, k_59, k_63, k_74, k_75, k_84, k_90, k_97, k_99, k_100, k_122, k_200, k_255, k_420, k_448, k_720, k_800, k_999, k_bit, k_shl, fa_and, nI_add, bl_1, bl_0, bl_n1, bl_n0, bl_i1, nI_lt0, nI_0le, nI_eq0, nI_eqT, nI_leI, nI_ltI, nI_eq, Nat.not_le, Nat.not_lt, Bool.not_eq_true, Bool.not_eq_false, not_true_eq_false, not_false_eq_true, Decidable.not_not] at cq
          refine g_run 2 rfl ?_
          rw [sm_skip (p := fun k => decide (pop (K k) < t)) (decide_eq_false (by omega))] at hnx
          exact hnx
        · simp (disch := omega) only [mj_cp, k_6, k_7, k_8, k_9, k_10, k_12, k_15, k_16, k_18, k_20, k_24, k_25, k_26, k_27, k_28, k_32, k_36, k_48, k_57, k_59, k_63, k_74, k_75, k_84, k_90, k_97, k_99, k_100, k_122, k_200, k_255, k_420, k_448, k_720, k_800, k_999, k_bit, k_shl, fa_and, nI_add, bl_1, bl_0, bl_n1, bl_n0, bl_i1, nI_lt0, nI_0le, nI_eq0, nI_eqT, nI_leI, nI_ltI, nI_eq, Nat.not_le, Nat.not_lt, Bool.not_eq_true, Bool.not_eq_false, not_true_eq_false, not_false_eq_true, Decidable.not_not] at cq
          repeat (first | refine g_px rfl rfl rfl ?_ | refine g_get hv 0 rfl rfl rfl rfl ?_ | refine g_get hv 1 rfl rfl rfl rfl ?_ | refine g_get hv 2 rfl rfl rfl rfl ?_ | refine g_get hv 3 rfl rfl rfl rfl ?_)
          refine g_n7 hv 6 hx7 rfl rfl ?_
          refine g_run 5 rfl ?_
          rw [sm_congr (p := fun k => decide (pop (K k) < t)) (decide_eq_true (by omega)), ← add_l (by have := hE x; omega)] at hnx
          exact hnx
  refine g_run 4 rfl ?_
  exact loop ct 0 h0 (by omega) hv
theorem s_lossOf (hK : bd 64 K) (hG : ∀ k, gok (G k)) (hE : bd 1000 E) (hct : ct ≤ 720) (hn : n ≤ 6) (hW : bd 1000 W) (hA : bd 1000 A) :
    mj_Sx sta (d + 3) 16 [.ref s, .ref b, (.int (nI cl))] (wcx s b ct n t K G E kn sp hd hi er sh wn W A) (fun v w => v = some (.long (lN (fb_sm (fun k => E k * fb_sm (lsc cl (K k) (G k) W A) n) ct))) ∧ w = wcx s b ct n t K G E kn sp hd hi er sh wn W A) := by
  refine mj_Sx.mk m_X0_lossOf (by decide) n_X0_lossOf rfl (fun h0 hv => ?_)
  generalize hT : mj_rx m_X0_lossOf h0 _ _ = T
  have loop : ∀ j x h, x + j = ct → mj_Vw h0 (wcx s b ct n t K G E kn sp hd hi er sh wn W A) h → mj_go sta (mj_Cl sta (d + 2)) m_X0_lossOf T 5 [some (.ref s), some (.ref b), some (.int (nI cl)), some (.long (lN (fb_sm (fun k => E k * fb_sm (lsc cl (K k) (G k) W A) n) x))), none, some (.int (nI x))] [] h := by
    intro j
    induction j with
    | zero =>
      intro x h hx hv
      repeat (first | refine g_px rfl rfl rfl ?_ | refine g_get hv 0 rfl rfl rfl rfl ?_ | refine g_get hv 1 rfl rfl rfl rfl ?_ | refine g_get hv 2 rfl rfl rfl rfl ?_ | refine g_get hv 3 rfl rfl rfl rfl ?_)
      refine g_ic rfl (fun cq => ?_) (fun cq => ?_)
      · have hx : x = ct := by omega
        subst hx
        repeat (first | refine g_px rfl rfl rfl ?_ | refine g_get hv 0 rfl rfl rfl rfl ?_ | refine g_get hv 1 rfl rfl rfl rfl ?_ | refine g_get hv 2 rfl rfl rfl rfl ?_ | refine g_get hv 3 rfl rfl rfl rfl ?_)
        subst hT
        exact g_lret hv rfl rfl rfl ⟨rfl, rfl⟩
      · simp (disch := omega) only [mj_cp, k_6, k_7, k_8, k_9, k_10, k_12, k_15, k_16, k_18, k_20, k_24, k_25, k_26, k_27, k_28, k_32, k_36, k_48, k_57, k_59, k_63, k_74, k_75, k_84, k_90, k_97, k_99, k_100, k_122, k_200, k_255, k_420, k_448, k_720, k_800, k_999, k_bit, k_shl, fa_and, nI_add, bl_1, bl_0, bl_n1, bl_n0, bl_i1, nI_lt0, nI_0le, nI_eq0, nI_eqT, nI_leI, nI_ltI, nI_eq, Nat.not_le, Nat.not_lt, Bool.not_eq_true, Bool.not_eq_false, not_true_eq_false, not_false_eq_true, Decidable.not_not] at cq
        omega
    | succ j ih =>
      intro x h hx hv
      have hx7 : x < 720 := by omega
      have hl := lss_lt (cl := cl) (T := K x) (g := G x) hW hA hn
      repeat (first | refine g_px rfl rfl rfl ?_ | refine g_get hv 0 rfl rfl rfl rfl ?_ | refine g_get hv 1 rfl rfl rfl rfl ?_ | refine g_get hv 2 rfl rfl rfl rfl ?_ | refine g_get hv 3 rfl rfl rfl rfl ?_)
      refine g_ic rfl (fun cq => ?_) (fun cq => ?_)
      · simp (disch := omega) only [mj_cp, k_6, k_7, k_8, k_9, k_10, k_12, k_15, k_16, k_18, k_20, k_24, k_25, k_26, k_27, k_28, k_32, k_36, k_48, k_57, k_59, k_63, k_74, k_75, k_84, k_90, k_97, k_99, k_100, k_122, k_200, k_255, k_420, k_448, k_720, k_800, k_999, k_bit, k_shl, fa_and, nI_add, bl_1, bl_0, bl_n1, bl_n0, bl_i1, nI_lt0, nI_0le, nI_eq0, nI_eqT, nI_leI, nI_ltI, nI_eq, Nat.not_le, Nat.not_lt, Bool.not_eq_true, Bool.not_eq_false, not_true_eq_false, not_false_eq_true, Decidable.not_not] at cq
        omega
      · repeat (first | refine g_px rfl rfl rfl ?_ | refine g_get hv 0 rfl rfl rfl rfl ?_ | refine g_get hv 1 rfl rfl rfl rfl ?_ | refine g_get hv 2 rfl rfl rfl rfl ?_ | refine g_get hv 3 rfl rfl rfl rfl ?_)
        refine g_n7 hv 6 hx7 rfl rfl ?_
        repeat (first | refine g_px rfl rfl rfl ?_ | refine g_get hv 0 rfl rfl rfl rfl ?_ | refine g_get hv 1 rfl rfl rfl rfl ?_ | refine g_get hv 2 rfl rfl rfl rfl ?_ | refine g_get hv 3 rfl rfl rfl rfl ?_)
        refine g_callV hv [0, 1, 2, 3, 4, 5] 0 rfl rfl rfl rfl rfl rfl rfl rfl (by decide) (s_clost sta d s b x cl n (nI ct) (nI t) kn sp hd hi er sh wn K G W A hG hK hx7 hn hW hA) (fun v w' h hp hk hv => ?_)
        obtain ⟨rfl, rfl⟩ := hp
        have hnx := ih (x + 1) h (by omega) hv
        have hEx := hE x
        rw [nI_succ, fb_sm_succ, ← lN_add, ← lN_mul, ← nI_l (n := E x) (by omega), ← nI_l (n := fb_sm (lsc cl (K x) (G x) W A) n) (by omega)] at hnx
        refine g_run 6 rfl ?_
        exact hnx
  refine g_run 4 rfl ?_
  exact loop ct 0 h0 (by omega) hv
end Weights2
theorem s_lput (sta : mj_S) (d l k f : Nat) (b : Bool) (hm : Nat → Int64) (x : Int64) (hl : l < 16) : mj_Sx sta (d + 1) 27 [.ref 144, (.int (nI l)), .long x, .int (bl b)] (wlw (nI k) (nI f) hm) (fun v w => v = none ∧ w = wlw (nI (k ||| 2 ^ l)) (nI (if b then f ||| 2 ^ l else f)) (vp_updL hm l x)) := by
  refine mj_Sx.mk m_X3_put (by decide) n_X3_put rfl (fun h0 hv => ?_)
  generalize hT : mj_rx m_X3_put h0 _ _ = T
  repeat (first | refine g_px rfl rfl rfl ?_ | refine g_get hv 0 rfl rfl rfl rfl ?_ | refine g_get hv 1 rfl rfl rfl rfl ?_)
  simp (disch := omega) only [k_6, k_7, k_8, k_9, k_10, k_12, k_15, k_16, k_18, k_20, k_24, k_25, k_26, k_27, k_28, k_32, k_36, k_48, k_57, k_59, k_63, k_74, k_75, k_84, k_90, k_97, k_99, k_100, k_122, k_200, k_255, k_420, k_448, k_720, k_800, k_999, k_bit, k_shl, fa_or, fa_and, nI_add, pk_sub, pk_mul]
  refine g_put hv 0 rfl rfl rfl rfl rfl rfl (fun h hv => ?_)
  repeat (first | refine g_px rfl rfl rfl ?_ | refine g_get hv 0 rfl rfl rfl rfl ?_ | refine g_get hv 1 rfl rfl rfl rfl ?_)
  refine g_last hv 1 rfl rfl (vp_in_nI hl (by decide)) (fun h hv => ?_)
  rw [nI_clamp (by omega)] at hv
  repeat (first | refine g_px rfl rfl rfl ?_ | refine g_get hv 0 rfl rfl rfl rfl ?_ | refine g_get hv 1 rfl rfl rfl rfl ?_)
  refine g_if rfl (fun cq => ?_) (fun cq => ?_)
  · simp (disch := omega) only [mj_cp, k_6, k_7, k_8, k_9, k_10, k_12, k_15, k_16, k_18, k_20, k_24, k_25, k_26, k_27, k_28, k_32, k_36, k_48, k_57, k_59, k_63, k_74, k_75, k_84, k_90, k_97, k_99, k_100, k_122, k_200, k_255, k_420, k_448, k_720, k_800, k_999, k_bit, k_shl, fa_and, nI_add, bl_1, bl_0, bl_n1, bl_n0, bl_i1, nI_lt0, nI_0le, nI_eq0, nI_eqT, nI_leI, nI_ltI, nI_eq, Nat.not_le, Nat.not_lt, Bool.not_eq_true, Bool.not_eq_false, not_true_eq_false, not_false_eq_true, Decidable.not_not] at cq
    subst cq
    subst hT
    exact g_vret hv rfl rfl rfl ⟨rfl, rfl⟩
  · simp (disch := omega) only [mj_cp, k_6, k_7, k_8, k_9, k_10, k_12, k_15, k_16, k_18, k_20, k_24, k_25, k_26, k_27, k_28, k_32, k_36, k_48, k_57, k_59, k_63, k_74, k_75, k_84, k_90, k_97, k_99, k_100, k_122, k_200, k_255, k_420, k_448, k_720, k_800, k_999, k_bit, k_shl, fa_and, nI_add, bl_1, bl_0, bl_n1, bl_n0, bl_i1, nI_lt0, nI_0le, nI_eq0, nI_eqT, nI_leI, nI_ltI, nI_eq, Nat.not_le, Nat.not_lt, Bool.not_eq_true, Bool.not_eq_false, not_true_eq_false, not_false_eq_true, Decidable.not_not] at cq
    subst cq
    repeat (first | refine g_px rfl rfl rfl ?_ | refine g_get hv 0 rfl rfl rfl rfl ?_ | refine g_get hv 1 rfl rfl rfl rfl ?_)
    simp (disch := omega) only [k_6, k_7, k_8, k_9, k_10, k_12, k_15, k_16, k_18, k_20, k_24, k_25, k_26, k_27, k_28, k_32, k_36, k_48, k_57, k_59, k_63, k_74, k_75, k_84, k_90, k_97, k_99, k_100, k_122, k_200, k_255, k_420, k_448, k_720, k_800, k_999, k_bit, k_shl, fa_or, fa_and, nI_add, pk_sub, pk_mul]
    refine g_put hv 0 rfl rfl rfl rfl rfl rfl (fun h hv => ?_)
    subst hT
    exact g_vret hv rfl rfl rfl ⟨rfl, rfl⟩
