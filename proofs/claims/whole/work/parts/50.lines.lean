/-! Tape: names and lines -/
/-- names by their places -/
def nmR (c : Nat → Nat) (n : Nat) (na nl : Nat → Nat) (nm : Nat → List Nat) (m : Nat) : Prop := ∀ k, k < m → nm k = lsub c (nl k) (na k) ∧ na k + nl k ≤ n ∧ nl k ≤ 8
abbrev wtp (c : Nat → Nat) (n i : Nat) (len fa pl td va : Int32) (na nl : Nat → Nat) (b : Nat) (D : Nat → Nat) (DA : Nat → Nat → Nat) : mj_W := [tpo c n i len fa pl td va, (2, ab c), (3, an na), (4, an nl)] ++ dv b D DA
theorem frs_lt {p : Nat → Bool} : ∀ {N x q}, frs p N x = some q → x ≤ q ∧ q < x + N ∧ p q = true
  | 0, x, q, h => by cases h
  | N + 1, x, q, h => by
    rw [frs] at h
    split at h
    · rename_i e; cases h; exact ⟨by omega, by omega, e⟩
    · have := frs_lt h; exact ⟨by omega, by omega, this.2.2⟩
theorem lkd_le (c : Nat → Nat) (n i : Nat) : lkd c n i ≤ 7 := by
  unfold lkd
  repeat' split
  all_goals omega
section Ln
variable (sta : mj_S) (d : Nat) (c : Nat → Nat) (n i : Nat) (len fa pl td va : Int32) (na nl : Nat → Nat) (b : Nat) (D : Nat → Nat) (DA : Nat → Nat → Nat)
theorem s_stepT (hc : bd 256 c) (hn : n ≤ 800) (hi : i ≤ n) : mj_Sx sta (d + 3) 41 [.ref 1] [tpo c n i len fa pl td va, (2, ab c)] (fun v w => v = none ∧ w = [tpo c n (nxt c n i) len fa pl td va, (2, ab c)]) := s_step sta d c n len fa pl td va (nI i) (nI (knd c n i)) (bhd c n i) hc hn (bhd_ge c n hi).2
theorem s_isNamed (m : Nat) (hm : m < 6) (hc : bd 256 c) (hn : n ≤ 800) (h1 : na m + nl m ≤ n) (h2 : i + nl m ≤ n) : mj_Sx sta (d + 1) 57 [.ref 1, (.int (nI m))] [tpo c n i len fa pl td va, (2, ab c), (3, an na), (4, an nl)] (fun v w => v = some (.int (bl (decide (lsub c (nl m) (na m) = lsub c (nl m) i)))) ∧ w = [tpo c n i len fa pl td va, (2, ab c), (3, an na), (4, an nl)]) := by
  refine mj_Sx.mk m_X6_isNamed (by decide) n_X6_isNamed rfl (fun h0 hv => ?_)
  generalize hT : mj_rx m_X6_isNamed h0 _ _ = T
  have loop : ∀ y k, k + y = nl m → (lsub c (nl m) (na m) = lsub c (nl m) i ↔ lsub c y (na m + k) = lsub c y (i + k)) → mj_go sta (mj_Cl sta d) m_X6_isNamed T 2 [some (.ref 1), some (.int (nI m)), some (.int (nI k))] [] h0 := by
    intro y
    induction y with
    | zero =>
      intro k hk he
      repeat (first | refine g_px rfl rfl rfl ?_ | refine g_get hv 0 rfl rfl rfl rfl ?_)
      refine g_n6 hv 3 hm rfl rfl ?_
      refine g_ic rfl (fun cq => ?_) (fun cq => ?_)
      · repeat (first | refine g_px rfl rfl rfl ?_)
        subst hT
        refine g_iret hv rfl rfl rfl rfl ?_
        exact ⟨by rw [decide_eq_true (he.mpr rfl)]; rfl, rfl⟩
      · simp (disch := omega) only [mj_cp, k_6, k_7, k_8, k_9, k_10, k_12, k_15, k_16, k_18, k_20, k_24, k_25, k_26, k_27, k_28, k_32, k_36, k_48, k_57, k_59, k_63, k_74, k_75, k_84, k_90, k_97, k_99, k_100, k_122, k_200, k_255, k_420, k_448, k_720, k_800, k_999, k_bit, k_shl, fa_and, nI_add, bl_1, bl_0, bl_n1, bl_n0, bl_i1, nI_lt0, nI_0le, nI_eq0, nI_eqT, nI_leI, nI_ltI, nI_eq, Nat.not_le, Nat.not_lt, Bool.not_eq_true, Bool.not_eq_false, not_true_eq_false, not_false_eq_true, Decidable.not_not] at cq
        omega
    | succ y ih =>
      intro k hk he
      rw [lsub, lsub] at he
      have g1 := hc (na m + k)
      have g2 := hc (i + k)
      repeat (first | refine g_px rfl rfl rfl ?_ | refine g_get hv 0 rfl rfl rfl rfl ?_)
      refine g_n6 hv 3 hm rfl rfl ?_
      refine g_ic rfl (fun cq => ?_) (fun cq => ?_)
      · simp (disch := omega) only [mj_cp, k_6, k_7, k_8, k_9, k_10, k_12, k_15, k_16, k_18, k_20, k_24, k_25, k_26, k_27, k_28, k_32, k_36, k_48, k_57, k_59, k_63, k_74, k_75, k_84, k_90, k_97, k_99, k_100, k_122, k_200, k_255, k_420, k_448, k_720, k_800, k_999, k_bit, k_shl, fa_and, nI_add, bl_1, bl_0, bl_n1, bl_n0, bl_i1, nI_lt0, nI_0le, nI_eq0, nI_eqT, nI_leI, nI_ltI, nI_eq, Nat.not_le, Nat.not_lt, Bool.not_eq_true, Bool.not_eq_false, not_true_eq_false, not_false_eq_true, Decidable.not_not] at cq
        omega
      · repeat (first | refine g_px rfl rfl rfl ?_ | refine g_get hv 0 rfl rfl rfl rfl ?_)
        refine g_n6 hv 2 hm rfl rfl ?_
        repeat (first | refine g_px rfl rfl rfl ?_)
        rw [nI_add]
        refine g_b8 hv 1 (k := na m + k) (by omega) rfl rfl ?_
        repeat (first | refine g_px rfl rfl rfl ?_ | refine g_get hv 0 rfl rfl rfl rfl ?_)
        rw [nI_add]
        refine g_b8 hv 1 (k := i + k) (by omega) rfl rfl ?_
        refine g_ic rfl (fun cq => ?_) (fun cq => ?_)
        · have cq : sb (c (na m + k)) = sb (c (i + k)) := cq
          rw [sb_inj _ g1 _ g2] at cq
          refine g_run 2 rfl ?_
          have hnx := ih (k + 1) (by omega) (by
            rw [he, cq]
            exact ⟨fun z => (List.cons.inj z).2, fun z => by rw [show na m + k + 1 = na m + (k + 1) from rfl, z]; rfl⟩)
          rw [nI_succ] at hnx
          exact hnx
        · have cq : ¬ sb (c (na m + k)) = sb (c (i + k)) := cq
          rw [sb_inj _ g1 _ g2] at cq
          repeat (first | refine g_px rfl rfl rfl ?_)
          subst hT
          refine g_iret hv rfl rfl rfl rfl ?_
          exact ⟨by rw [decide_eq_false (fun z => cq (List.cons.inj (he.mp z)).1)]; rfl, rfl⟩
  refine g_run 2 rfl ?_
  exact loop (nl m) 0 (by omega) Iff.rfl
theorem s_namedMan (nm : Nat → List Nat) (hD1 : D 1 ≤ 6) (hnm : nmR c n na nl nm (D 1)) (hc : bd 256 c) (hn : n ≤ 800) (hi : i ≤ n) : mj_Sx sta (d + 2) 56 [.ref 1, .ref b] ([tpo c n i len fa pl td va, (2, ab c), (3, an na), (4, an nl)] ++ [dhd b D]) (fun v w => v = some (.int (snd (fnd nm (wl c n i) (D 1)))) ∧ w = [tpo c n i len fa pl td va, (2, ab c), (3, an na), (4, an nl)] ++ [dhd b D]) := by
  refine mj_Sx.mk m_X6_namedMan (by decide) n_X6_namedMan rfl (fun h0 hv => ?_)
  generalize hT : mj_rx m_X6_namedMan h0 _ _ = T
  have hb := bhd_ge c n hi
  have loop : ∀ y k h, k + y = D 1 → fnd nm (wl c n i) (D 1) = frs (fun k => decide (nm k = wl c n i)) y k → mj_Vw h0 ([tpo c n i len fa pl td va, (2, ab c), (3, an na), (4, an nl)] ++ [dhd b D]) h → mj_go sta (mj_Cl sta (d + 1)) m_X6_namedMan T 2 [some (.ref 1), some (.ref b), some (.int (nI k))] [] h := by
    intro y
    induction y with
    | zero =>
      intro k h hk he hv
      repeat (first | refine g_px rfl rfl rfl ?_ | refine g_get hv 4 rfl rfl rfl rfl ?_)
      refine g_ic rfl (fun cq => ?_) (fun cq => ?_)
      · repeat (first | refine g_px rfl rfl rfl ?_)
        subst hT
        refine g_iret hv rfl rfl rfl rfl ?_
        exact ⟨by rw [he]; rfl, rfl⟩
      · simp (disch := omega) only [mj_cp, k_6, k_7, k_8, k_9, k_10, k_12, k_15, k_16, k_18, k_20, k_24, k_25, k_26, k_27, k_28, k_32, k_36, k_48, k_57, k_59, k_63, k_74, k_75, k_84, k_90, k_97, k_99, k_100, k_122, k_200, k_255, k_420, k_448, k_720, k_800, k_999, k_bit, k_shl, fa_and, nI_add, bl_1, bl_0, bl_n1, bl_n0, bl_i1, nI_lt0, nI_0le, nI_eq0, nI_eqT, nI_leI, nI_ltI, nI_eq, Nat.not_le, Nat.not_lt, Bool.not_eq_true, Bool.not_eq_false, not_true_eq_false, not_false_eq_true, Decidable.not_not] at cq
        omega
    | succ y ih =>
      intro k h hk he hv
      rw [frs] at he
      obtain ⟨q1, q2, q3⟩ := hnm k (by omega)
      have nx : ∀ h, ¬ nm k = wl c n i → mj_Vw h0 ([tpo c n i len fa pl td va, (2, ab c), (3, an na), (4, an nl)] ++ [dhd b D]) h → mj_go sta (mj_Cl sta (d + 1)) m_X6_namedMan T 38 [some (.ref 1), some (.ref b), some (.int (nI k))] [] h := by
        intro h hno hv
        rw [decide_eq_false hno] at he
        refine g_run 2 rfl ?_
        have hnx := ih (k + 1) h (by omega) he hv
        rw [nI_succ] at hnx
        exact hnx
      repeat (first | refine g_px rfl rfl rfl ?_ | refine g_get hv 4 rfl rfl rfl rfl ?_)
      refine g_ic rfl (fun cq => ?_) (fun cq => ?_)
      · simp (disch := omega) only [mj_cp, k_6, k_7, k_8, k_9, k_10, k_12, k_15, k_16, k_18, k_20, k_24, k_25, k_26, k_27, k_28, k_32, k_36, k_48, k_57, k_59, k_63, k_74, k_75, k_84, k_90, k_97, k_99, k_100, k_122, k_200, k_255, k_420, k_448, k_720, k_800, k_999, k_bit, k_shl, fa_and, nI_add, bl_1, bl_0, bl_n1, bl_n0, bl_i1, nI_lt0, nI_0le, nI_eq0, nI_eqT, nI_leI, nI_ltI, nI_eq, Nat.not_le, Nat.not_lt, Bool.not_eq_true, Bool.not_eq_false, not_true_eq_false, not_false_eq_true, Decidable.not_not] at cq
        omega
      · repeat (first | refine g_px rfl rfl rfl ?_ | refine g_get hv 0 rfl rfl rfl rfl ?_)
        refine g_n6 hv 3 (k := k) (by omega) rfl rfl ?_
        repeat (first | refine g_px rfl rfl rfl ?_ | refine g_get hv 0 rfl rfl rfl rfl ?_)
        rw [pk_sub hb.1]
        refine g_ic rfl (fun cq => ?_) (fun cq => ?_)
        · simp (disch := omega) only [mj_cp, k_6, k_7, k_8, k_9, k_10, k_12, k_15, k_16, k_18, k_20, k_24, k_25, k_26, k_27, k_28, k_32, k_36, k_48, k_57, k_59, k_63, k_74, k_75, k_84, k_90, k_97, k_99, k_100, k_122, k_200, k_255, k_420, k_448, k_720, k_800, k_999, k_bit, k_shl, fa_and, nI_add, bl_1, bl_0, bl_n1, bl_n0, bl_i1, nI_lt0, nI_0le, nI_eq0, nI_eqT, nI_leI, nI_ltI, nI_eq, Nat.not_le, Nat.not_lt, Bool.not_eq_true, Bool.not_eq_false, not_true_eq_false, not_false_eq_true, Decidable.not_not] at cq
          refine nx h (fun z => cq ?_) hv
          have := congrArg List.length z
          rw [q1, wl, lsub_len, lsub_len] at this
          exact this
        · simp (disch := omega) only [mj_cp, k_6, k_7, k_8, k_9, k_10, k_12, k_15, k_16, k_18, k_20, k_24, k_25, k_26, k_27, k_28, k_32, k_36, k_48, k_57, k_59, k_63, k_74, k_75, k_84, k_90, k_97, k_99, k_100, k_122, k_200, k_255, k_420, k_448, k_720, k_800, k_999, k_bit, k_shl, fa_and, nI_add, bl_1, bl_0, bl_n1, bl_n0, bl_i1, nI_lt0, nI_0le, nI_eq0, nI_eqT, nI_leI, nI_ltI, nI_eq, Nat.not_le, Nat.not_lt, Bool.not_eq_true, Bool.not_eq_false, not_true_eq_false, not_false_eq_true, Decidable.not_not] at cq
          repeat (first | refine g_px rfl rfl rfl ?_)
          refine g_callV hv [0, 1, 2, 3] 0 rfl rfl rfl rfl rfl rfl rfl rfl (by decide) (s_isNamed sta d c n i len fa pl td va na nl k (by omega) hc hn q2 (by omega)) (fun v w' h hp hk2 hv => ?_)
          obtain ⟨rfl, rfl⟩ := hp
          have heq : (nm k = wl c n i) = (lsub c (nl k) (na k) = lsub c (nl k) i) := by rw [q1, wl, cq]
          refine g_if rfl (fun cq => ?_) (fun cq => ?_)
          · simp (disch := omega) only [mj_cp, k_6, k_7, k_8, k_9, k_10, k_12, k_15, k_16, k_18, k_20, k_24, k_25, k_26, k_27, k_28, k_32, k_36, k_48, k_57, k_59, k_63, k_74, k_75, k_84, k_90, k_97, k_99, k_100, k_122, k_200, k_255, k_420, k_448, k_720, k_800, k_999, k_bit, k_shl, fa_and, nI_add, bl_1, bl_0, bl_n1, bl_n0, bl_i1, nI_lt0, nI_0le, nI_eq0, nI_eqT, nI_leI, nI_ltI, nI_eq, Nat.not_le, Nat.not_lt, Bool.not_eq_true, Bool.not_eq_false, not_true_eq_false, not_false_eq_true, Decidable.not_not] at cq
            exact nx h (by rw [heq]; exact of_decide_eq_false cq) hv
          · simp (disch := omega) only [mj_cp, k_6, k_7, k_8, k_9, k_10, k_12, k_15, k_16, k_18, k_20, k_24, k_25, k_26, k_27, k_28, k_32, k_36, k_48, k_57, k_59, k_63, k_74, k_75, k_84, k_90, k_97, k_99, k_100, k_122, k_200, k_255, k_420, k_448, k_720, k_800, k_999, k_bit, k_shl, fa_and, nI_add, bl_1, bl_0, bl_n1, bl_n0, bl_i1, nI_lt0, nI_0le, nI_eq0, nI_eqT, nI_leI, nI_ltI, nI_eq, Nat.not_le, Nat.not_lt, Bool.not_eq_true, Bool.not_eq_false, not_true_eq_false, not_false_eq_true, Decidable.not_not] at cq
            rw [decide_eq_true (by rw [heq]; exact of_decide_eq_true cq)] at he
            repeat (first | refine g_px rfl rfl rfl ?_)
            subst hT
            refine g_iret hv rfl rfl rfl rfl ?_
            exact ⟨by rw [he]; rfl, rfl⟩
  refine g_run 2 rfl ?_
  exact loop (D 1) 0 h0 (by omega) rfl hv
theorem fnd_lt {nm : Nat → List Nat} {w : List Nat} {m k : Nat} (h : fnd nm w m = some k) : k < m := by have := frs_lt h; omega
theorem s_isTold' (nm : Nat → List Nat) (hD1 : D 1 ≤ 6) (hnm : nmR c n na nl nm (D 1)) (hc : bd 256 c) (hn : n ≤ 800) (hi : i ≤ n) : mj_Sx sta (d + 4) 55 [.ref 1, .ref b] ([tpo c n i len fa pl td va, (2, ab c), (3, an na), (4, an nl)] ++ [dhd b D]) (fun v w => match pM c n nm (D 1) i with
      | .inl k => v = some (.int (bl true)) ∧ w = [tpo c n i len fa pl td (nI k), (2, ab c), (3, an na), (4, an nl)] ++ [dhd b D]
      | .inr e => v = some (.int (bl false)) ∧ ∃ va', w = [tpo c n i len (nI e.1) (nI e.2) td va', (2, ab c), (3, an na), (4, an nl)] ++ [dhd b D]) := by
  refine mj_Sx.mk m_X6_isToldMan (by decide) n_X6_isToldMan rfl (fun h0 hv => ?_)
  generalize hT : mj_rx m_X6_isToldMan h0 _ _ = T
  unfold pM at hT
  have hl7 := lkd_le c n i
  repeat (first | refine g_px rfl rfl rfl ?_)
  refine g_callV hv [0, 1] 0 rfl rfl rfl rfl rfl rfl rfl rfl (by decide) (s_lineKind sta d c n i len fa pl td va hc hn hi) (fun v w' h hp hk2 hv => ?_)
  obtain ⟨rfl, rfl⟩ := hp
  repeat (first | refine g_px rfl rfl rfl ?_)
  refine g_ic rfl (fun cq => ?_) (fun cq => ?_)
  · simp (disch := omega) only [mj_cp, k_6, k_7, k_8, k_9, k_10, k_12, k_15, k_16, k_18, k_20, k_24, k_25, k_26, k_27, k_28, k_32, k_36, k_48, k_57, k_59, k_63, k_74, k_75, k_84, k_90, k_97, k_99, k_100, k_122, k_200, k_255, k_420, k_448, k_720, k_800, k_999, k_bit, k_shl, fa_and, nI_add, bl_1, bl_0, bl_n1, bl_n0, bl_i1, nI_lt0, nI_0le, nI_eq0, nI_eqT, nI_leI, nI_ltI, nI_eq, Nat.not_le, Nat.not_lt, Bool.not_eq_true, Bool.not_eq_false, not_true_eq_false, not_false_eq_true, Decidable.not_not] at cq
    rw [if_pos cq] at hT
    repeat (first | refine g_px rfl rfl rfl ?_)
    refine g_callV hv [0, 1, 2, 3, 4] 0 rfl rfl rfl rfl rfl rfl rfl rfl (by decide) (s_namedMan sta (d + 1) c n i len fa pl td va na nl b D nm hD1 hnm hc hn hi) (fun v w' h hp hk2 hv => ?_)
    obtain ⟨rfl, rfl⟩ := hp
    refine g_put hv 0 rfl rfl rfl rfl rfl rfl (fun h hv => ?_)
    repeat (first | refine g_px rfl rfl rfl ?_ | refine g_get hv 0 rfl rfl rfl rfl ?_)
    cases e : fnd nm (wl c n i) (D 1) with
    | none =>
      rw [e] at hT hv
      refine g_if rfl (fun cq => absurd cq (cpF (by decide))) (fun cq => ?_)
      have hv : mj_Vw h0 ([tpo c n i len fa pl td (-2), (2, ab c), (3, an na), (4, an nl)] ++ [dhd b D]) h := hv
      repeat (first | refine g_px rfl rfl rfl ?_)
      refine g_callV hv [0] 0 rfl rfl rfl rfl rfl rfl rfl rfl (by decide) (s_fail sta (d + 2) len fa pl td (-2) _ _ _ _ _) (fun v w' h hp hk2 hv => ?_)
      obtain ⟨rfl, rfl⟩ := hp
      refine g_if rfl (fun cq => ?_) (fun cq => absurd rfl cq)
      repeat (first | refine g_px rfl rfl rfl ?_)
      subst hT
      exact g_iret hv rfl rfl rfl rfl ⟨rfl, _, rfl⟩
    | some k =>
      rw [e] at hT hv
      have := fnd_lt e
      refine g_if rfl (fun cq => ?_) (fun cq => absurd (nI_pos' (n := k) (by omega)) cq)
      repeat (first | refine g_px rfl rfl rfl ?_)
      subst hT
      exact g_iret hv rfl rfl rfl rfl ⟨rfl, rfl⟩
  · simp (disch := omega) only [mj_cp, k_6, k_7, k_8, k_9, k_10, k_12, k_15, k_16, k_18, k_20, k_24, k_25, k_26, k_27, k_28, k_32, k_36, k_48, k_57, k_59, k_63, k_74, k_75, k_84, k_90, k_97, k_99, k_100, k_122, k_200, k_255, k_420, k_448, k_720, k_800, k_999, k_bit, k_shl, fa_and, nI_add, bl_1, bl_0, bl_n1, bl_n0, bl_i1, nI_lt0, nI_0le, nI_eq0, nI_eqT, nI_leI, nI_ltI, nI_eq, Nat.not_le, Nat.not_lt, Bool.not_eq_true, Bool.not_eq_false, not_true_eq_false, not_false_eq_true, Decidable.not_not] at cq
    rw [if_neg cq] at hT
    repeat (first | refine g_px rfl rfl rfl ?_)
    refine g_callV hv [0] 0 rfl rfl rfl rfl rfl rfl rfl rfl (by decide) (s_fail sta (d + 2) len fa pl td va _ _ _ _ _) (fun v w' h hp hk2 hv => ?_)
    obtain ⟨rfl, rfl⟩ := hp
    subst hT
    exact g_iret hv rfl rfl rfl rfl ⟨rfl, _, rfl⟩
/-- what a line leaves -/
def pst (c : Nat → Nat) (n b : Nat) (len fa pl : Int32) (R : PS ⊕ FP) (v : Option Value) (w : mj_W) : Prop := match R with
  | .inl t => v = some (.int (bl true)) ∧ t.1 ≤ n ∧ okD t.2.2.1 t.2.2.2.1 ∧ ∃ va na nl, nmR c n na nl t.2.2.2.2 (t.2.2.1 1) ∧ w = wtp c n t.1 len fa pl (bl t.2.1) va na nl b t.2.2.1 t.2.2.2.1
  | .inr e => v = some (.int (bl false)) ∧ ∃ i td va na nl D DA, okD D DA ∧ w = wtp c n i len (nI e.1) (nI e.2) td va na nl b D DA
theorem pW_le {ws : List Nat} {k : Nat} (hi : i ≤ n) (h : pW c n ws i = .inl k) : k ≤ n := by
  unfold pW at h
  split at h
  · cases h; exact (nxt_ge c n hi).2
  · cases h
theorem pN_le {most : Nat} {k : Nat × Nat} (hi : i ≤ n) (h : pN c n most i = .inl k) : k.2 ≤ n ∧ k.1 ≤ most := by
  unfold pN at h
  split at h
  · split at h
    · cases h; exact ⟨(nxt_ge c n hi).2, by assumption⟩
    · cases h
  · cases h
theorem pP_le {ws : List Nat} {most : Nat} {k : Nat × Nat} (hi : i ≤ n) (h : pP c n ws most i = .inl k) : k.2 ≤ n ∧ k.1 ≤ most := by
  unfold pP at h
  cases e : pW c n ws i with
  | inl j => rw [e] at h; exact pN_le c n j (pW_le c n i hi e) h
  | inr x => rw [e] at h; cases h
theorem pM_lt {nm : Nat → List Nat} {m k : Nat} (h : pM c n nm m i = .inl k) : k < m := by
  unfold pM at h
  split at h
  · cases e : fnd nm (wl c n i) m with
    | none => rw [e] at h; cases h
    | some q => rw [e] at h; cases h; exact fnd_lt e
  · cases h
theorem s_readTakes (tdb : Bool) (nm : Nat → List Nat) (hD : okD D DA) (hnm : nmR c n na nl nm (D 1)) (hc : bd 256 c) (hn : n ≤ 800) (hi : i ≤ n) : mj_Sx sta (d + 5) 46 [.ref 1, .ref b] (wtp c n i len fa pl (bl tdb) va na nl b D DA) (pst c n b len fa pl (lTakes c n (i, tdb, D, DA, nm))) := by
  refine mj_Sx.mk m_X6_readTakes (by decide) n_X6_readTakes rfl (fun h0 hv => ?_)
  generalize hT : mj_rx m_X6_readTakes h0 _ _ = T
  have hx := nxt_ge c n hi
  unfold lTakes pP at hT
  dsimp only at hT
  repeat (first | refine g_px rfl rfl rfl ?_ | refine g_get hv 0 rfl rfl rfl rfl ?_)
  cases tdb with
  | true =>
    refine g_if rfl (fun cq => absurd cq (cpF (by decide))) (fun cq => ?_)
    repeat (first | refine g_px rfl rfl rfl ?_)
    refine g_callV hv [0] 0 rfl rfl rfl rfl rfl rfl rfl rfl (by decide) (s_fail sta (d + 3) len fa pl (bl true) va _ _ _ _ _) (fun v w' h hp hk2 hv => ?_)
    obtain ⟨rfl, rfl⟩ := hp
    subst hT
    exact g_iret hv rfl rfl rfl rfl ⟨rfl, i, _, _, na, nl, D, DA, hD, rfl⟩
  | false =>
    rw [if_neg (by decide)] at hT
    refine g_if rfl (fun cq => ?_) (fun cq => absurd rfl cq)
    repeat (first | refine g_px rfl rfl rfl ?_)
    refine g_put hv 0 rfl rfl rfl rfl rfl rfl (fun h hv => ?_)
    have hv : mj_Vw h0 (wtp c n i len fa pl (bl true) va na nl b D DA) h := hv
    repeat (first | refine g_px rfl rfl rfl ?_)
    refine g_callV hv [0, 1] 0 rfl rfl rfl rfl rfl rfl rfl rfl (by decide) (s_stepT sta (d + 1) c n i len fa pl (bl true) va hc hn hi) (fun v w' h hp hk2 hv => ?_)
    obtain ⟨rfl, rfl⟩ := hp
    have hv : mj_Vw h0 (wtp c n (nxt c n i) len fa pl (bl true) va na nl b D DA) h := hv
    repeat (first | refine g_px rfl rfl rfl ?_)
    refine g_callV hv [0, 1] 0 rfl rfl rfl rfl rfl rfl rfl rfl (by decide) (s_passWord sta d c n (nxt c n i) len fa pl (bl true) va 6 _ w_takes rfl rfl okw_8.2.2.2.2.2.2.1 (by decide) hc hn hx.2) (fun v w' h hp hk2 hv => ?_)
    obtain hp := hp
    have no : ∀ (h : mj_H) (e : FP) (i' : Nat) (va' : Int32), mj_Vw h0 (wtp c n i' len (nI e.1) (nI e.2) (bl true) va' na nl b D DA) h → T = mj_rx m_X6_readTakes h0 (mj_ks (wtp c n i len fa pl (bl false) va na nl b D DA)) (pst c n b len fa pl (.inr e)) → mj_go sta (mj_Cl sta (d + 4)) m_X6_readTakes T 39 [some (.ref 1), some (.ref b)] [] h := by
      intro h e i' va' hv hT
      subst hT
      repeat (first | refine g_px rfl rfl rfl ?_)
      exact g_iret hv rfl rfl rfl rfl ⟨rfl, i', _, _, na, nl, D, DA, hD, rfl⟩
    cases e1 : pW c n w_takes (nxt c n i) with
    | inr e =>
      rw [e1] at hp hT
      obtain ⟨rfl, rfl⟩ := hp
      refine g_if rfl (fun cq => ?_) (fun cq => absurd rfl cq)
      exact no h e (nxt c n i) va hv hT.symm
    | inl j =>
      rw [e1] at hp hT
      obtain ⟨rfl, rfl⟩ := hp
      have hj := pW_le c n _ hx.2 e1
      refine g_if rfl (fun cq => absurd cq (cpF (by decide))) (fun cq => ?_)
      have hv : mj_Vw h0 (wtp c n j len fa pl (bl true) va na nl b D DA) h := hv
      repeat (first | refine g_px rfl rfl rfl ?_)
      refine g_callV hv [0, 1] 0 rfl rfl rfl rfl rfl rfl rfl rfl (by decide) (s_passWhole sta d c n j len fa pl (bl true) va 5 (by decide) hc hn hj) (fun v w' h hp hk2 hv => ?_)
      obtain hp := hp
      dsimp only at hT
      cases e2 : pN c n 5 j with
      | inr e =>
        rw [e2] at hp hT
        obtain ⟨rfl, rfl⟩ := hp
        refine g_if rfl (fun cq => absurd rfl cq) (fun cq => ?_)
        exact no h e j va hv hT.symm
      | inl k =>
        rw [e2] at hp hT
        obtain ⟨rfl, rfl⟩ := hp
        have hk := pN_le c n j hj e2
        obtain ⟨d0, d1, d3, d4, d5, d6, d7, d8, d2, a0, a1, a2, a3, a4, a5⟩ := hD
        refine g_if rfl (fun cq => ?_) (fun cq => absurd (show ¬ bl true = 0 by decide) cq)
        have hv : mj_Vw h0 (wtp c n k.2 len fa pl (bl true) (nI k.1) na nl b D DA) h := hv
        repeat (first | refine g_px rfl rfl rfl ?_ | refine g_get hv 0 rfl rfl rfl rfl ?_)
        refine g_put hv 4 rfl rfl rfl rfl rfl rfl (fun h hv => ?_)
        repeat (first | refine g_px rfl rfl rfl ?_)
        subst hT
        exact g_iret hv rfl rfl rfl rfl ⟨rfl, hk.1, ⟨hk.2, d1, d3, d4, d5, d6, d7, d8, d2, a0, a1, a2, a3, a4, a5⟩, nI k.1, na, nl, hnm, rfl⟩
theorem nmR_up {c : Nat → Nat} {n : Nat} {na nl : Nat → Nat} {nm : Nat → List Nat} {m a : Nat} (h : nmR c n na nl nm m) (hb : a ≤ bhd c n a ∧ bhd c n a ≤ n) (h8 : bhd c n a - a ≤ 8) : nmR c n (va_up na m a) (va_up nl m (bhd c n a - a)) (va_up nm m (wl c n a)) (m + 1) := by
  intro k hk
  by_cases e : k = m
  · subst e
    rw [show va_up na k a k = a from if_pos rfl, show va_up nl k (bhd c n a - a) k = bhd c n a - a from if_pos rfl, show va_up nm k (wl c n a) k = wl c n a from if_pos rfl]
    exact ⟨rfl, by omega, h8⟩
  · rw [show va_up na m a k = na k from if_neg e, show va_up nl m (bhd c n a - a) k = nl k from if_neg e, show va_up nm m (wl c n a) k = nm k from if_neg e]
    exact h k (by omega)
theorem s_readMan (tdb : Bool) (nm : Nat → List Nat) (hD : okD D DA) (hnm : nmR c n na nl nm (D 1)) (hc : bd 256 c) (hn : n ≤ 800) (hi : i ≤ n) : mj_Sx sta (d + 5) 47 [.ref 1, .ref b] (wtp c n i len fa pl (bl tdb) va na nl b D DA) (pst c n b len fa pl (lMan c n (i, tdb, D, DA, nm))) := by
  refine mj_Sx.mk m_X6_readMan (by decide) n_X6_readMan rfl (fun h0 hv => ?_)
  generalize hT : mj_rx m_X6_readMan h0 _ _ = T
  have hx := nxt_ge c n hi
  have hD2 := hD
  obtain ⟨d0, d1, d3, d4, d5, d6, d7, d8, d2, a0, a1, a2, a3, a4, a5⟩ := hD2
  unfold lMan pP at hT
  dsimp only at hT
  have no1 : ∀ (h : mj_H) (e : FP) (i' : Nat) (va' : Int32) (na' nl' D' : Nat → Nat) (DA' : Nat → Nat → Nat) (o3 : Option Value), okD D' DA' → mj_Vw h0 (wtp c n i' len (nI e.1) (nI e.2) (bl tdb) va' na' nl' b D' DA') h → T = mj_rx m_X6_readMan h0 (mj_ks (wtp c n i len fa pl (bl tdb) va na nl b D DA)) (pst c n b len fa pl (.inr e)) → mj_go sta (mj_Cl sta (d + 4)) m_X6_readMan T 123 [some (.ref 1), some (.ref b), some (.int (nI (D 1))), o3] [] h := by
    intro h e i' va' na' nl' D' DA' o3 hD' hv hT
    subst hT
    repeat (first | refine g_px rfl rfl rfl ?_)
    exact g_iret hv rfl rfl rfl rfl ⟨rfl, i', _, _, na', nl', D', DA', hD', rfl⟩
  have no2 : ∀ (h : mj_H) (e : FP) (i' : Nat) (va' : Int32) (na' nl' D' : Nat → Nat) (DA' : Nat → Nat → Nat) (o3 : Option Value), okD D' DA' → mj_Vw h0 (wtp c n i' len (nI e.1) (nI e.2) (bl tdb) va' na' nl' b D' DA') h → T = mj_rx m_X6_readMan h0 (mj_ks (wtp c n i len fa pl (bl tdb) va na nl b D DA)) (pst c n b len fa pl (.inr e)) → mj_go sta (mj_Cl sta (d + 4)) m_X6_readMan T 154 [some (.ref 1), some (.ref b), some (.int (nI (D 1))), o3] [] h := by
    intro h e i' va' na' nl' D' DA' o3 hD' hv hT
    subst hT
    repeat (first | refine g_px rfl rfl rfl ?_)
    exact g_iret hv rfl rfl rfl rfl ⟨rfl, i', _, _, na', nl', D', DA', hD', rfl⟩
  have no3 : ∀ (h : mj_H) (e : FP) (i' : Nat) (va' : Int32) (na' nl' D' : Nat → Nat) (DA' : Nat → Nat → Nat) (o3 : Option Value), okD D' DA' → mj_Vw h0 (wtp c n i' len (nI e.1) (nI e.2) (bl tdb) va' na' nl' b D' DA') h → T = mj_rx m_X6_readMan h0 (mj_ks (wtp c n i len fa pl (bl tdb) va na nl b D DA)) (pst c n b len fa pl (.inr e)) → mj_go sta (mj_Cl sta (d + 4)) m_X6_readMan T 184 [some (.ref 1), some (.ref b), some (.int (nI (D 1))), o3] [] h := by
    intro h e i' va' na' nl' D' DA' o3 hD' hv hT
    subst hT
    repeat (first | refine g_px rfl rfl rfl ?_)
    exact g_iret hv rfl rfl rfl rfl ⟨rfl, i', _, _, na', nl', D', DA', hD', rfl⟩
  repeat (first | refine g_px rfl rfl rfl ?_ | refine g_get hv 4 rfl rfl rfl rfl ?_)
  refine g_ic rfl (fun cq => ?_) (fun cq => ?_)
  · simp (disch := omega) only [mj_cp, k_6, k_7, k_8, k_9, k_10, k_12, k_15, k_16, k_18, k_20, k_24, k_25, k_26, k_27, k_28, k_32, k_36, k_48, k_57, k_59, k_63, k_74, k_75, k_84, k_90, k_97, k_99, k_100, k_122, k_200, k_255, k_420, k_448, k_720, k_800, k_999, k_bit, k_shl, fa_and, nI_add, bl_1, bl_0, bl_n1, bl_n0, bl_i1, nI_lt0, nI_0le, nI_eq0, nI_eqT, nI_leI, nI_ltI, nI_eq, Nat.not_le, Nat.not_lt, Bool.not_eq_true, Bool.not_eq_false, not_true_eq_false, not_false_eq_true, Decidable.not_not] at cq
    rw [if_neg (by omega)] at hT
    repeat (first | refine g_px rfl rfl rfl ?_)
    refine g_callV hv [0, 1] 0 rfl rfl rfl rfl rfl rfl rfl rfl (by decide) (s_stepT sta (d + 1) c n i len fa pl (bl tdb) va hc hn hi) (fun v w' h hp hk2 hv => ?_)
    obtain ⟨rfl, rfl⟩ := hp
    have hv : mj_Vw h0 (wtp c n (nxt c n i) len fa pl (bl tdb) va na nl b D DA) h := hv
    have hl7 := lkd_le c n (nxt c n i)
    have hm6 : D 1 < 6 := by omega
    repeat (first | refine g_px rfl rfl rfl ?_)
    refine g_callV hv [0, 1] 0 rfl rfl rfl rfl rfl rfl rfl rfl (by decide) (s_lineKind sta (d + 1) c n (nxt c n i) len fa pl (bl tdb) va hc hn hx.2) (fun v w' h hp hk2 hv => ?_)
    obtain ⟨rfl, rfl⟩ := hp
    have hv : mj_Vw h0 (wtp c n (nxt c n i) len fa pl (bl tdb) va na nl b D DA) h := hv
    repeat (first | refine g_px rfl rfl rfl ?_)
    refine g_ic rfl (fun cq => ?_) (fun cq => ?_)
    · simp (disch := omega) only [mj_cp, k_6, k_7, k_8, k_9, k_10, k_12, k_15, k_16, k_18, k_20, k_24, k_25, k_26, k_27, k_28, k_32, k_36, k_48, k_57, k_59, k_63, k_74, k_75, k_84, k_90, k_97, k_99, k_100, k_122, k_200, k_255, k_420, k_448, k_720, k_800, k_999, k_bit, k_shl, fa_and, nI_add, bl_1, bl_0, bl_n1, bl_n0, bl_i1, nI_lt0, nI_0le, nI_eq0, nI_eqT, nI_leI, nI_ltI, nI_eq, Nat.not_le, Nat.not_lt, Bool.not_eq_true, Bool.not_eq_false, not_true_eq_false, not_false_eq_true, Decidable.not_not] at cq
      rw [if_neg (not_not_intro cq)] at hT
      have hk1 := knd_1 c n (lkd_1 c n (i := nxt c n i) (by omega))
      have hb1 := bhd_ge c n hx.2
      repeat (first | refine g_px rfl rfl rfl ?_)
      refine g_callV hv [0, 1, 2, 3, 4] 0 rfl rfl rfl rfl rfl rfl rfl rfl (by decide) (s_namedMan sta (d + 2) c n (nxt c n i) len fa pl (bl tdb) va na nl b D nm d1 hnm hc hn hx.2) (fun v w' h hp hk2 hv => ?_)
      obtain ⟨rfl, rfl⟩ := hp
      have hv : mj_Vw h0 (wtp c n (nxt c n i) len fa pl (bl tdb) va na nl b D DA) h := hv
      cases ef : fnd nm (wl c n (nxt c n i)) (D 1) with
      | some k =>
        have hkf := fnd_lt ef
        rw [ef] at hT
        refine g_if rfl (fun cq => absurd cq (nI_pos (by omega))) (fun cq => ?_)
        repeat (first | refine g_px rfl rfl rfl ?_)
        refine g_callV hv [0] 0 rfl rfl rfl rfl rfl rfl rfl rfl (by decide) (s_fail sta (d + 3) len fa pl (bl tdb) va _ _ _ _ _) (fun v w' h hp hk2 hv => ?_)
        obtain ⟨rfl, rfl⟩ := hp
        subst hT
        exact g_iret hv rfl rfl rfl rfl ⟨rfl, nxt c n i, _, _, na, nl, D, DA, hD, rfl⟩
      | none =>
        rw [ef] at hT
        rw [if_neg (by decide)] at hT
        refine g_if rfl (fun cq => ?_) (fun cq => absurd (cpT (by decide)) cq)
        repeat (first | refine g_px rfl rfl rfl ?_ | refine g_get hv 0 rfl rfl rfl rfl ?_)
        refine g_nst hv 2 hm6 rfl rfl (fun h hv => ?_)
        repeat (first | refine g_px rfl rfl rfl ?_ | refine g_get hv 0 rfl rfl rfl rfl ?_)
        rw [pk_sub hb1.1]
        refine g_nst hv 3 hm6 rfl rfl (fun h hv => ?_)
        have hv : mj_Vw h0 (wtp c n (nxt c n i) len fa pl (bl tdb) va (va_up na (D 1) (nxt c n i)) (va_up nl (D 1) (bhd c n (nxt c n i) - nxt c n i)) b D DA) h := hv
        have hx2 := nxt_ge c n hx.2
        have hx3 := nxt_ge c n hx2.2
        repeat (first | refine g_px rfl rfl rfl ?_)
        refine g_callV hv [0, 1] 0 rfl rfl rfl rfl rfl rfl rfl rfl (by decide) (s_stepT sta (d + 1) c n (nxt c n i) len fa pl (bl tdb) va hc hn hx.2) (fun v w' h hp hk2 hv => ?_)
        obtain ⟨rfl, rfl⟩ := hp
        have hv : mj_Vw h0 (wtp c n (nxt c n (nxt c n i)) len fa pl (bl tdb) va (va_up na (D 1) (nxt c n i)) (va_up nl (D 1) (bhd c n (nxt c n i) - nxt c n i)) b D DA) h := hv
        repeat (first | refine g_px rfl rfl rfl ?_)
        refine g_callV hv [0, 1] 0 rfl rfl rfl rfl rfl rfl rfl rfl (by decide) (s_namedSort sta (d + 1) c n (nxt c n (nxt c n i)) len fa pl (bl tdb) va hc hn hx2.2) (fun v w' h hp hk2 hv => ?_)
        obtain ⟨rfl, rfl⟩ := hp
        have hv : mj_Vw h0 (wtp c n (nxt c n (nxt c n i)) len fa pl (bl tdb) va (va_up na (D 1) (nxt c n i)) (va_up nl (D 1) (bhd c n (nxt c n i) - nxt c n i)) b D DA) h := hv
        cases es : srt c n (nxt c n (nxt c n i)) with
        | none =>
          rw [es] at hT
          repeat (first | refine g_px rfl rfl rfl ?_)
          refine g_if rfl (fun cq => absurd cq (cpF (by decide))) (fun cq => ?_)
          repeat (first | refine g_px rfl rfl rfl ?_)
          refine g_callV hv [0] 0 rfl rfl rfl rfl rfl rfl rfl rfl (by decide) (s_fail sta (d + 3) len fa pl (bl tdb) va _ _ _ _ _) (fun v w' h hp hk2 hv => ?_)
          obtain ⟨rfl, rfl⟩ := hp
          subst hT
          exact g_iret hv rfl rfl rfl rfl ⟨rfl, nxt c n (nxt c n i), _, _, (va_up na (D 1) (nxt c n i)), (va_up nl (D 1) (bhd c n (nxt c n i) - nxt c n i)), D, DA, hD, rfl⟩
        | some so =>
          have hso := (srt_lt c n es).1
          rw [es] at hT
          dsimp only at hT
          repeat (first | refine g_px rfl rfl rfl ?_)
          refine g_if rfl (fun cq => ?_) (fun cq => absurd (nI_pos' (n := so) (by omega)) cq)
          repeat (first | refine g_px rfl rfl rfl ?_ | refine g_get hv 4 rfl rfl rfl rfl ?_)
          refine g_nst (y := so) hv 5 hm6 rfl rfl (fun h hv => ?_)
          have hv : mj_Vw h0 (wtp c n (nxt c n (nxt c n i)) len fa pl (bl tdb) va (va_up na (D 1) (nxt c n i)) (va_up nl (D 1) (bhd c n (nxt c n i) - nxt c n i)) b D (va_up DA 0 (va_up (DA 0) (D 1) so))) h := hv
          repeat (first | refine g_px rfl rfl rfl ?_)
          refine g_callV hv [0, 1] 0 rfl rfl rfl rfl rfl rfl rfl rfl (by decide) (s_stepT sta (d + 1) c n (nxt c n (nxt c n i)) len fa pl (bl tdb) va hc hn hx2.2) (fun v w' h hp hk2 hv => ?_)
          obtain ⟨rfl, rfl⟩ := hp
          have hv : mj_Vw h0 (wtp c n (nxt c n (nxt c n (nxt c n i))) len fa pl (bl tdb) va (va_up na (D 1) (nxt c n i)) (va_up nl (D 1) (bhd c n (nxt c n i) - nxt c n i)) b D (va_up DA 0 (va_up (DA 0) (D 1) so))) h := hv
          have ok1 : okD D (va_up DA 0 (va_up (DA 0) (D 1) so)) := ⟨d0, d1, d3, d4, d5, d6, d7, d8, d2, up_bd a0 hso, a1, a2, a3, a4, a5⟩
          repeat (first | refine g_px rfl rfl rfl ?_)
          refine g_callV hv [0, 1] 0 rfl rfl rfl rfl rfl rfl rfl rfl (by decide) (s_passWord sta d c n (nxt c n (nxt c n (nxt c n i))) len fa pl (bl tdb) va 11 _ w_worth rfl rfl okw_8.2.2.2.2.2.2.2.2.2.2.2.1 (by decide) hc hn hx3.2) (fun v w' h hp hk2 hv => ?_)
          obtain hp := hp
          cases e2 : pW c n w_worth (nxt c n (nxt c n (nxt c n i))) with
          | inr e =>
            rw [e2] at hp hT
            obtain ⟨rfl, rfl⟩ := hp
            refine g_if rfl (fun cq => ?_) (fun cq => absurd rfl cq)
            exact no1 h e (nxt c n (nxt c n (nxt c n i))) va (va_up na (D 1) (nxt c n i)) (va_up nl (D 1) (bhd c n (nxt c n i) - nxt c n i)) D (va_up DA 0 (va_up (DA 0) (D 1) so)) _ ok1 hv hT.symm
          | inl j1 =>
            rw [e2] at hp hT
            obtain ⟨rfl, rfl⟩ := hp
            have hj1 := pW_le c n _ hx3.2 e2
            refine g_if rfl (fun cq => absurd cq (cpF (by decide))) (fun cq => ?_)
            have hv : mj_Vw h0 (wtp c n j1 len fa pl (bl tdb) va (va_up na (D 1) (nxt c n i)) (va_up nl (D 1) (bhd c n (nxt c n i) - nxt c n i)) b D (va_up DA 0 (va_up (DA 0) (D 1) so))) h := hv
            repeat (first | refine g_px rfl rfl rfl ?_)
            refine g_callV hv [0, 1] 0 rfl rfl rfl rfl rfl rfl rfl rfl (by decide) (s_passWhole sta d c n j1 len fa pl (bl tdb) va 99 (by decide) hc hn hj1) (fun v w' h hp hk2 hv => ?_)
            obtain hp := hp
            dsimp only at hT
            cases e3 : pN c n 99 j1 with
            | inr e =>
              rw [e3] at hp hT
              obtain ⟨rfl, rfl⟩ := hp
              refine g_if rfl (fun cq => absurd rfl cq) (fun cq => ?_)
              exact no1 h e j1 va (va_up na (D 1) (nxt c n i)) (va_up nl (D 1) (bhd c n (nxt c n i) - nxt c n i)) D (va_up DA 0 (va_up (DA 0) (D 1) so)) _ ok1 hv hT.symm
            | inl q1 =>
              rw [e3] at hp hT
              obtain ⟨rfl, rfl⟩ := hp
              have hq1 := pN_le c n j1 hj1 e3
              dsimp only at hT
              refine g_if rfl (fun cq => ?_) (fun cq => absurd (show ¬ bl true = 0 by decide) cq)
              have hv : mj_Vw h0 (wtp c n q1.2 len fa pl (bl tdb) (nI q1.1) (va_up na (D 1) (nxt c n i)) (va_up nl (D 1) (bhd c n (nxt c n i) - nxt c n i)) b D (va_up DA 0 (va_up (DA 0) (D 1) so))) h := hv
              repeat (first | refine g_px rfl rfl rfl ?_ | refine g_get hv 0 rfl rfl rfl rfl ?_ | refine g_get hv 4 rfl rfl rfl rfl ?_)
              refine g_nst hv 6 hm6 rfl rfl (fun h hv => ?_)
              have hv : mj_Vw h0 (wtp c n q1.2 len fa pl (bl tdb) (nI q1.1) (va_up na (D 1) (nxt c n i)) (va_up nl (D 1) (bhd c n (nxt c n i) - nxt c n i)) b D (va_up (va_up DA 0 (va_up (DA 0) (D 1) so)) 1 (va_up (DA 1) (D 1) q1.1))) h := hv
              have ok2 : okD D (va_up (va_up DA 0 (va_up (DA 0) (D 1) so)) 1 (va_up (DA 1) (D 1) q1.1)) := ⟨d0, d1, d3, d4, d5, d6, d7, d8, d2, up_bd a0 hso, up_bd a1 (by omega), a2, a3, a4, a5⟩
              repeat (first | refine g_px rfl rfl rfl ?_)
              refine g_callV hv [0, 1] 0 rfl rfl rfl rfl rfl rfl rfl rfl (by decide) (s_passWord sta d c n q1.2 len fa pl (bl tdb) (nI q1.1) 12 _ w_coins rfl rfl okw_8.2.2.2.2.2.2.2.2.2.2.2.2.1 (by decide) hc hn hq1.1) (fun v w' h hp hk2 hv => ?_)
              obtain hp := hp
              cases e4 : pW c n w_coins q1.2 with
              | inr e =>
                rw [e4] at hp hT
                obtain ⟨rfl, rfl⟩ := hp
                refine g_if rfl (fun cq => ?_) (fun cq => absurd rfl cq)
                exact no2 h e q1.2 (nI q1.1) (va_up na (D 1) (nxt c n i)) (va_up nl (D 1) (bhd c n (nxt c n i) - nxt c n i)) D (va_up (va_up DA 0 (va_up (DA 0) (D 1) so)) 1 (va_up (DA 1) (D 1) q1.1)) _ ok2 hv hT.symm
              | inl j2 =>
                rw [e4] at hp hT
                obtain ⟨rfl, rfl⟩ := hp
                have hj2 := pW_le c n _ hq1.1 e4
                refine g_if rfl (fun cq => absurd cq (cpF (by decide))) (fun cq => ?_)
                have hv : mj_Vw h0 (wtp c n j2 len fa pl (bl tdb) (nI q1.1) (va_up na (D 1) (nxt c n i)) (va_up nl (D 1) (bhd c n (nxt c n i) - nxt c n i)) b D (va_up (va_up DA 0 (va_up (DA 0) (D 1) so)) 1 (va_up (DA 1) (D 1) q1.1))) h := hv
                repeat (first | refine g_px rfl rfl rfl ?_)
                refine g_callV hv [0, 1] 0 rfl rfl rfl rfl rfl rfl rfl rfl (by decide) (s_passWhole sta d c n j2 len fa pl (bl tdb) (nI q1.1) 200 (by decide) hc hn hj2) (fun v w' h hp hk2 hv => ?_)
                obtain hp := hp
                dsimp only at hT
                cases e5 : pN c n 200 j2 with
                | inr e =>
                  rw [e5] at hp hT
                  obtain ⟨rfl, rfl⟩ := hp
                  refine g_if rfl (fun cq => absurd rfl cq) (fun cq => ?_)
                  exact no2 h e j2 (nI q1.1) (va_up na (D 1) (nxt c n i)) (va_up nl (D 1) (bhd c n (nxt c n i) - nxt c n i)) D (va_up (va_up DA 0 (va_up (DA 0) (D 1) so)) 1 (va_up (DA 1) (D 1) q1.1)) _ ok2 hv hT.symm
                | inl q2 =>
                  rw [e5] at hp hT
                  obtain ⟨rfl, rfl⟩ := hp
                  have hq2 := pN_le c n j2 hj2 e5
                  dsimp only at hT
                  refine g_if rfl (fun cq => ?_) (fun cq => absurd (show ¬ bl true = 0 by decide) cq)
                  have hv : mj_Vw h0 (wtp c n q2.2 len fa pl (bl tdb) (nI q2.1) (va_up na (D 1) (nxt c n i)) (va_up nl (D 1) (bhd c n (nxt c n i) - nxt c n i)) b D (va_up (va_up DA 0 (va_up (DA 0) (D 1) so)) 1 (va_up (DA 1) (D 1) q1.1))) h := hv
                  repeat (first | refine g_px rfl rfl rfl ?_ | refine g_get hv 0 rfl rfl rfl rfl ?_ | refine g_get hv 4 rfl rfl rfl rfl ?_)
                  refine g_nst hv 7 hm6 rfl rfl (fun h hv => ?_)
                  have hv : mj_Vw h0 (wtp c n q2.2 len fa pl (bl tdb) (nI q2.1) (va_up na (D 1) (nxt c n i)) (va_up nl (D 1) (bhd c n (nxt c n i) - nxt c n i)) b D (va_up (va_up (va_up DA 0 (va_up (DA 0) (D 1) so)) 1 (va_up (DA 1) (D 1) q1.1)) 2 (va_up (DA 2) (D 1) q2.1))) h := hv
                  have ok3 : okD D (va_up (va_up (va_up DA 0 (va_up (DA 0) (D 1) so)) 1 (va_up (DA 1) (D 1) q1.1)) 2 (va_up (DA 2) (D 1) q2.1)) := ⟨d0, d1, d3, d4, d5, d6, d7, d8, d2, up_bd a0 hso, up_bd a1 (by omega), up_bd a2 (by omega), a3, a4, a5⟩
                  repeat (first | refine g_px rfl rfl rfl ?_)
                  refine g_callV hv [0, 1] 0 rfl rfl rfl rfl rfl rfl rfl rfl (by decide) (s_passWord sta d c n q2.2 len fa pl (bl tdb) (nI q2.1) 13 _ w_asks rfl rfl okw_8.2.2.2.2.2.2.2.2.2.2.2.2.2.1 (by decide) hc hn hq2.1) (fun v w' h hp hk2 hv => ?_)
                  obtain hp := hp
                  cases e6 : pW c n w_asks q2.2 with
                  | inr e =>
                    rw [e6] at hp hT
                    obtain ⟨rfl, rfl⟩ := hp
                    refine g_if rfl (fun cq => ?_) (fun cq => absurd rfl cq)
                    exact no3 h e q2.2 (nI q2.1) (va_up na (D 1) (nxt c n i)) (va_up nl (D 1) (bhd c n (nxt c n i) - nxt c n i)) D (va_up (va_up (va_up DA 0 (va_up (DA 0) (D 1) so)) 1 (va_up (DA 1) (D 1) q1.1)) 2 (va_up (DA 2) (D 1) q2.1)) _ ok3 hv hT.symm
                  | inl j3 =>
                    rw [e6] at hp hT
                    obtain ⟨rfl, rfl⟩ := hp
                    have hj3 := pW_le c n _ hq2.1 e6
                    refine g_if rfl (fun cq => absurd cq (cpF (by decide))) (fun cq => ?_)
                    have hv : mj_Vw h0 (wtp c n j3 len fa pl (bl tdb) (nI q2.1) (va_up na (D 1) (nxt c n i)) (va_up nl (D 1) (bhd c n (nxt c n i) - nxt c n i)) b D (va_up (va_up (va_up DA 0 (va_up (DA 0) (D 1) so)) 1 (va_up (DA 1) (D 1) q1.1)) 2 (va_up (DA 2) (D 1) q2.1))) h := hv
                    repeat (first | refine g_px rfl rfl rfl ?_)
                    refine g_callV hv [0, 1] 0 rfl rfl rfl rfl rfl rfl rfl rfl (by decide) (s_passWhole sta d c n j3 len fa pl (bl tdb) (nI q2.1) 99 (by decide) hc hn hj3) (fun v w' h hp hk2 hv => ?_)
                    obtain hp := hp
                    dsimp only at hT
                    cases e7 : pN c n 99 j3 with
                    | inr e =>
                      rw [e7] at hp hT
                      obtain ⟨rfl, rfl⟩ := hp
                      refine g_if rfl (fun cq => absurd rfl cq) (fun cq => ?_)
                      exact no3 h e j3 (nI q2.1) (va_up na (D 1) (nxt c n i)) (va_up nl (D 1) (bhd c n (nxt c n i) - nxt c n i)) D (va_up (va_up (va_up DA 0 (va_up (DA 0) (D 1) so)) 1 (va_up (DA 1) (D 1) q1.1)) 2 (va_up (DA 2) (D 1) q2.1)) _ ok3 hv hT.symm
                    | inl q3 =>
                      rw [e7] at hp hT
                      obtain ⟨rfl, rfl⟩ := hp
                      have hq3 := pN_le c n j3 hj3 e7
                      dsimp only at hT
                      refine g_if rfl (fun cq => ?_) (fun cq => absurd (show ¬ bl true = 0 by decide) cq)
                      have hv : mj_Vw h0 (wtp c n q3.2 len fa pl (bl tdb) (nI q3.1) (va_up na (D 1) (nxt c n i)) (va_up nl (D 1) (bhd c n (nxt c n i) - nxt c n i)) b D (va_up (va_up (va_up DA 0 (va_up (DA 0) (D 1) so)) 1 (va_up (DA 1) (D 1) q1.1)) 2 (va_up (DA 2) (D 1) q2.1))) h := hv
                      repeat (first | refine g_px rfl rfl rfl ?_ | refine g_get hv 0 rfl rfl rfl rfl ?_ | refine g_get hv 4 rfl rfl rfl rfl ?_)
                      refine g_nst hv 8 hm6 rfl rfl (fun h hv => ?_)
                      have hv : mj_Vw h0 (wtp c n q3.2 len fa pl (bl tdb) (nI q3.1) (va_up na (D 1) (nxt c n i)) (va_up nl (D 1) (bhd c n (nxt c n i) - nxt c n i)) b D (va_up (va_up (va_up (va_up DA 0 (va_up (DA 0) (D 1) so)) 1 (va_up (DA 1) (D 1) q1.1)) 2 (va_up (DA 2) (D 1) q2.1)) 3 (va_up (DA 3) (D 1) q3.1))) h := hv
                      repeat (first | refine g_px rfl rfl rfl ?_ | refine g_get hv 4 rfl rfl rfl rfl ?_)
                      rw [show nI (D 1) + Int32.ofInt 1 = nI (D 1 + 1) from (nI_succ _).symm]
                      refine g_put hv 4 rfl rfl rfl rfl rfl rfl (fun h hv => ?_)
                      repeat (first | refine g_px rfl rfl rfl ?_)
                      subst hT
                      refine g_iret hv rfl rfl rfl rfl ⟨rfl, hq3.1, ⟨d0, hm6, d3, d4, d5, d6, d7, d8, d2, up_bd a0 hso, up_bd a1 (by omega), up_bd a2 (by omega), up_bd a3 (by omega), a4, a5⟩, nI q3.1, (va_up na (D 1) (nxt c n i)), (va_up nl (D 1) (bhd c n (nxt c n i) - nxt c n i)), ?_, rfl⟩
                      exact nmR_up hnm hb1 hk1.2.2.2.1
    · simp (disch := omega) only [mj_cp, k_6, k_7, k_8, k_9, k_10, k_12, k_15, k_16, k_18, k_20, k_24, k_25, k_26, k_27, k_28, k_32, k_36, k_48, k_57, k_59, k_63, k_74, k_75, k_84, k_90, k_97, k_99, k_100, k_122, k_200, k_255, k_420, k_448, k_720, k_800, k_999, k_bit, k_shl, fa_and, nI_add, bl_1, bl_0, bl_n1, bl_n0, bl_i1, nI_lt0, nI_0le, nI_eq0, nI_eqT, nI_leI, nI_ltI, nI_eq, Nat.not_le, Nat.not_lt, Bool.not_eq_true, Bool.not_eq_false, not_true_eq_false, not_false_eq_true, Decidable.not_not] at cq
      rw [if_pos cq] at hT
      repeat (first | refine g_px rfl rfl rfl ?_)
      refine g_callV hv [0] 0 rfl rfl rfl rfl rfl rfl rfl rfl (by decide) (s_fail sta (d + 3) len fa pl (bl tdb) va _ _ _ _ _) (fun v w' h hp hk2 hv => ?_)
      obtain ⟨rfl, rfl⟩ := hp
      subst hT
      exact g_iret hv rfl rfl rfl rfl ⟨rfl, nxt c n i, _, _, na, nl, D, DA, hD, rfl⟩
  · simp (disch := omega) only [mj_cp, k_6, k_7, k_8, k_9, k_10, k_12, k_15, k_16, k_18, k_20, k_24, k_25, k_26, k_27, k_28, k_32, k_36, k_48, k_57, k_59, k_63, k_74, k_75, k_84, k_90, k_97, k_99, k_100, k_122, k_200, k_255, k_420, k_448, k_720, k_800, k_999, k_bit, k_shl, fa_and, nI_add, bl_1, bl_0, bl_n1, bl_n0, bl_i1, nI_lt0, nI_0le, nI_eq0, nI_eqT, nI_leI, nI_ltI, nI_eq, Nat.not_le, Nat.not_lt, Bool.not_eq_true, Bool.not_eq_false, not_true_eq_false, not_false_eq_true, Decidable.not_not] at cq
    rw [if_pos (by omega)] at hT
    repeat (first | refine g_px rfl rfl rfl ?_)
    refine g_callV hv [0] 0 rfl rfl rfl rfl rfl rfl rfl rfl (by decide) (s_fail sta (d + 3) len fa pl (bl tdb) va _ _ _ _ _) (fun v w' h hp hk2 hv => ?_)
    obtain ⟨rfl, rfl⟩ := hp
    subst hT
    exact g_iret hv rfl rfl rfl rfl ⟨rfl, i, _, _, na, nl, D, DA, hD, rfl⟩
theorem s_readDoctor (tdb : Bool) (nm : Nat → List Nat) (hD : okD D DA) (hnm : nmR c n na nl nm (D 1)) (hc : bd 256 c) (hn : n ≤ 800) (hi : i ≤ n) : mj_Sx sta (d + 5) 50 [.ref 1, .ref b] (wtp c n i len fa pl (bl tdb) va na nl b D DA) (pst c n b len fa pl (lDoctor c n (i, tdb, D, DA, nm))) := by
  refine mj_Sx.mk m_X6_readDoctor (by decide) n_X6_readDoctor rfl (fun h0 hv => ?_)
  generalize hT : mj_rx m_X6_readDoctor h0 _ _ = T
  have hx := nxt_ge c n hi
  have hD2 := hD
  obtain ⟨d0, d1, d3, d4, d5, d6, d7, d8, d2, a0, a1, a2, a3, a4, a5⟩ := hD2
  unfold lDoctor pP at hT
  dsimp only at hT
  have no1 : ∀ (h : mj_H) (e : FP) (i' : Nat) (va' : Int32) (na' nl' D' : Nat → Nat) (DA' : Nat → Nat → Nat), okD D' DA' → mj_Vw h0 (wtp c n i' len (nI e.1) (nI e.2) (bl tdb) va' na' nl' b D' DA') h → T = mj_rx m_X6_readDoctor h0 (mj_ks (wtp c n i len fa pl (bl tdb) va na nl b D DA)) (pst c n b len fa pl (.inr e)) → mj_go sta (mj_Cl sta (d + 4)) m_X6_readDoctor T 40 [some (.ref 1), some (.ref b)] [] h := by
    intro h e i' va' na' nl' D' DA' hD' hv hT
    subst hT
    repeat (first | refine g_px rfl rfl rfl ?_)
    exact g_iret hv rfl rfl rfl rfl ⟨rfl, i', _, _, na', nl', D', DA', hD', rfl⟩
  have no2 : ∀ (h : mj_H) (e : FP) (i' : Nat) (va' : Int32) (na' nl' D' : Nat → Nat) (DA' : Nat → Nat → Nat), okD D' DA' → mj_Vw h0 (wtp c n i' len (nI e.1) (nI e.2) (bl tdb) va' na' nl' b D' DA') h → T = mj_rx m_X6_readDoctor h0 (mj_ks (wtp c n i len fa pl (bl tdb) va na nl b D DA)) (pst c n b len fa pl (.inr e)) → mj_go sta (mj_Cl sta (d + 4)) m_X6_readDoctor T 68 [some (.ref 1), some (.ref b)] [] h := by
    intro h e i' va' na' nl' D' DA' hD' hv hT
    subst hT
    repeat (first | refine g_px rfl rfl rfl ?_)
    exact g_iret hv rfl rfl rfl rfl ⟨rfl, i', _, _, na', nl', D', DA', hD', rfl⟩
  have no3 : ∀ (h : mj_H) (e : FP) (i' : Nat) (va' : Int32) (na' nl' D' : Nat → Nat) (DA' : Nat → Nat → Nat), okD D' DA' → mj_Vw h0 (wtp c n i' len (nI e.1) (nI e.2) (bl tdb) va' na' nl' b D' DA') h → T = mj_rx m_X6_readDoctor h0 (mj_ks (wtp c n i len fa pl (bl tdb) va na nl b D DA)) (pst c n b len fa pl (.inr e)) → mj_go sta (mj_Cl sta (d + 4)) m_X6_readDoctor T 96 [some (.ref 1), some (.ref b)] [] h := by
    intro h e i' va' na' nl' D' DA' hD' hv hT
    subst hT
    repeat (first | refine g_px rfl rfl rfl ?_)
    exact g_iret hv rfl rfl rfl rfl ⟨rfl, i', _, _, na', nl', D', DA', hD', rfl⟩
  repeat (first | refine g_px rfl rfl rfl ?_ | refine g_get hv 4 rfl rfl rfl rfl ?_)
  refine g_if rfl (fun cq => ?_) (fun cq => ?_)
  · have cq : nI (D 4) = 0 := cq
    rw [nI_eq0 (by omega)] at cq
    rw [if_neg (not_not_intro cq)] at hT
    repeat (first | refine g_px rfl rfl rfl ?_)
    refine g_put hv 4 rfl rfl rfl rfl rfl rfl (fun h hv => ?_)
    have hv : mj_Vw h0 (wtp c n i len fa pl (bl tdb) va na nl b (va_up D 4 1) DA) h := hv
    repeat (first | refine g_px rfl rfl rfl ?_)
    refine g_callV hv [0, 1] 0 rfl rfl rfl rfl rfl rfl rfl rfl (by decide) (s_stepT sta (d + 1) c n i len fa pl (bl tdb) va hc hn hi) (fun v w' h hp hk2 hv => ?_)
    obtain ⟨rfl, rfl⟩ := hp
    have hv : mj_Vw h0 (wtp c n (nxt c n i) len fa pl (bl tdb) va na nl b (va_up D 4 1) DA) h := hv
    have ok1 : okD (va_up D 4 1) DA := ⟨d0, d1, d3, Nat.le_refl 1, d5, d6, d7, d8, d2, a0, a1, a2, a3, a4, a5⟩
    repeat (first | refine g_px rfl rfl rfl ?_)
    refine g_callV hv [0, 1] 0 rfl rfl rfl rfl rfl rfl rfl rfl (by decide) (s_passWord sta d c n (nxt c n i) len fa pl (bl tdb) va 14 _ w_hits rfl rfl okw_8.2.2.2.2.2.2.2.2.2.2.2.2.2.2.1 (by decide) hc hn hx.2) (fun v w' h hp hk2 hv => ?_)
    obtain hp := hp
    cases e2 : pW c n w_hits (nxt c n i) with
    | inr e =>
      rw [e2] at hp hT
      obtain ⟨rfl, rfl⟩ := hp
      refine g_if rfl (fun cq => ?_) (fun cq => absurd rfl cq)
      exact no1 h e (nxt c n i) va na nl (va_up D 4 1) DA ok1 hv hT.symm
    | inl j1 =>
      rw [e2] at hp hT
      obtain ⟨rfl, rfl⟩ := hp
      have hj1 := pW_le c n _ hx.2 e2
      refine g_if rfl (fun cq => absurd cq (cpF (by decide))) (fun cq => ?_)
      have hv : mj_Vw h0 (wtp c n j1 len fa pl (bl tdb) va na nl b (va_up D 4 1) DA) h := hv
      repeat (first | refine g_px rfl rfl rfl ?_)
      refine g_callV hv [0, 1] 0 rfl rfl rfl rfl rfl rfl rfl rfl (by decide) (s_passWhole sta d c n j1 len fa pl (bl tdb) va 100 (by decide) hc hn hj1) (fun v w' h hp hk2 hv => ?_)
      obtain hp := hp
      dsimp only at hT
      cases e3 : pN c n 100 j1 with
      | inr e =>
        rw [e3] at hp hT
        obtain ⟨rfl, rfl⟩ := hp
        refine g_if rfl (fun cq => absurd rfl cq) (fun cq => ?_)
        exact no1 h e j1 va na nl (va_up D 4 1) DA ok1 hv hT.symm
      | inl q1 =>
        rw [e3] at hp hT
        obtain ⟨rfl, rfl⟩ := hp
        have hq1 := pN_le c n j1 hj1 e3
        dsimp only at hT
        refine g_if rfl (fun cq => ?_) (fun cq => absurd (show ¬ bl true = 0 by decide) cq)
        have hv : mj_Vw h0 (wtp c n q1.2 len fa pl (bl tdb) (nI q1.1) na nl b (va_up D 4 1) DA) h := hv
        repeat (first | refine g_px rfl rfl rfl ?_ | refine g_get hv 0 rfl rfl rfl rfl ?_)
        refine g_put hv 4 rfl rfl rfl rfl rfl rfl (fun h hv => ?_)
        have hv : mj_Vw h0 (wtp c n q1.2 len fa pl (bl tdb) (nI q1.1) na nl b (va_up (va_up D 4 1) 5 q1.1) DA) h := hv
        have ok2 : okD (va_up (va_up D 4 1) 5 q1.1) DA := ⟨d0, d1, d3, Nat.le_refl 1, hq1.2, d6, d7, d8, d2, a0, a1, a2, a3, a4, a5⟩
        repeat (first | refine g_px rfl rfl rfl ?_)
        refine g_callV hv [0, 1] 0 rfl rfl rfl rfl rfl rfl rfl rfl (by decide) (s_passWord sta d c n q1.2 len fa pl (bl tdb) (nI q1.1) 15 _ w_errs rfl rfl okw_8.2.2.2.2.2.2.2.2.2.2.2.2.2.2.2.1 (by decide) hc hn hq1.1) (fun v w' h hp hk2 hv => ?_)
        obtain hp := hp
        cases e4 : pW c n w_errs q1.2 with
        | inr e =>
          rw [e4] at hp hT
          obtain ⟨rfl, rfl⟩ := hp
          refine g_if rfl (fun cq => ?_) (fun cq => absurd rfl cq)
          exact no2 h e q1.2 (nI q1.1) na nl (va_up (va_up D 4 1) 5 q1.1) DA ok2 hv hT.symm
        | inl j2 =>
          rw [e4] at hp hT
          obtain ⟨rfl, rfl⟩ := hp
          have hj2 := pW_le c n _ hq1.1 e4
          refine g_if rfl (fun cq => absurd cq (cpF (by decide))) (fun cq => ?_)
          have hv : mj_Vw h0 (wtp c n j2 len fa pl (bl tdb) (nI q1.1) na nl b (va_up (va_up D 4 1) 5 q1.1) DA) h := hv
          repeat (first | refine g_px rfl rfl rfl ?_)
          refine g_callV hv [0, 1] 0 rfl rfl rfl rfl rfl rfl rfl rfl (by decide) (s_passWhole sta d c n j2 len fa pl (bl tdb) (nI q1.1) 100 (by decide) hc hn hj2) (fun v w' h hp hk2 hv => ?_)
          obtain hp := hp
          dsimp only at hT
          cases e5 : pN c n 100 j2 with
          | inr e =>
            rw [e5] at hp hT
            obtain ⟨rfl, rfl⟩ := hp
            refine g_if rfl (fun cq => absurd rfl cq) (fun cq => ?_)
            exact no2 h e j2 (nI q1.1) na nl (va_up (va_up D 4 1) 5 q1.1) DA ok2 hv hT.symm
          | inl q2 =>
            rw [e5] at hp hT
            obtain ⟨rfl, rfl⟩ := hp
            have hq2 := pN_le c n j2 hj2 e5
            dsimp only at hT
            refine g_if rfl (fun cq => ?_) (fun cq => absurd (show ¬ bl true = 0 by decide) cq)
            have hv : mj_Vw h0 (wtp c n q2.2 len fa pl (bl tdb) (nI q2.1) na nl b (va_up (va_up D 4 1) 5 q1.1) DA) h := hv
            repeat (first | refine g_px rfl rfl rfl ?_ | refine g_get hv 0 rfl rfl rfl rfl ?_)
            refine g_put hv 4 rfl rfl rfl rfl rfl rfl (fun h hv => ?_)
            have hv : mj_Vw h0 (wtp c n q2.2 len fa pl (bl tdb) (nI q2.1) na nl b (va_up (va_up (va_up D 4 1) 5 q1.1) 6 q2.1) DA) h := hv
            have ok3 : okD (va_up (va_up (va_up D 4 1) 5 q1.1) 6 q2.1) DA := ⟨d0, d1, d3, Nat.le_refl 1, hq1.2, hq2.2, d7, d8, d2, a0, a1, a2, a3, a4, a5⟩
            repeat (first | refine g_px rfl rfl rfl ?_)
            refine g_callV hv [0, 1] 0 rfl rfl rfl rfl rfl rfl rfl rfl (by decide) (s_passWord sta d c n q2.2 len fa pl (bl tdb) (nI q2.1) 16 _ w_share rfl rfl okw_8.2.2.2.2.2.2.2.2.2.2.2.2.2.2.2.2 (by decide) hc hn hq2.1) (fun v w' h hp hk2 hv => ?_)
            obtain hp := hp
            cases e6 : pW c n w_share q2.2 with
            | inr e =>
              rw [e6] at hp hT
              obtain ⟨rfl, rfl⟩ := hp
              refine g_if rfl (fun cq => ?_) (fun cq => absurd rfl cq)
              exact no3 h e q2.2 (nI q2.1) na nl (va_up (va_up (va_up D 4 1) 5 q1.1) 6 q2.1) DA ok3 hv hT.symm
            | inl j3 =>
              rw [e6] at hp hT
              obtain ⟨rfl, rfl⟩ := hp
              have hj3 := pW_le c n _ hq2.1 e6
              refine g_if rfl (fun cq => absurd cq (cpF (by decide))) (fun cq => ?_)
              have hv : mj_Vw h0 (wtp c n j3 len fa pl (bl tdb) (nI q2.1) na nl b (va_up (va_up (va_up D 4 1) 5 q1.1) 6 q2.1) DA) h := hv
              repeat (first | refine g_px rfl rfl rfl ?_)
              refine g_callV hv [0, 1] 0 rfl rfl rfl rfl rfl rfl rfl rfl (by decide) (s_passWhole sta d c n j3 len fa pl (bl tdb) (nI q2.1) 100 (by decide) hc hn hj3) (fun v w' h hp hk2 hv => ?_)
              obtain hp := hp
              dsimp only at hT
              cases e7 : pN c n 100 j3 with
              | inr e =>
                rw [e7] at hp hT
                obtain ⟨rfl, rfl⟩ := hp
                refine g_if rfl (fun cq => absurd rfl cq) (fun cq => ?_)
                exact no3 h e j3 (nI q2.1) na nl (va_up (va_up (va_up D 4 1) 5 q1.1) 6 q2.1) DA ok3 hv hT.symm
              | inl q3 =>
                rw [e7] at hp hT
                obtain ⟨rfl, rfl⟩ := hp
                have hq3 := pN_le c n j3 hj3 e7
                dsimp only at hT
                refine g_if rfl (fun cq => ?_) (fun cq => absurd (show ¬ bl true = 0 by decide) cq)
                have hv : mj_Vw h0 (wtp c n q3.2 len fa pl (bl tdb) (nI q3.1) na nl b (va_up (va_up (va_up D 4 1) 5 q1.1) 6 q2.1) DA) h := hv
                repeat (first | refine g_px rfl rfl rfl ?_ | refine g_get hv 0 rfl rfl rfl rfl ?_)
                refine g_put hv 4 rfl rfl rfl rfl rfl rfl (fun h hv => ?_)
                repeat (first | refine g_px rfl rfl rfl ?_)
                subst hT
                exact g_iret hv rfl rfl rfl rfl ⟨rfl, hq3.1, ⟨d0, d1, d3, Nat.le_refl 1, hq1.2, hq2.2, hq3.2, d8, d2, a0, a1, a2, a3, a4, a5⟩, nI q3.1, na, nl, hnm, rfl⟩
  · have cq : ¬ nI (D 4) = 0 := cq
    rw [nI_eq0 (by omega)] at cq
    rw [if_pos cq] at hT
    repeat (first | refine g_px rfl rfl rfl ?_)
    refine g_callV hv [0] 0 rfl rfl rfl rfl rfl rfl rfl rfl (by decide) (s_fail sta (d + 3) len fa pl (bl tdb) va _ _ _ _ _) (fun v w' h hp hk2 hv => ?_)
    obtain ⟨rfl, rfl⟩ := hp
    subst hT
    exact g_iret hv rfl rfl rfl rfl ⟨rfl, i, _, _, na, nl, D, DA, hD, rfl⟩
theorem s_readSpares (tdb : Bool) (nm : Nat → List Nat) (hD : okD D DA) (hnm : nmR c n na nl nm (D 1)) (hc : bd 256 c) (hn : n ≤ 800) (hi : i ≤ n) : mj_Sx sta (d + 5) 49 [.ref 1, .ref b] (wtp c n i len fa pl (bl tdb) va na nl b D DA) (pst c n b len fa pl (lSpares c n (i, tdb, D, DA, nm))) := by
  refine mj_Sx.mk m_X6_readSpares (by decide) n_X6_readSpares rfl (fun h0 hv => ?_)
  generalize hT : mj_rx m_X6_readSpares h0 _ _ = T
  have hx := nxt_ge c n hi
  have hD2 := hD
  obtain ⟨d0, d1, d3, d4, d5, d6, d7, d8, d2, a0, a1, a2, a3, a4, a5⟩ := hD2
  unfold lSpares at hT
  dsimp only at hT
  have hx2 := nxt_ge c n hx.2
  repeat (first | refine g_px rfl rfl rfl ?_)
  refine g_callV hv [0, 1] 0 rfl rfl rfl rfl rfl rfl rfl rfl (by decide) (s_stepT sta (d + 1) c n i len fa pl (bl tdb) va hc hn hi) (fun v w' h hp hk2 hv => ?_)
  obtain ⟨rfl, rfl⟩ := hp
  have hv : mj_Vw h0 (wtp c n (nxt c n i) len fa pl (bl tdb) va na nl b D DA) h := hv
  repeat (first | refine g_px rfl rfl rfl ?_)
  refine g_callV hv [0, 1] 0 rfl rfl rfl rfl rfl rfl rfl rfl (by decide) (s_namedSort sta (d + 1) c n (nxt c n i) len fa pl (bl tdb) va hc hn hx.2) (fun v w' h hp hk2 hv => ?_)
  obtain ⟨rfl, rfl⟩ := hp
  have hv : mj_Vw h0 (wtp c n (nxt c n i) len fa pl (bl tdb) va na nl b D DA) h := hv
  cases es : srt c n (nxt c n i) with
  | none =>
    rw [es] at hT
    repeat (first | refine g_px rfl rfl rfl ?_)
    refine g_if rfl (fun cq => absurd cq (cpF (by decide))) (fun cq => ?_)
    repeat (first | refine g_px rfl rfl rfl ?_)
    refine g_callV hv [0] 0 rfl rfl rfl rfl rfl rfl rfl rfl (by decide) (s_fail sta (d + 3) len fa pl (bl tdb) va _ _ _ _ _) (fun v w' h hp hk2 hv => ?_)
    obtain ⟨rfl, rfl⟩ := hp
    subst hT
    exact g_iret hv rfl rfl rfl rfl ⟨rfl, nxt c n i, _, _, na, nl, D, DA, hD, rfl⟩
  | some so =>
    have hso := (srt_lt c n es).1
    rw [es] at hT
    dsimp only at hT
    repeat (first | refine g_px rfl rfl rfl ?_)
    refine g_if rfl (fun cq => ?_) (fun cq => absurd (nI_pos' (n := so) (by omega)) cq)
    repeat (first | refine g_px rfl rfl rfl ?_ | refine g_get hv 4 rfl rfl rfl rfl ?_)
    rw [show snd (some so) = nI so from rfl, k_bit (show D 3 < 2 ^ 31 by omega) (show so < 32 by omega)]
    refine g_ic rfl (fun cq => ?_) (fun cq => ?_)
    · simp (disch := omega) only [mj_cp, k_6, k_7, k_8, k_9, k_10, k_12, k_15, k_16, k_18, k_20, k_24, k_25, k_26, k_27, k_28, k_32, k_36, k_48, k_57, k_59, k_63, k_74, k_75, k_84, k_90, k_97, k_99, k_100, k_122, k_200, k_255, k_420, k_448, k_720, k_800, k_999, k_bit, k_shl, fa_and, nI_add, bl_1, bl_0, bl_n1, bl_n0, bl_i1, nI_lt0, nI_0le, nI_eq0, nI_eqT, nI_leI, nI_ltI, nI_eq, Nat.not_le, Nat.not_lt, Bool.not_eq_true, Bool.not_eq_false, not_true_eq_false, not_false_eq_true, Decidable.not_not] at cq
      rw [cq, if_neg (by decide)] at hT
      repeat (first | refine g_px rfl rfl rfl ?_ | refine g_get hv 4 rfl rfl rfl rfl ?_)
      rw [k_shl (show so < 31 by omega), fa_or]
      refine g_put hv 4 rfl rfl rfl rfl rfl rfl (fun h hv => ?_)
      have hv : mj_Vw h0 (wtp c n (nxt c n i) len fa pl (bl tdb) va na nl b (va_up D 3 (D 3 ||| 2 ^ so)) DA) h := hv
      repeat (first | refine g_px rfl rfl rfl ?_)
      refine g_callV hv [0, 1] 0 rfl rfl rfl rfl rfl rfl rfl rfl (by decide) (s_stepT sta (d + 1) c n (nxt c n i) len fa pl (bl tdb) va hc hn hx.2) (fun v w' h hp hk2 hv => ?_)
      obtain ⟨rfl, rfl⟩ := hp
      repeat (first | refine g_px rfl rfl rfl ?_)
      subst hT
      exact g_iret hv rfl rfl rfl rfl ⟨rfl, hx2.2, ⟨d0, d1, Nat.or_lt_two_pow (n := 4) d3 (Nat.pow_lt_pow_right (by decide) hso), d4, d5, d6, d7, d8, d2, a0, a1, a2, a3, a4, a5⟩, va, na, nl, hnm, rfl⟩
    · simp (disch := omega) only [mj_cp, k_6, k_7, k_8, k_9, k_10, k_12, k_15, k_16, k_18, k_20, k_24, k_25, k_26, k_27, k_28, k_32, k_36, k_48, k_57, k_59, k_63, k_74, k_75, k_84, k_90, k_97, k_99, k_100, k_122, k_200, k_255, k_420, k_448, k_720, k_800, k_999, k_bit, k_shl, fa_and, nI_add, bl_1, bl_0, bl_n1, bl_n0, bl_i1, nI_lt0, nI_0le, nI_eq0, nI_eqT, nI_leI, nI_ltI, nI_eq, Nat.not_le, Nat.not_lt, Bool.not_eq_true, Bool.not_eq_false, not_true_eq_false, not_false_eq_true, Decidable.not_not] at cq
      rw [if_pos cq] at hT
      repeat (first | refine g_px rfl rfl rfl ?_)
      refine g_callV hv [0] 0 rfl rfl rfl rfl rfl rfl rfl rfl (by decide) (s_fail sta (d + 3) len fa pl (bl tdb) va _ _ _ _ _) (fun v w' h hp hk2 hv => ?_)
      obtain ⟨rfl, rfl⟩ := hp
      subst hT
      exact g_iret hv rfl rfl rfl rfl ⟨rfl, nxt c n i, _, _, na, nl, D, DA, hD, rfl⟩
end Ln
