/-! the reference: names, sorts, how lines begin -/
theorem alw_8 : alw w_draft ∧ alw w_man ∧ alw w_kin ∧ alw w_spares ∧ alw w_doctor ∧ alw w_went ∧ alw w_takes ∧ alw w_plain ∧ alw w_married ∧ alw w_short ∧ alw w_lame ∧ alw w_worth ∧ alw w_coins ∧ alw w_asks ∧ alw w_hits ∧ alw w_errs ∧ alw w_share := by
  unfold alw
  decide
abbrev mdg (q : Nat) (tk : Int32) (D : Nat → Nat) (hi er se : Int32) : Nat × va_E := (q, .inr (9, [.int tk, .int (nI (D 1)), .int (nI (D 2)), .int (nI (D 8)), .int (nI (D 3)), .int hi, .int er, .int se, .ref (q + 1), .ref (q + 2), .ref (q + 3), .ref (q + 4), .ref (q + 5), .ref (q + 6), .ref (q + 7)]))
def fdI (o : Option Nat) : Int32 := match o with
  | none => -1
  | some k => nI k
theorem fdI_1 {o : Option Nat} (h : ∀ q, o = some q → q < 1000) : (fdI o = -1 ↔ o = none) := by
  cases o with
  | none => exact ⟨fun _ => rfl, fun _ => rfl⟩
  | some q =>
    have := h q rfl
    refine ⟨fun e => ?_, fun e => by cases e⟩
    have h1 : (nI q).toInt = (-1 : Int32).toInt := by rw [show nI q = -1 from e]
    rw [nI_toInt (by omega), show (-1 : Int32).toInt = -1 by decide] at h1
    omega
section Mf9
variable (sta : mj_S) (d : Nat) (q : Nat) (tk : Int32) (D : Nat → Nat) (hi er se : Int32)
theorem s_Mfind (nm : Nat → List Nat) (w0 : Int64) (hn : D 1 ≤ 6) : mj_Sx sta (d + 1) 157 [.ref q, .long w0] [mdg q tk D hi er se, (q + 6, aL 6 (fun k => pkd (nm k)))] (fun v w => v = some (.int (fdI (frs (fun k => decide (lN (pkd (nm k)) = w0)) (D 1) 0))) ∧ w = [mdg q tk D hi er se, (q + 6, aL 6 (fun k => pkd (nm k)))]) := by
  refine mj_Sx.mk m_X9_find (by decide) n_X9_find rfl (fun h0 hv => ?_)
  generalize hT : mj_rx m_X9_find h0 _ _ = T
  generalize hR : frs (fun k => decide (lN (pkd (nm k)) = w0)) (D 1) 0 = R at hT
  have loop : ∀ j k, k + j = D 1 → R = frs (fun k => decide (lN (pkd (nm k)) = w0)) j k → mj_go sta (mj_Cl sta d) m_X9_find T 2 [some (.ref q), some (.long w0), none, some (.int (nI k))] [] h0 := by
    intro j
    induction j with
    | zero =>
      intro k hk he
      repeat (first | refine g_px rfl rfl rfl ?_ | refine g_get hv 0 rfl rfl rfl rfl ?_)
      refine g_ic rfl (fun cq => ?_) (fun cq => ?_)
      · repeat (first | refine g_px rfl rfl rfl ?_)
        subst hT
        refine g_iret hv rfl rfl rfl rfl ?_
        exact ⟨by rw [he]; rfl, rfl⟩
      · simp (disch := omega) only [mj_cp, k_6, k_7, k_8, k_9, k_10, k_12, k_15, k_16, k_18, k_20, k_24, k_25, k_26, k_27, k_28, k_32, k_36, k_48, k_57, k_59, k_63, k_74, k_75, k_84, k_90, k_97, k_99, k_100, k_122, k_200, k_255, k_420, k_448, k_720, k_800, k_999, k_bit, k_shl, fa_and, nI_add, bl_1, bl_0, bl_n1, bl_n0, bl_i1, nI_lt0, nI_0le, nI_eq0, nI_eqT, nI_leI, nI_ltI, nI_eq, Nat.not_le, Nat.not_lt, Bool.not_eq_true, Bool.not_eq_false, not_true_eq_false, not_false_eq_true, Decidable.not_not] at cq
        omega
    | succ j ih =>
      intro k hk he
      rw [frs] at he
      repeat (first | refine g_px rfl rfl rfl ?_ | refine g_get hv 0 rfl rfl rfl rfl ?_)
      refine g_ic rfl (fun cq => ?_) (fun cq => ?_)
      · simp (disch := omega) only [mj_cp, k_6, k_7, k_8, k_9, k_10, k_12, k_15, k_16, k_18, k_20, k_24, k_25, k_26, k_27, k_28, k_32, k_36, k_48, k_57, k_59, k_63, k_74, k_75, k_84, k_90, k_97, k_99, k_100, k_122, k_200, k_255, k_420, k_448, k_720, k_800, k_999, k_bit, k_shl, fa_and, nI_add, bl_1, bl_0, bl_n1, bl_n0, bl_i1, nI_lt0, nI_0le, nI_eq0, nI_eqT, nI_leI, nI_ltI, nI_eq, Nat.not_le, Nat.not_lt, Bool.not_eq_true, Bool.not_eq_false, not_true_eq_false, not_false_eq_true, Decidable.not_not] at cq
        omega
      · repeat (first | refine g_px rfl rfl rfl ?_ | refine g_get hv 0 rfl rfl rfl rfl ?_)
        refine g_lL (L := 6) hv 1 (k := k) (by omega) (by decide) rfl rfl ?_
        repeat (first | refine g_px rfl rfl rfl ?_)
        refine g_if rfl (fun cq => ?_) (fun cq => ?_)
        · have cq : ¬ lg_cmp (lN (pkd (nm k))) w0 = 0 := cq
          rw [lg_cmp_eq] at cq
          rw [if_neg (by rw [decide_eq_true_eq]; exact cq)] at he
          refine g_run 2 rfl ?_
          have hnx := ih (k + 1) (by omega) he
          rw [nI_succ] at hnx
          exact hnx
        · have cq : ¬ ¬ lg_cmp (lN (pkd (nm k))) w0 = 0 := cq
          rw [lg_cmp_eq, Decidable.not_not] at cq
          rw [if_pos (decide_eq_true cq)] at he
          repeat (first | refine g_px rfl rfl rfl ?_)
          subst hT
          refine g_iret hv rfl rfl rfl rfl ?_
          exact ⟨by rw [he]; rfl, rfl⟩
  refine g_run 2 rfl ?_
  exact loop (D 1) 0 (by omega) hR.symm
theorem s_MhasGone (we : Nat → Nat) (m : Nat) (hm : m < 6) (hw : bd 6 we) (hn : D 8 ≤ 3) : mj_Sx sta (d + 1) 158 [.ref q, (.int (nI m))] [mdg q tk D hi er se, (q + 7, a3 we)] (fun v w => v = some (.int (bl (frs (fun k => decide (we k = m)) (D 8) 0).isSome)) ∧ w = [mdg q tk D hi er se, (q + 7, a3 we)]) := by
  refine mj_Sx.mk m_X9_hasGone (by decide) n_X9_hasGone rfl (fun h0 hv => ?_)
  generalize hT : mj_rx m_X9_hasGone h0 _ _ = T
  generalize hR : frs (fun k => decide (we k = m)) (D 8) 0 = R at hT
  have loop : ∀ j k, k + j = D 8 → R = frs (fun k => decide (we k = m)) j k → mj_go sta (mj_Cl sta d) m_X9_hasGone T 2 [some (.ref q), some (.int (nI m)), some (.int (nI k))] [] h0 := by
    intro j
    induction j with
    | zero =>
      intro k hk he
      repeat (first | refine g_px rfl rfl rfl ?_ | refine g_get hv 0 rfl rfl rfl rfl ?_)
      refine g_ic rfl (fun cq => ?_) (fun cq => ?_)
      · repeat (first | refine g_px rfl rfl rfl ?_)
        subst hT
        refine g_iret hv rfl rfl rfl rfl ?_
        exact ⟨by rw [he]; rfl, rfl⟩
      · simp (disch := omega) only [mj_cp, k_6, k_7, k_8, k_9, k_10, k_12, k_15, k_16, k_18, k_20, k_24, k_25, k_26, k_27, k_28, k_32, k_36, k_48, k_57, k_59, k_63, k_74, k_75, k_84, k_90, k_97, k_99, k_100, k_122, k_200, k_255, k_420, k_448, k_720, k_800, k_999, k_bit, k_shl, fa_and, nI_add, bl_1, bl_0, bl_n1, bl_n0, bl_i1, nI_lt0, nI_0le, nI_eq0, nI_eqT, nI_leI, nI_ltI, nI_eq, Nat.not_le, Nat.not_lt, Bool.not_eq_true, Bool.not_eq_false, not_true_eq_false, not_false_eq_true, Decidable.not_not] at cq
        omega
    | succ j ih =>
      intro k hk he
      have hwk := hw k
      rw [frs] at he
      repeat (first | refine g_px rfl rfl rfl ?_ | refine g_get hv 0 rfl rfl rfl rfl ?_)
      refine g_ic rfl (fun cq => ?_) (fun cq => ?_)
      · simp (disch := omega) only [mj_cp, k_6, k_7, k_8, k_9, k_10, k_12, k_15, k_16, k_18, k_20, k_24, k_25, k_26, k_27, k_28, k_32, k_36, k_48, k_57, k_59, k_63, k_74, k_75, k_84, k_90, k_97, k_99, k_100, k_122, k_200, k_255, k_420, k_448, k_720, k_800, k_999, k_bit, k_shl, fa_and, nI_add, bl_1, bl_0, bl_n1, bl_n0, bl_i1, nI_lt0, nI_0le, nI_eq0, nI_eqT, nI_leI, nI_ltI, nI_eq, Nat.not_le, Nat.not_lt, Bool.not_eq_true, Bool.not_eq_false, not_true_eq_false, not_false_eq_true, Decidable.not_not] at cq
        omega
      · repeat (first | refine g_px rfl rfl rfl ?_ | refine g_get hv 0 rfl rfl rfl rfl ?_)
        refine g_nL (L := 3) hv 1 (k := k) (by omega) (by decide) rfl rfl ?_
        repeat (first | refine g_px rfl rfl rfl ?_)
        refine g_ic rfl (fun cq => ?_) (fun cq => ?_)
        · have cq : ¬ nI (we k) = nI m := cq
          rw [nI_eq (by omega) (by omega)] at cq
          rw [if_neg (by rw [decide_eq_true_eq]; exact cq)] at he
          refine g_run 2 rfl ?_
          have hnx := ih (k + 1) (by omega) he
          rw [nI_succ] at hnx
          exact hnx
        · have cq : ¬ ¬ nI (we k) = nI m := cq
          rw [nI_eq (by omega) (by omega), Decidable.not_not] at cq
          rw [if_pos (decide_eq_true cq)] at he
          repeat (first | refine g_px rfl rfl rfl ?_)
          subst hT
          refine g_iret hv rfl rfl rfl rfl ?_
          exact ⟨by rw [he]; rfl, rfl⟩
  refine g_run 2 rfl ?_
  exact loop (D 8) 0 (by omega) hR.symm
end Mf9
/-- names that are words find alike -/
theorem fnd_I {nm : Nat → List Nat} {w : List Nat} {m : Nat} (hnm : ∀ k, k < m → alw (nm k) ∧ (nm k).length ≤ 8) (hw : alw w ∧ w.length ≤ 8) : frs (fun k => decide (lN (pkd (nm k)) = lN (pkd w))) m 0 = fnd nm w m := by
  unfold fnd
  have key : ∀ j x, x + j ≤ m → frs (fun k => decide (lN (pkd (nm k)) = lN (pkd w))) j x = frs (fun k => decide (nm k = w)) j x := by
    intro j
    induction j with
    | zero => intro x _; rfl
    | succ j ih =>
      intro x hx
      have h1 := hnm x (by omega)
      have b1 := pkd_lt h1.1 h1.2
      have b2 := pkd_lt hw.1 hw.2
      have e : decide (lN (pkd (nm x)) = lN (pkd w)) = decide (nm x = w) := decide_eq_decide.mpr (by rw [pk_lEQ (by omega) (by omega), pkd_inj h1.1 hw.1])
      rw [frs, frs, e, ih (x + 1) (by omega)]
  exact key m 0 (by omega)
section Mq
variable (sta : mj_S) (d : Nat) (th tr wh : Int32) (dr rd : Option Nat) (F : Nat → Int32) (wd : Int64) (ac im lw tk st : Int32) (sh ru : Int64) (rz aw al sd : Int32) (c : Nat → Nat) (n : Nat)
theorem s_MeatsSemicolon (x : XP) (hn : n ≤ 800) (hc : bd 256 c) (hR : RdS c n x F wd) : mj_Sx sta (d + 3) 178 [.ref 151] [(mo th tr wh dr rd F wd ac im lw tk st sh ru rz aw al sd), (152, ab c)] (fun v w => v = some (.int (bl (xsm c n x))) ∧ ∃ F' wd', RdS c n (if xsm c n x then xgo c n x else x) F' wd' ∧ w = [(mo th tr wh dr rd F' wd' ac im lw tk st sh ru rz aw al sd), (152, ab c)]) := by
  refine mj_Sx.mk m_X10_eatsSemicolon (by decide) n_X10_eatsSemicolon rfl (fun h0 hv => ?_)
  generalize hT : mj_rx m_X10_eatsSemicolon h0 _ _ = T
  have no : ∀ h, xsm c n x = false → mj_Vw h0 [(mo th tr wh dr rd F wd ac im lw tk st sh ru rz aw al sd), (152, ab c)] h → mj_go sta (mj_Cl sta (d + 2)) m_X10_eatsSemicolon T 12 [some (.ref 151), none] [] h := by
    intro h hno hv
    repeat (first | refine g_px rfl rfl rfl ?_)
    refine g_if rfl (fun cq => ?_) (fun cq => absurd (cpT (by decide)) cq)
    repeat (first | refine g_px rfl rfl rfl ?_)
    subst hT
    exact g_iret hv rfl rfl rfl rfl ⟨by rw [hno]; rfl, F, wd, by rw [hno, if_neg (by decide)]; exact hR, rfl⟩
  have hR2 := hR
  obtain ⟨r1, r2, r3⟩ := hR2
  repeat (first | refine g_px rfl rfl rfl ?_ | refine g_get hv 0 rfl rfl rfl rfl ?_)
  cases x with
  | inr e =>
    rw [r3.1]
    refine g_ic rfl (fun cq => ?_) (fun cq => absurd (cpT (by decide)) cq)
    exact no h0 rfl hv
  | inl i =>
    obtain ⟨a1, a2, a3, a4, a5, a6, a7⟩ := r3
    rw [a2]
    refine g_ic rfl (fun cq => ?_) (fun cq => ?_)
    · have cq : ¬ nI (mk_ (knd c n i)) = nI 4 := cq
      rw [mk_eq _ (knd_lt c n i) 4 (by decide) (by decide)] at cq
      exact no h0 (decide_eq_false (fun z => cq (by omega))) hv
    · have cq : ¬ ¬ nI (mk_ (knd c n i)) = nI 4 := cq
      rw [mk_eq _ (knd_lt c n i) 4 (by decide) (by decide), Decidable.not_not] at cq
      have hk : knd c n i = 3 := by omega
      have hs : xsm c n (.inl i) = true := decide_eq_true hk
      repeat (first | refine g_px rfl rfl rfl ?_)
      refine g_if rfl (fun cq => absurd cq (cpF (by decide))) (fun cq => ?_)
      repeat (first | refine g_px rfl rfl rfl ?_)
      refine g_callV hv [0, 1] 0 rfl rfl rfl rfl rfl rfl rfl rfl (by decide) (s_MgoesOn sta d th tr wh dr rd F wd ac im lw tk st sh ru rz aw al sd c n (.inl i) (show knd c n i ≠ 4 by omega) hn hc hR) (fun v w' h hp hk2 hv => ?_)
      obtain ⟨rfl, F2, wd2, hR3, rfl⟩ := hp
      repeat (first | refine g_px rfl rfl rfl ?_)
      subst hT
      exact g_iret hv rfl rfl rfl rfl ⟨by rw [hs]; rfl, F2, wd2, by rw [hs, if_pos rfl]; exact hR3, rfl⟩
theorem s_MisName (x : XP) (hR : RdS c n x F wd) : mj_Sx sta (d + 4) 182 [.ref 151] [(mo th tr wh dr rd F wd ac im lw tk st sh ru rz aw al sd)] (fun v w => v = some (.int (bl (xnm c n x))) ∧ w = [(mo th tr wh dr rd F wd ac im lw tk st sh ru rz aw al sd)]) := by
  refine mj_Sx.mk m_X10_isName (by decide) n_X10_isName rfl (fun h0 hv => ?_)
  generalize hT : mj_rx m_X10_isName h0 _ _ = T
  obtain ⟨o1, o2, o3, o4, o5, o6, -⟩ := alw_8
  have hR2 := hR
  obtain ⟨r1, r2, r3⟩ := hR2
  have no : ∀ h, xnm c n x = false → mj_Vw h0 [(mo th tr wh dr rd F wd ac im lw tk st sh ru rz aw al sd)] h → mj_go sta (mj_Cl sta (d + 3)) m_X10_isName T 35 [some (.ref 151)] [] h := by
    intro h hno hv
    repeat (first | refine g_px rfl rfl rfl ?_)
    subst hT
    refine g_iret hv rfl rfl rfl rfl ?_
    exact ⟨by rw [hno]; rfl, rfl⟩
  have no2 : ∀ h, xnm c n x = false → mj_Vw h0 [(mo th tr wh dr rd F wd ac im lw tk st sh ru rz aw al sd)] h → mj_go sta (mj_Cl sta (d + 3)) m_X10_isName T 68 [some (.ref 151)] [] h := by
    intro h hno hv
    repeat (first | refine g_px rfl rfl rfl ?_)
    subst hT
    refine g_iret hv rfl rfl rfl rfl ?_
    exact ⟨by rw [hno]; rfl, rfl⟩
  repeat (first | refine g_px rfl rfl rfl ?_ | refine g_get hv 0 rfl rfl rfl rfl ?_)
  cases x with
  | inr e =>
    rw [r3.1]
    refine g_ic rfl (fun cq => ?_) (fun cq => absurd (cpT (by decide)) cq)
    exact no h0 rfl hv
  | inl i =>
    obtain ⟨a1, a2, a3, a4, a5, a6, a7⟩ := r3
    have hx : xnm c n (.inl i) = decide (lkd c n i = 7) := rfl
    rw [a2]
    refine g_ic rfl (fun cq => ?_) (fun cq => ?_)
    · have cq : ¬ nI (mk_ (knd c n i)) = nI 2 := cq
      rw [mk_eq _ (knd_lt c n i) 2 (by decide) (by decide)] at cq
      refine no h0 (decide_eq_false ?_) hv
      unfold lkd
      rw [if_pos (fun z => cq (by omega))]
      decide
    · have cq : ¬ ¬ nI (mk_ (knd c n i)) = nI 2 := cq
      rw [mk_eq _ (knd_lt c n i) 2 (by decide) (by decide), Decidable.not_not] at cq
      have hk1 : ¬ ¬ knd c n i = 1 := not_not_intro (by omega)
      unfold lkd at hx
      rw [if_neg hk1] at hx
      repeat (first | refine g_px rfl rfl rfl ?_)
      refine g_callV hv [0] 0 rfl rfl rfl rfl rfl rfl rfl rfl (by decide) (s_MisWord sta d th tr wh dr rd F wd ac im lw tk st sh ru rz aw al sd c n (.inl i) 18 _ w_draft rfl rfl o1 (by decide) hR) (fun v w' h hp hk2 hv => ?_)
      obtain ⟨rfl, rfl⟩ := hp
      have hv : mj_Vw h0 ([(mo th tr wh dr rd F wd ac im lw tk st sh ru rz aw al sd)]) h := hv
      rw [show xis c n w_draft (.inl i) = isW c n i w_draft from rfl]
      refine g_if rfl (fun cq => ?_) (fun cq => ?_)
      · have cq : ¬ bl (isW c n i w_draft) = 0 := cq
        rw [bl_0, Bool.not_eq_false] at cq
        exact no h (by rw [hx, cq, if_pos rfl]; decide) hv
      have cq : ¬ ¬ bl (isW c n i w_draft) = 0 := cq
      rw [bl_0, Decidable.not_not] at cq
      rw [cq, if_neg (by decide)] at hx
      repeat (first | refine g_px rfl rfl rfl ?_)
      refine g_callV hv [0] 0 rfl rfl rfl rfl rfl rfl rfl rfl (by decide) (s_MisWord sta d th tr wh dr rd F wd ac im lw tk st sh ru rz aw al sd c n (.inl i) 20 _ w_man rfl rfl o2 (by decide) hR) (fun v w' h hp hk2 hv => ?_)
      obtain ⟨rfl, rfl⟩ := hp
      have hv : mj_Vw h0 ([(mo th tr wh dr rd F wd ac im lw tk st sh ru rz aw al sd)]) h := hv
      rw [show xis c n w_man (.inl i) = isW c n i w_man from rfl]
      refine g_if rfl (fun cq => ?_) (fun cq => ?_)
      · have cq : ¬ bl (isW c n i w_man) = 0 := cq
        rw [bl_0, Bool.not_eq_false] at cq
        exact no h (by rw [hx, cq, if_pos rfl]; decide) hv
      have cq : ¬ ¬ bl (isW c n i w_man) = 0 := cq
      rw [bl_0, Decidable.not_not] at cq
      rw [cq, if_neg (by decide)] at hx
      repeat (first | refine g_px rfl rfl rfl ?_)
      refine g_callV hv [0] 0 rfl rfl rfl rfl rfl rfl rfl rfl (by decide) (s_MisWord sta d th tr wh dr rd F wd ac im lw tk st sh ru rz aw al sd c n (.inl i) 21 _ w_kin rfl rfl o3 (by decide) hR) (fun v w' h hp hk2 hv => ?_)
      obtain ⟨rfl, rfl⟩ := hp
      have hv : mj_Vw h0 ([(mo th tr wh dr rd F wd ac im lw tk st sh ru rz aw al sd)]) h := hv
      rw [show xis c n w_kin (.inl i) = isW c n i w_kin from rfl]
      refine g_if rfl (fun cq => ?_) (fun cq => ?_)
      rotate_left
      · have cq : ¬ bl (isW c n i w_kin) = 0 := cq
        rw [bl_0, Bool.not_eq_false] at cq
        exact no h (by rw [hx, cq, if_pos rfl]; decide) hv
      have cq : bl (isW c n i w_kin) = 0 := cq
      rw [bl_0] at cq
      rw [cq, if_neg (by decide)] at hx
      repeat (first | refine g_px rfl rfl rfl ?_)
      refine g_callV hv [0] 0 rfl rfl rfl rfl rfl rfl rfl rfl (by decide) (s_MisWord sta d th tr wh dr rd F wd ac im lw tk st sh ru rz aw al sd c n (.inl i) 22 _ w_spares rfl rfl o4 (by decide) hR) (fun v w' h hp hk2 hv => ?_)
      obtain ⟨rfl, rfl⟩ := hp
      have hv : mj_Vw h0 ([(mo th tr wh dr rd F wd ac im lw tk st sh ru rz aw al sd)]) h := hv
      rw [show xis c n w_spares (.inl i) = isW c n i w_spares from rfl]
      refine g_if rfl (fun cq => ?_) (fun cq => ?_)
      · have cq : ¬ bl (isW c n i w_spares) = 0 := cq
        rw [bl_0, Bool.not_eq_false] at cq
        exact no2 h (by rw [hx, cq, if_pos rfl]; decide) hv
      have cq : ¬ ¬ bl (isW c n i w_spares) = 0 := cq
      rw [bl_0, Decidable.not_not] at cq
      rw [cq, if_neg (by decide)] at hx
      repeat (first | refine g_px rfl rfl rfl ?_)
      refine g_callV hv [0] 0 rfl rfl rfl rfl rfl rfl rfl rfl (by decide) (s_MisWord sta d th tr wh dr rd F wd ac im lw tk st sh ru rz aw al sd c n (.inl i) 23 _ w_doctor rfl rfl o5 (by decide) hR) (fun v w' h hp hk2 hv => ?_)
      obtain ⟨rfl, rfl⟩ := hp
      have hv : mj_Vw h0 ([(mo th tr wh dr rd F wd ac im lw tk st sh ru rz aw al sd)]) h := hv
      rw [show xis c n w_doctor (.inl i) = isW c n i w_doctor from rfl]
      refine g_if rfl (fun cq => ?_) (fun cq => ?_)
      · have cq : ¬ bl (isW c n i w_doctor) = 0 := cq
        rw [bl_0, Bool.not_eq_false] at cq
        exact no2 h (by rw [hx, cq, if_pos rfl]; decide) hv
      have cq : ¬ ¬ bl (isW c n i w_doctor) = 0 := cq
      rw [bl_0, Decidable.not_not] at cq
      rw [cq, if_neg (by decide)] at hx
      repeat (first | refine g_px rfl rfl rfl ?_)
      refine g_callV hv [0] 0 rfl rfl rfl rfl rfl rfl rfl rfl (by decide) (s_MisWord sta d th tr wh dr rd F wd ac im lw tk st sh ru rz aw al sd c n (.inl i) 24 _ w_went rfl rfl o6 (by decide) hR) (fun v w' h hp hk2 hv => ?_)
      obtain ⟨rfl, rfl⟩ := hp
      have hv : mj_Vw h0 ([(mo th tr wh dr rd F wd ac im lw tk st sh ru rz aw al sd)]) h := hv
      rw [show xis c n w_went (.inl i) = isW c n i w_went from rfl]
      refine g_if rfl (fun cq => ?_) (fun cq => ?_)
      · have cq : ¬ bl (isW c n i w_went) = 0 := cq
        rw [bl_0, Bool.not_eq_false] at cq
        exact no2 h (by rw [hx, cq, if_pos rfl]; decide) hv
      have cq : ¬ ¬ bl (isW c n i w_went) = 0 := cq
      rw [bl_0, Decidable.not_not] at cq
      rw [cq, if_neg (by decide)] at hx
      repeat (first | refine g_px rfl rfl rfl ?_)
      subst hT
      refine g_iret hv rfl rfl rfl rfl ?_
      exact ⟨by rw [hx]; rfl, rfl⟩
theorem s_MsortAtHand (x : XP) (hR : RdS c n x F wd) : mj_Sx sta (d + 4) 185 [.ref 151] [(mo th tr wh dr rd F wd ac im lw tk st sh ru rz aw al sd)] (fun v w => v = some (.int (nI ((xsr c n x).1))) ∧ ∃ F', RdS c n (xsr c n x).2 F' wd ∧ w = [(mo th tr wh dr rd F' wd ac im lw tk st sh ru rz aw al sd)]) := by
  refine mj_Sx.mk m_X10_sortAtHand (by decide) n_X10_sortAtHand rfl (fun h0 hv => ?_)
  generalize hT : mj_rx m_X10_sortAtHand h0 _ _ = T
  obtain ⟨-, -, -, -, -, -, -, o1, o2, o3, o4, -⟩ := alw_8
  have yes : ∀ s h, s < 4 → xsr c n x = (s, x) → mj_Vw h0 [(mo th tr wh dr rd F wd ac im lw tk st sh ru rz aw al sd)] h → mj_go sta (mj_Cl sta (d + 3)) m_X10_sortAtHand T 53 [some (.ref 151), none] [(.int (nI s))] h := by
    intro s h hs he hv
    repeat (first | refine g_px rfl rfl rfl ?_)
    refine g_ic rfl (fun cq => ?_) (fun cq => absurd (fun z => by have := (fdI_1 (o := some s) (fun q hq => by cases hq; omega)).mp z; cases this) cq)
    repeat (first | refine g_px rfl rfl rfl ?_)
    refine g_ic rfl (fun cq => ?_) (fun cq => absurd (fun z => by have := (fdI_1 (o := some s) (fun q hq => by cases hq; omega)).mp z; cases this) cq)
    repeat (first | refine g_px rfl rfl rfl ?_)
    subst hT
    exact g_iret hv rfl rfl rfl rfl ⟨by rw [he], F, by rw [he]; exact hR, rfl⟩
  have nope : ∀ h, xsr c n x = (0, xfl 1 x) → mj_Vw h0 [(mo th tr wh dr rd F wd ac im lw tk st sh ru rz aw al sd)] h → mj_go sta (mj_Cl sta (d + 3)) m_X10_sortAtHand T 52 [some (.ref 151), none] [] h := by
    intro h he hv
    repeat (first | refine g_px rfl rfl rfl ?_)
    refine g_ic rfl (fun cq => absurd cq (cpF (by decide))) (fun cq => ?_)
    repeat (first | refine g_px rfl rfl rfl ?_)
    refine g_callV hv [0] 0 rfl rfl rfl rfl rfl rfl rfl rfl (by decide) (s_Mflaw sta (d + 2) th tr wh dr rd F wd ac im lw tk st sh ru rz aw al sd c n 1 x hR) (fun v w' h hp hk2 hv => ?_)
    obtain ⟨rfl, F1, hR1, rfl⟩ := hp
    repeat (first | refine g_px rfl rfl rfl ?_)
    refine g_ic rfl (fun cq => absurd cq (cpF (by decide))) (fun cq => ?_)
    repeat (first | refine g_px rfl rfl rfl ?_)
    subst hT
    exact g_iret hv rfl rfl rfl rfl ⟨by rw [he]; rfl, F1, by rw [he]; exact hR1, rfl⟩
  have hs : ∀ i, x = .inl i → xsr c n x = match srt c n i with
    | some s => (s, x)
    | none => (0, xfl 1 x) := by
    intro i e
    subst e
    show (match srt c n i with | some s => (s, Sum.inl i) | none => (0, Sum.inr (1, i))) = _
    cases srt c n i <;> rfl
  repeat (first | refine g_px rfl rfl rfl ?_)
  refine g_callV hv [0] 0 rfl rfl rfl rfl rfl rfl rfl rfl (by decide) (s_MisWord sta d th tr wh dr rd F wd ac im lw tk st sh ru rz aw al sd c n x 25 _ w_plain rfl rfl o1 (by decide) hR) (fun v w' h hp hk2 hv => ?_)
  obtain ⟨rfl, rfl⟩ := hp
  have hv : mj_Vw h0 ([(mo th tr wh dr rd F wd ac im lw tk st sh ru rz aw al sd)]) h := hv
  refine g_if rfl (fun cq => ?_) (fun cq => ?_)
  rotate_left
  · have cq : ¬ bl (xis c n w_plain x) = 0 := cq
    rw [bl_0, Bool.not_eq_false] at cq
    refine g_run 2 rfl ?_
    refine yes 0 h (by decide) ?_ hv
    cases x with
    | inr e => cases cq
    | inl i =>
      rw [hs i rfl]
      have cq : isW c n i w_plain = true := cq
      unfold srt
      rw [if_pos cq]
  have cq : bl (xis c n w_plain x) = 0 := cq
  rw [bl_0] at cq
  have q_plain := cq
  repeat (first | refine g_px rfl rfl rfl ?_)
  refine g_callV hv [0] 0 rfl rfl rfl rfl rfl rfl rfl rfl (by decide) (s_MisWord sta d th tr wh dr rd F wd ac im lw tk st sh ru rz aw al sd c n x 26 _ w_married rfl rfl o2 (by decide) hR) (fun v w' h hp hk2 hv => ?_)
  obtain ⟨rfl, rfl⟩ := hp
  have hv : mj_Vw h0 ([(mo th tr wh dr rd F wd ac im lw tk st sh ru rz aw al sd)]) h := hv
  refine g_if rfl (fun cq => ?_) (fun cq => ?_)
  rotate_left
  · have cq : ¬ bl (xis c n w_married x) = 0 := cq
    rw [bl_0, Bool.not_eq_false] at cq
    refine g_run 2 rfl ?_
    refine yes 1 h (by decide) ?_ hv
    cases x with
    | inr e => cases cq
    | inl i =>
      rw [hs i rfl]
      have cq : isW c n i w_married = true := cq
      unfold srt
      rw [show isW c n i w_plain = false from q_plain, if_neg (by decide)]
      rw [if_pos cq]
  have cq : bl (xis c n w_married x) = 0 := cq
  rw [bl_0] at cq
  have q_married := cq
  repeat (first | refine g_px rfl rfl rfl ?_)
  refine g_callV hv [0] 0 rfl rfl rfl rfl rfl rfl rfl rfl (by decide) (s_MisWord sta d th tr wh dr rd F wd ac im lw tk st sh ru rz aw al sd c n x 27 _ w_short rfl rfl o3 (by decide) hR) (fun v w' h hp hk2 hv => ?_)
  obtain ⟨rfl, rfl⟩ := hp
  have hv : mj_Vw h0 ([(mo th tr wh dr rd F wd ac im lw tk st sh ru rz aw al sd)]) h := hv
  refine g_if rfl (fun cq => ?_) (fun cq => ?_)
  rotate_left
  · have cq : ¬ bl (xis c n w_short x) = 0 := cq
    rw [bl_0, Bool.not_eq_false] at cq
    refine g_run 2 rfl ?_
    refine yes 2 h (by decide) ?_ hv
    cases x with
    | inr e => cases cq
    | inl i =>
      rw [hs i rfl]
      have cq : isW c n i w_short = true := cq
      unfold srt
      rw [show isW c n i w_plain = false from q_plain, if_neg (by decide)]
      rw [show isW c n i w_married = false from q_married, if_neg (by decide)]
      rw [if_pos cq]
  have cq : bl (xis c n w_short x) = 0 := cq
  rw [bl_0] at cq
  have q_short := cq
  repeat (first | refine g_px rfl rfl rfl ?_)
  refine g_callV hv [0] 0 rfl rfl rfl rfl rfl rfl rfl rfl (by decide) (s_MisWord sta d th tr wh dr rd F wd ac im lw tk st sh ru rz aw al sd c n x 28 _ w_lame rfl rfl o4 (by decide) hR) (fun v w' h hp hk2 hv => ?_)
  obtain ⟨rfl, rfl⟩ := hp
  have hv : mj_Vw h0 ([(mo th tr wh dr rd F wd ac im lw tk st sh ru rz aw al sd)]) h := hv
  refine g_if rfl (fun cq => ?_) (fun cq => ?_)
  rotate_left
  · have cq : ¬ bl (xis c n w_lame x) = 0 := cq
    rw [bl_0, Bool.not_eq_false] at cq
    refine g_run 2 rfl ?_
    refine yes 3 h (by decide) ?_ hv
    cases x with
    | inr e => cases cq
    | inl i =>
      rw [hs i rfl]
      have cq : isW c n i w_lame = true := cq
      unfold srt
      rw [show isW c n i w_plain = false from q_plain, if_neg (by decide)]
      rw [show isW c n i w_married = false from q_married, if_neg (by decide)]
      rw [show isW c n i w_short = false from q_short, if_neg (by decide)]
      rw [if_pos cq]
  have cq : bl (xis c n w_lame x) = 0 := cq
  rw [bl_0] at cq
  have q_lame := cq
  refine nope h ?_ hv
  cases x with
  | inr e => rfl
  | inl i =>
    rw [hs i rfl]
    unfold srt
    rw [show isW c n i w_plain = false from q_plain, if_neg (by decide)]
    rw [show isW c n i w_married = false from q_married, if_neg (by decide)]
    rw [show isW c n i w_short = false from q_short, if_neg (by decide)]
    rw [show isW c n i w_lame = false from q_lame, if_neg (by decide)]
theorem s_MlineBegins (x : XP) (p : Nat) (a b : Nat) (t0 : Int32) (D : Nat → Nat) (hi er se : Int32) (ha : a < 1000) (hb : b < 1000) (hx : xok c n x) (hn : n ≤ 800) (hc : bd 256 c) (hR : RdS c n x F wd) : mj_Sx sta (d + 3) 183 [.ref 151, (.int (nI a)), (.int (nI b))] [(mo th tr wh dr (some p) F wd ac im lw tk st sh ru rz aw al sd), (152, ab c), mdg p t0 D hi er se] (fun v w => v = none ∧ ∃ F' wd', RdS c n (xgo c n (if t0 = -1 then xfl 6 (if a = b then xfl 5 x else x) else (if a = b then xfl 5 x else x))) F' wd' ∧ w = [(mo th tr wh dr (some p) F' wd' ac im lw tk st sh ru rz aw al sd), (152, ab c), mdg p t0 D hi er se]) := by
  refine mj_Sx.mk m_X10_lineBegins (by decide) n_X10_lineBegins rfl (fun h0 hv => ?_)
  generalize hT : mj_rx m_X10_lineBegins h0 _ _ = T
  have fin : ∀ F' x' h, xok c n x' → RdS c n x' F' wd → (if t0 = -1 then xfl 6 (if a = b then xfl 5 x else x) else (if a = b then xfl 5 x else x)) = x' → mj_Vw h0 [(mo th tr wh dr (some p) F' wd ac im lw tk st sh ru rz aw al sd), (152, ab c), mdg p t0 D hi er se] h → mj_go sta (mj_Cl sta (d + 2)) m_X10_lineBegins T 27 [some (.ref 151), some (.int (nI a)), some (.int (nI b))] [] h := by
    intro F' x' h hx' hR' he hv
    repeat (first | refine g_px rfl rfl rfl ?_)
    refine g_callV hv [0, 1] 0 rfl rfl rfl rfl rfl rfl rfl rfl (by decide) (s_MgoesOn sta d th tr wh dr (some p) F' wd ac im lw tk st sh ru rz aw al sd c n _ hx' hn hc hR') (fun v w' h hp hk2 hv => ?_)
    obtain ⟨rfl, F2, wd2, hR2, rfl⟩ := hp
    subst hT
    exact g_vret hv rfl rfl rfl ⟨rfl, F2, wd2, by rw [he]; exact hR2, rfl⟩
  have at10 : ∀ F' x' h, xok c n x' → RdS c n x' F' wd → (if a = b then xfl 5 x else x) = x' → mj_Vw h0 [(mo th tr wh dr (some p) F' wd ac im lw tk st sh ru rz aw al sd), (152, ab c), mdg p t0 D hi er se] h → mj_go sta (mj_Cl sta (d + 2)) m_X10_lineBegins T 10 [some (.ref 151), some (.int (nI a)), some (.int (nI b))] [] h := by
    intro F' x' h hx' hR' he hv
    repeat (first | refine g_px rfl rfl rfl ?_ | refine g_get hv 0 rfl rfl rfl rfl ?_ | refine g_get hv 2 rfl rfl rfl rfl ?_)
    refine g_ic rfl (fun cq => ?_) (fun cq => ?_)
    · have cq : ¬ t0 = -1 := cq
      exact fin F' x' h hx' hR' (by rw [if_neg cq]; exact he) hv
    · have cq : ¬ ¬ t0 = -1 := cq
      rw [Decidable.not_not] at cq
      repeat (first | refine g_px rfl rfl rfl ?_)
      refine g_callV hv [0] 0 rfl rfl rfl rfl rfl rfl rfl rfl (by decide) (s_Mflaw sta (d + 1) th tr wh dr (some p) F' wd ac im lw tk st sh ru rz aw al sd c n 6 x' hR') (fun v w' h hp hk2 hv => ?_)
      obtain ⟨rfl, F1, hR1, rfl⟩ := hp
      refine fin F1 (xfl 6 x') h ?_ hR1 (by rw [if_pos cq, he]) hv
      cases x' <;> exact trivial
  repeat (first | refine g_px rfl rfl rfl ?_)
  refine g_ic rfl (fun cq => ?_) (fun cq => ?_)
  · have cq : ¬ nI a = nI b := cq
    rw [nI_eq (by omega) (by omega)] at cq
    exact at10 F x h0 hx hR (if_neg cq) hv
  · have cq : ¬ ¬ nI a = nI b := cq
    rw [nI_eq (by omega) (by omega), Decidable.not_not] at cq
    repeat (first | refine g_px rfl rfl rfl ?_)
    refine g_callV hv [0] 0 rfl rfl rfl rfl rfl rfl rfl rfl (by decide) (s_Mflaw sta (d + 1) th tr wh dr (some p) F wd ac im lw tk st sh ru rz aw al sd c n 5 x hR) (fun v w' h hp hk2 hv => ?_)
    obtain ⟨rfl, F1, hR1, rfl⟩ := hp
    refine at10 F1 (xfl 5 x) h ?_ hR1 (if_pos cq) hv
    cases x <;> exact trivial
theorem s_MknownMan (x : XP) (p : Nat) (t0 : Int32) (D : Nat → Nat) (hi er se : Int32) (nm : Nat → List Nat) (hm : D 1 ≤ 6) (hnm : ∀ k, k < D 1 → alw (nm k) ∧ (nm k).length ≤ 8) (hR : RdS c n x F wd) : mj_Sx sta (d + 5) 184 [.ref 151] [(mo th tr wh dr (some p) F wd ac im lw tk st sh ru rz aw al sd), mdg p t0 D hi er se, (p + 6, aL 6 (fun k => pkd (nm k)))] (fun v w => v = some (.int (nI ((xkm c n nm (D 1) x).1))) ∧ ∃ F', RdS c n (xkm c n nm (D 1) x).2 F' wd ∧ w = [(mo th tr wh dr (some p) F' wd ac im lw tk st sh ru rz aw al sd), mdg p t0 D hi er se, (p + 6, aL 6 (fun k => pkd (nm k)))]) := by
  refine mj_Sx.mk m_X10_knownMan (by decide) n_X10_knownMan rfl (fun h0 hv => ?_)
  generalize hT : mj_rx m_X10_knownMan h0 _ _ = T
  have at34 : ∀ F' x' o h, RdS c n x' F' wd → xkm c n nm (D 1) x = (if xov x' then 0 else o, x') → mj_Vw h0 [(mo th tr wh dr (some p) F' wd ac im lw tk st sh ru rz aw al sd), mdg p t0 D hi er se, (p + 6, aL 6 (fun k => pkd (nm k)))] h → ∀ y, (xov x' = false → y = nI o) → mj_go sta (mj_Cl sta (d + 4)) m_X10_knownMan T 34 [some (.ref 151), some (.int y)] [] h := by
    intro F' x' o h hR' he hv y hy
    have h9 := hR'.over
    repeat (first | refine g_px rfl rfl rfl ?_ | refine g_get hv 0 rfl rfl rfl rfl ?_)
    refine g_ic rfl (fun cq => ?_) (fun cq => ?_)
    · have cq : ¬ F' 9 = 5 := cq
      rw [h9, Bool.not_eq_true] at cq
      repeat (first | refine g_px rfl rfl rfl ?_)
      subst hT
      exact g_iret hv rfl rfl rfl rfl ⟨by rw [he, cq, hy cq]; rfl, F', by rw [he]; exact hR', rfl⟩
    · have cq : ¬ ¬ F' 9 = 5 := cq
      rw [h9, Decidable.not_not] at cq
      repeat (first | refine g_px rfl rfl rfl ?_)
      subst hT
      exact g_iret hv rfl rfl rfl rfl ⟨by rw [he, cq]; rfl, F', by rw [he]; exact hR', rfl⟩
  have at12 : ∀ F' x' h, RdS c n x' F' wd → (if xnm c n x then x else xfl 1 x) = x' → mj_Vw h0 [(mo th tr wh dr (some p) F' wd ac im lw tk st sh ru rz aw al sd), mdg p t0 D hi er se, (p + 6, aL 6 (fun k => pkd (nm k)))] h → mj_go sta (mj_Cl sta (d + 4)) m_X10_knownMan T 12 [some (.ref 151), none] [] h := by
    intro F' x' h hR' he hv
    repeat (first | refine g_px rfl rfl rfl ?_ | refine g_get hv 0 rfl rfl rfl rfl ?_)
    refine g_callV hv [1, 2] 1 rfl rfl rfl rfl rfl rfl rfl rfl (by decide) (s_Mfind sta (d + 3) p t0 D hi er se nm wd hm) (fun v w' h hp hk2 hv => ?_)
    obtain ⟨rfl, rfl⟩ := hp
    have hv : mj_Vw h0 ([(mo th tr wh dr (some p) F' wd ac im lw tk st sh ru rz aw al sd), mdg p t0 D hi er se, (p + 6, aL 6 (fun k => pkd (nm k)))]) h := hv
    have hb := frsI_b (p := fun k => decide (lN (pkd (nm k)) = wd)) (m := D 1)
    repeat (first | refine g_px rfl rfl rfl ?_)
    refine g_ic rfl (fun cq => ?_) (fun cq => ?_)
    · have cq : ¬ fdI (frs (fun k => decide (lN (pkd (nm k)) = wd)) (D 1) 0) = -1 := cq
      rw [fdI_1 (fun q hq => by have := hb q hq; omega)] at cq
      cases ho : frs (fun k => decide (lN (pkd (nm k)) = wd)) (D 1) 0 with
      | none => exact absurd ho cq
      | some o =>
        refine at34 F' x' o h hR' ?_ hv _ (fun _ => rfl)
        cases x with
        | inr e => subst he; rfl
        | inl i =>
          cases hnn : xnm c n (.inl i) with
          | false =>
            rw [hnn, if_neg (by decide)] at he
            subst he
            have hlk : ¬ lkd c n i = 7 := of_decide_eq_false hnn
            show (match pM c n nm (D 1) i with | .inl k => (k, Sum.inl i) | .inr e => (0, Sum.inr e)) = _
            unfold pM
            rw [if_neg hlk]
            rfl
          | true =>
            rw [hnn, if_pos rfl] at he
            subst he
            have hlk : lkd c n i = 7 := of_decide_eq_true hnn
            have hk1 := lkd_1 c n (i := i) (by omega)
            obtain ⟨-, -, b1, b2, b3, b4, b5, b6, b7⟩ := hR'
            rw [b6 hk1, fnd_I hnm (wl_al hk1)] at ho
            show (match pM c n nm (D 1) i with | .inl k => (k, Sum.inl i) | .inr e => (0, Sum.inr e)) = _
            unfold pM
            rw [if_pos hlk, ho]
            rfl
    · have cq : ¬ ¬ fdI (frs (fun k => decide (lN (pkd (nm k)) = wd)) (D 1) 0) = -1 := cq
      rw [fdI_1 (fun q hq => by have := hb q hq; omega), Decidable.not_not] at cq
      repeat (first | refine g_px rfl rfl rfl ?_)
      refine g_callV hv [0] 0 rfl rfl rfl rfl rfl rfl rfl rfl (by decide) (s_Mflaw sta (d + 3) th tr wh dr (some p) F' wd ac im lw tk st sh ru rz aw al sd c n 2 x' hR') (fun v w' h hp hk2 hv => ?_)
      obtain ⟨rfl, F1, hR1, rfl⟩ := hp
      have hov : xov (xfl 2 x') = true := by cases x' <;> rfl
      refine at34 F1 (xfl 2 x') 0 h hR1 ?_ hv _ (fun z => by rw [hov] at z; cases z)
      rw [hov, if_pos rfl]
      cases x with
      | inr e => subst he; rfl
      | inl i =>
        cases hnn : xnm c n (.inl i) with
        | false =>
          rw [hnn, if_neg (by decide)] at he
          subst he
          have hlk : ¬ lkd c n i = 7 := of_decide_eq_false hnn
          show (match pM c n nm (D 1) i with | .inl k => (k, Sum.inl i) | .inr e => (0, Sum.inr e)) = _
          unfold pM
          rw [if_neg hlk]
          rfl
        | true =>
          rw [hnn, if_pos rfl] at he
          subst he
          have hlk : lkd c n i = 7 := of_decide_eq_true hnn
          have hk1 := lkd_1 c n (i := i) (by omega)
          obtain ⟨-, -, b1, b2, b3, b4, b5, b6, b7⟩ := hR'
          rw [b6 hk1, fnd_I hnm (wl_al hk1)] at cq
          show (match pM c n nm (D 1) i with | .inl k => (k, Sum.inl i) | .inr e => (0, Sum.inr e)) = _
          unfold pM
          rw [if_pos hlk, cq]
          rfl
  repeat (first | refine g_px rfl rfl rfl ?_)
  refine g_callV hv [0] 0 rfl rfl rfl rfl rfl rfl rfl rfl (by decide) (s_MisName sta d th tr wh dr (some p) F wd ac im lw tk st sh ru rz aw al sd c n x hR) (fun v w' h hp hk2 hv => ?_)
  obtain ⟨rfl, rfl⟩ := hp
  have hv : mj_Vw h0 ([(mo th tr wh dr (some p) F wd ac im lw tk st sh ru rz aw al sd), mdg p t0 D hi er se, (p + 6, aL 6 (fun k => pkd (nm k)))]) h := hv
  refine g_if rfl (fun cq => ?_) (fun cq => ?_)
  · have cq : ¬ bl (xnm c n x) = 0 := cq
    rw [bl_0, Bool.not_eq_false] at cq
    exact at12 F x h hR (if_pos cq) hv
  · have cq : ¬ ¬ bl (xnm c n x) = 0 := cq
    rw [bl_0, Decidable.not_not] at cq
    repeat (first | refine g_px rfl rfl rfl ?_)
    refine g_callV hv [0] 0 rfl rfl rfl rfl rfl rfl rfl rfl (by decide) (s_Mflaw sta (d + 3) th tr wh dr (some p) F wd ac im lw tk st sh ru rz aw al sd c n 1 x hR) (fun v w' h hp hk2 hv => ?_)
    obtain ⟨rfl, F1, hR1, rfl⟩ := hp
    exact at12 F1 (xfl 1 x) h hR1 (by rw [cq, if_neg (by decide)]) hv
end Mq
