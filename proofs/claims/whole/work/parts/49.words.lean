/-! Tape: words, wholes, names -/
theorem lsub_len {c : Nat → Nat} : ∀ l i, (lsub c l i).length = l
  | 0, _ => rfl
  | l + 1, i => by rw [lsub, List.length_cons, lsub_len]
/-- a text's letters -/
def okw (ws : List Nat) : Prop := ∀ x ∈ ws, x < 128
theorem nth_drop {ws : List Nat} {k : Nat} (h : k < ws.length) : ∃ x, mj_nth ws k = some x ∧ ws.drop k = x :: ws.drop (k + 1) ∧ x ∈ ws := by
  refine ⟨ws[k], by rw [mj_nth_eq]; exact List.getElem?_eq_getElem h, List.drop_eq_getElem_cons h, List.getElem_mem h⟩
section Wd
variable (sta : mj_S) (d : Nat) (c : Nat → Nat) (n i : Nat) (len fa pl td va : Int32)
theorem s_isWord (j : Nat) (r : String × Nat × String) (ws : List Nat) (hr : mj_nth mj_str j = some r) (hw : r.2.2.toList.map Char.toNat = ws) (hok : okw ws) (hl : ws.length ≤ 8) (hc : bd 256 c) (hn : n ≤ 800) (hi : i ≤ n) : mj_Sx sta (d + 2) 52 [.ref 1, .ref (mj_SB + j)] [tpo c n i len fa pl td va, (2, ab c)] (fun v w => v = some (.int (bl (isW c n i ws))) ∧ w = [tpo c n i len fa pl td va, (2, ab c)]) := by
  refine mj_Sx.mk m_X6_isWord (by decide) n_X6_isWord rfl (fun h0 hv => ?_)
  generalize hT : mj_rx m_X6_isWord h0 _ _ = T
  have hb := bhd_ge c n hi
  have hk4 := knd_lt c n i
  have no : ∀ h, isW c n i ws = false → mj_Vw h0 [tpo c n i len fa pl td va, (2, ab c)] h → mj_go sta (mj_Cl sta (d + 1)) m_X6_isWord T 24 [some (.ref 1), some (.ref (mj_SB + j)), none] [] h := by
    intro h hno hv
    repeat (first | refine g_px rfl rfl rfl ?_)
    subst hT
    refine g_iret hv rfl rfl rfl rfl ?_
    exact ⟨by rw [hno]; rfl, rfl⟩
  repeat (first | refine g_px rfl rfl rfl ?_ | refine g_get hv 0 rfl rfl rfl rfl ?_)
  refine g_ic rfl (fun cq => ?_) (fun cq => ?_)
  · have cq : ¬ nI (knd c n i) = nI 1 := cq
    rw [nI_eq (by omega) (by decide)] at cq
    exact no h0 (by rw [isW, decide_eq_false cq]; rfl) hv
  · have cq : ¬ ¬ nI (knd c n i) = nI 1 := cq
    rw [nI_eq (by omega) (by decide)] at cq
    have hk1 := Decidable.not_not.mp cq
    have hw8 := knd_1 c n hk1
    repeat (first | refine g_px rfl rfl rfl ?_ | refine g_get hv 0 rfl rfl rfl rfl ?_)
    rw [pk_sub hb.1]
    refine g_callB hv rfl rfl rfl rfl rfl rfl (mj_Sx.str hr hw) (fun h hv => ?_)
    refine g_ic rfl (fun cq => ?_) (fun cq => ?_)
    · have cq : nI (bhd c n i - i) = nI ws.length := cq
      rw [nI_eq (by omega) (by omega)] at cq
      have loop : ∀ y k h, k + y = ws.length → (isW c n i ws = true ↔ lsub c y (i + k) = ws.drop k) → mj_Vw h0 [tpo c n i len fa pl td va, (2, ab c)] h → mj_go sta (mj_Cl sta (d + 1)) m_X6_isWord T 28 [some (.ref 1), some (.ref (mj_SB + j)), some (.int (nI k))] [] h := by
        intro y
        induction y with
        | zero =>
          intro k h hk he hv
          repeat (first | refine g_px rfl rfl rfl ?_)
          refine g_callB hv rfl rfl rfl rfl rfl rfl (mj_Sx.str hr hw) (fun h hv => ?_)
          refine g_ic rfl (fun cq => ?_) (fun cq => ?_)
          · repeat (first | refine g_px rfl rfl rfl ?_)
            subst hT
            refine g_iret hv rfl rfl rfl rfl ?_
            exact ⟨by rw [he.mpr (by rw [lsub, List.drop_eq_nil_of_le (by omega)])]; rfl, rfl⟩
          · simp (disch := omega) only [mj_cp, k_6, k_7, k_8, k_9, k_10, k_12, k_15, k_16, k_18, k_20, k_24, k_25, k_26, k_27, k_28, k_32, k_36, k_48, k_57, k_59, k_63, k_74, k_75, k_84, k_90, k_97, k_99, k_100, k_122, k_200, k_255, k_420, k_448, k_720, k_800, k_999, k_bit, k_shl, fa_and, nI_add, bl_1, bl_0, bl_n1, bl_n0, bl_i1, nI_lt0, nI_0le, nI_eq0, nI_eqT, nI_leI, nI_ltI, nI_eq, Nat.not_le, Nat.not_lt, Bool.not_eq_true, Bool.not_eq_false, not_true_eq_false, not_false_eq_true, Decidable.not_not] at cq
            omega
        | succ y ih =>
          intro k h hk he hv
          obtain ⟨x, hx1, hx2, hx3⟩ := nth_drop (ws := ws) (k := k) (by omega)
          have hx128 := hok x hx3
          have h256 := hc (i + k)
          rw [hx2, lsub] at he
          repeat (first | refine g_px rfl rfl rfl ?_)
          refine g_callB hv rfl rfl rfl rfl rfl rfl (mj_Sx.str hr hw) (fun h hv => ?_)
          refine g_ic rfl (fun cq => ?_) (fun cq => ?_)
          · simp (disch := omega) only [mj_cp, k_6, k_7, k_8, k_9, k_10, k_12, k_15, k_16, k_18, k_20, k_24, k_25, k_26, k_27, k_28, k_32, k_36, k_48, k_57, k_59, k_63, k_74, k_75, k_84, k_90, k_97, k_99, k_100, k_122, k_200, k_255, k_420, k_448, k_720, k_800, k_999, k_bit, k_shl, fa_and, nI_add, bl_1, bl_0, bl_n1, bl_n0, bl_i1, nI_lt0, nI_0le, nI_eq0, nI_eqT, nI_leI, nI_ltI, nI_eq, Nat.not_le, Nat.not_lt, Bool.not_eq_true, Bool.not_eq_false, not_true_eq_false, not_false_eq_true, Decidable.not_not] at cq
            omega
          · repeat (first | refine g_px rfl rfl rfl ?_ | refine g_get hv 0 rfl rfl rfl rfl ?_)
            rw [nI_add]
            refine g_b8 hv 1 (k := i + k) (by omega) rfl rfl ?_
            repeat (first | refine g_px rfl rfl rfl ?_)
            refine g_callB hv rfl rfl rfl rfl rfl rfl (mj_Sx.chr hr hw hx1) (fun h hv => ?_)
            refine g_ic rfl (fun cq => ?_) (fun cq => ?_)
            · have cq : sb (c (i + k)) = nI x := cq
              rw [sb_eq _ h256 _ hx128] at cq
              refine g_run 2 rfl ?_
              have hnx := ih (k + 1) h (by omega) (by
                rw [he, cq]
                exact ⟨fun z => (List.cons.inj z).2, fun z => by rw [← z]; rfl⟩) hv
              rw [nI_succ] at hnx
              exact hnx
            · have cq : ¬ sb (c (i + k)) = nI x := cq
              rw [sb_eq _ h256 _ hx128] at cq
              repeat (first | refine g_px rfl rfl rfl ?_)
              subst hT
              refine g_iret hv rfl rfl rfl rfl ?_
              refine ⟨?_, rfl⟩
              have : isW c n i ws = false := by
                cases q : isW c n i ws with
                | false => rfl
                | true => exact absurd (List.cons.inj (he.mp q)).1 cq
              rw [this]
              rfl
      refine g_run 2 rfl ?_
      refine loop ws.length 0 h (by omega) ?_ hv
      rw [isW, decide_eq_true hk1, Bool.true_and, decide_eq_true_eq, wl, cq]
      rfl
    · have cq : ¬ nI (bhd c n i - i) = nI ws.length := cq
      rw [nI_eq (by omega) (by omega)] at cq
      refine no h ?_ hv
      rw [isW, decide_eq_true hk1, Bool.true_and]
      refine decide_eq_false (fun z => cq ?_)
      rw [← z, wl, lsub_len]
theorem s_passWord (j : Nat) (r : String × Nat × String) (ws : List Nat) (hr : mj_nth mj_str j = some r) (hw : r.2.2.toList.map Char.toNat = ws) (hok : okw ws) (hl : ws.length ≤ 8) (hc : bd 256 c) (hn : n ≤ 800) (hi : i ≤ n) : mj_Sx sta (d + 4) 53 [.ref 1, .ref (mj_SB + j)] [tpo c n i len fa pl td va, (2, ab c)] (fun v w => match pW c n ws i with
      | .inl k => v = some (.int (bl true)) ∧ w = [tpo c n k len fa pl td va, (2, ab c)]
      | .inr e => v = some (.int (bl false)) ∧ w = [tpo c n i len (nI e.1) (nI e.2) td va, (2, ab c)]) := by
  refine mj_Sx.mk m_X6_passWord (by decide) n_X6_passWord rfl (fun h0 hv => ?_)
  generalize hT : mj_rx m_X6_passWord h0 _ _ = T
  repeat (first | refine g_px rfl rfl rfl ?_)
  refine g_callV hv [0, 1] 0 rfl rfl rfl rfl rfl rfl rfl rfl (by decide) (s_isWord sta (d + 1) c n i len fa pl td va j r ws hr hw hok hl hc hn hi) (fun v w' h hp hk2 hv => ?_)
  obtain ⟨rfl, rfl⟩ := hp
  unfold pW at hT
  refine g_if rfl (fun cq => ?_) (fun cq => ?_)
  · simp (disch := omega) only [mj_cp, k_6, k_7, k_8, k_9, k_10, k_12, k_15, k_16, k_18, k_20, k_24, k_25, k_26, k_27, k_28, k_32, k_36, k_48, k_57, k_59, k_63, k_74, k_75, k_84, k_90, k_97, k_99, k_100, k_122, k_200, k_255, k_420, k_448, k_720, k_800, k_999, k_bit, k_shl, fa_and, nI_add, bl_1, bl_0, bl_n1, bl_n0, bl_i1, nI_lt0, nI_0le, nI_eq0, nI_eqT, nI_leI, nI_ltI, nI_eq, Nat.not_le, Nat.not_lt, Bool.not_eq_true, Bool.not_eq_false, not_true_eq_false, not_false_eq_true, Decidable.not_not] at cq
    rw [if_pos cq] at hT
    repeat (first | refine g_px rfl rfl rfl ?_)
    refine g_callV hv [0, 1] 0 rfl rfl rfl rfl rfl rfl rfl rfl (by decide) (s_step sta d c n len fa pl td va (nI i) (nI (knd c n i)) (bhd c n i) hc hn (bhd_ge c n hi).2) (fun v w' h hp hk2 hv => ?_)
    obtain ⟨rfl, rfl⟩ := hp
    repeat (first | refine g_px rfl rfl rfl ?_)
    subst hT
    exact g_iret hv rfl rfl rfl rfl ⟨rfl, rfl⟩
  · simp (disch := omega) only [mj_cp, k_6, k_7, k_8, k_9, k_10, k_12, k_15, k_16, k_18, k_20, k_24, k_25, k_26, k_27, k_28, k_32, k_36, k_48, k_57, k_59, k_63, k_74, k_75, k_84, k_90, k_97, k_99, k_100, k_122, k_200, k_255, k_420, k_448, k_720, k_800, k_999, k_bit, k_shl, fa_and, nI_add, bl_1, bl_0, bl_n1, bl_n0, bl_i1, nI_lt0, nI_0le, nI_eq0, nI_eqT, nI_leI, nI_ltI, nI_eq, Nat.not_le, Nat.not_lt, Bool.not_eq_true, Bool.not_eq_false, not_true_eq_false, not_false_eq_true, Decidable.not_not] at cq
    rw [if_neg (by rw [cq]; decide)] at hT
    repeat (first | refine g_px rfl rfl rfl ?_)
    refine g_callV hv [0] 0 rfl rfl rfl rfl rfl rfl rfl rfl (by decide) (s_fail sta (d + 2) len fa pl td va _ _ _ _ _) (fun v w' h hp hk2 hv => ?_)
    obtain ⟨rfl, rfl⟩ := hp
    subst hT
    exact g_iret hv rfl rfl rfl rfl ⟨rfl, rfl⟩
theorem nvl_lt (h : ∀ l, c l < 256) : ∀ l, l ≤ 3 → nvl c i l ≤ 30000
  | 0, _ => by rw [nvl]; omega
  | 1, _ => by have := h (i + 0); simp only [nvl]; omega
  | 2, _ => by have := h (i + 0); have := h (i + 1); simp only [nvl]; omega
  | 3, _ => by have := h (i + 0); have := h (i + 1); have := h (i + 2); simp only [nvl]; omega
theorem dg_48 : ∀ k, k < 256 → dgt k = true → 48 ≤ k ∧ k ≤ 57 ∧ sb k = nI k := by decide +kernel
theorem s_passWhole (most : Nat) (hm : most ≤ 1000) (hc : bd 256 c) (hn : n ≤ 800) (hi : i ≤ n) : mj_Sx sta (d + 4) 54 [.ref 1, (.int (nI most))] [tpo c n i len fa pl td va, (2, ab c)] (fun v w => match pN c n most i with
      | .inl k => v = some (.int (bl true)) ∧ w = [tpo c n k.2 len fa pl td (nI k.1), (2, ab c)]
      | .inr e => v = some (.int (bl false)) ∧ w = [tpo c n i len (nI e.1) (nI e.2) td va, (2, ab c)]) := by
  refine mj_Sx.mk m_X6_passWhole (by decide) n_X6_passWhole rfl (fun h0 hv => ?_)
  generalize hT : mj_rx m_X6_passWhole h0 _ _ = T
  have hb := bhd_ge c n hi
  have hk4 := knd_lt c n i
  unfold pN at hT
  repeat (first | refine g_px rfl rfl rfl ?_ | refine g_get hv 0 rfl rfl rfl rfl ?_)
  refine g_ic rfl (fun cq => ?_) (fun cq => ?_)
  · have cq : nI (knd c n i) = nI 2 := cq
    rw [nI_eq (by omega) (by decide)] at cq
    have hw3 := knd_2 c n cq
    rw [if_pos cq] at hT
    have hnum : num c n i ≤ 30000 := nvl_lt c i hc _ (by omega)
    have loop : ∀ y k h, i + k + y = bhd c n i → mj_Vw h0 [tpo c n i len fa pl td va, (2, ab c)] h → mj_go sta (mj_Cl sta (d + 3)) m_X6_passWhole T 21 [some (.ref 1), some (.int (nI most)), some (.int (nI (nvl c i k))), some (.int (nI (i + k)))] [] h := by
      intro y
      induction y with
      | zero =>
        intro k h hk hv
        have hk : k = bhd c n i - i := by omega
        have he : nvl c i k = num c n i := by rw [hk]; rfl
        rw [he]
        repeat (first | refine g_px rfl rfl rfl ?_ | refine g_get hv 0 rfl rfl rfl rfl ?_)
        refine g_ic rfl (fun cq => ?_) (fun cq => ?_)
        · repeat (first | refine g_px rfl rfl rfl ?_)
          refine g_ic rfl (fun cq => ?_) (fun cq => ?_)
          · simp (disch := omega) only [mj_cp, k_6, k_7, k_8, k_9, k_10, k_12, k_15, k_16, k_18, k_20, k_24, k_25, k_26, k_27, k_28, k_32, k_36, k_48, k_57, k_59, k_63, k_74, k_75, k_84, k_90, k_97, k_99, k_100, k_122, k_200, k_255, k_420, k_448, k_720, k_800, k_999, k_bit, k_shl, fa_and, nI_add, bl_1, bl_0, bl_n1, bl_n0, bl_i1, nI_lt0, nI_0le, nI_eq0, nI_eqT, nI_leI, nI_ltI, nI_eq, Nat.not_le, Nat.not_lt, Bool.not_eq_true, Bool.not_eq_false, not_true_eq_false, not_false_eq_true, Decidable.not_not] at cq
            rw [if_pos cq] at hT
            repeat (first | refine g_px rfl rfl rfl ?_)
            refine g_put hv 0 rfl rfl rfl rfl rfl rfl (fun h hv => ?_)
            repeat (first | refine g_px rfl rfl rfl ?_)
            refine g_callV hv [0, 1] 0 rfl rfl rfl rfl rfl rfl rfl rfl (by decide) (s_step sta d c n len fa pl td (nI (num c n i)) (nI i) (nI (knd c n i)) (bhd c n i) hc hn hb.2) (fun v w' h hp hk2 hv => ?_)
            obtain ⟨rfl, rfl⟩ := hp
            repeat (first | refine g_px rfl rfl rfl ?_)
            subst hT
            exact g_iret hv rfl rfl rfl rfl ⟨rfl, rfl⟩
          · simp (disch := omega) only [mj_cp, k_6, k_7, k_8, k_9, k_10, k_12, k_15, k_16, k_18, k_20, k_24, k_25, k_26, k_27, k_28, k_32, k_36, k_48, k_57, k_59, k_63, k_74, k_75, k_84, k_90, k_97, k_99, k_100, k_122, k_200, k_255, k_420, k_448, k_720, k_800, k_999, k_bit, k_shl, fa_and, nI_add, bl_1, bl_0, bl_n1, bl_n0, bl_i1, nI_lt0, nI_0le, nI_eq0, nI_eqT, nI_leI, nI_ltI, nI_eq, Nat.not_le, Nat.not_lt, Bool.not_eq_true, Bool.not_eq_false, not_true_eq_false, not_false_eq_true, Decidable.not_not] at cq
            rw [if_neg (by omega)] at hT
            repeat (first | refine g_px rfl rfl rfl ?_)
            refine g_callV hv [0] 0 rfl rfl rfl rfl rfl rfl rfl rfl (by decide) (s_fail sta (d + 2) len fa pl td va _ _ _ _ _) (fun v w' h hp hk2 hv => ?_)
            obtain ⟨rfl, rfl⟩ := hp
            subst hT
            exact g_iret hv rfl rfl rfl rfl ⟨rfl, rfl⟩
        · simp (disch := omega) only [mj_cp, k_6, k_7, k_8, k_9, k_10, k_12, k_15, k_16, k_18, k_20, k_24, k_25, k_26, k_27, k_28, k_32, k_36, k_48, k_57, k_59, k_63, k_74, k_75, k_84, k_90, k_97, k_99, k_100, k_122, k_200, k_255, k_420, k_448, k_720, k_800, k_999, k_bit, k_shl, fa_and, nI_add, bl_1, bl_0, bl_n1, bl_n0, bl_i1, nI_lt0, nI_0le, nI_eq0, nI_eqT, nI_leI, nI_ltI, nI_eq, Nat.not_le, Nat.not_lt, Bool.not_eq_true, Bool.not_eq_false, not_true_eq_false, not_false_eq_true, Decidable.not_not] at cq
          omega
      | succ y ih =>
        intro k h hk hv
        have hd := dg_48 _ (hc (i + k)) (num_in c n cq (k := i + k) (by omega) (by omega))
        repeat (first | refine g_px rfl rfl rfl ?_ | refine g_get hv 0 rfl rfl rfl rfl ?_)
        refine g_ic rfl (fun cq => ?_) (fun cq => ?_)
        · simp (disch := omega) only [mj_cp, k_6, k_7, k_8, k_9, k_10, k_12, k_15, k_16, k_18, k_20, k_24, k_25, k_26, k_27, k_28, k_32, k_36, k_48, k_57, k_59, k_63, k_74, k_75, k_84, k_90, k_97, k_99, k_100, k_122, k_200, k_255, k_420, k_448, k_720, k_800, k_999, k_bit, k_shl, fa_and, nI_add, bl_1, bl_0, bl_n1, bl_n0, bl_i1, nI_lt0, nI_0le, nI_eq0, nI_eqT, nI_leI, nI_ltI, nI_eq, Nat.not_le, Nat.not_lt, Bool.not_eq_true, Bool.not_eq_false, not_true_eq_false, not_false_eq_true, Decidable.not_not] at cq
          omega
        · repeat (first | refine g_px rfl rfl rfl ?_ | refine g_get hv 0 rfl rfl rfl rfl ?_)
          refine g_b8 hv 1 (k := i + k) (by omega) rfl rfl ?_
          rw [hd.2.2]
          refine g_run 6 rfl ?_
          have hnx := ih (k + 1) h (by omega) hv
          rw [nvl, ← Nat.add_assoc, nI_succ] at hnx
          rw [k_10, k_48, pk_mul, nI_add, pk_sub (by omega), show 10 * nvl c i k + c (i + k) - 48 = 10 * nvl c i k + (c (i + k) - 48) by omega]
          exact hnx
    refine g_run 3 rfl ?_
    refine g_get hv 0 rfl rfl rfl rfl ?_
    refine g_run 1 rfl ?_
    exact loop (bhd c n i - i) 0 h0 (by omega) hv
  · have cq : ¬ nI (knd c n i) = nI 2 := cq
    rw [nI_eq (by omega) (by decide)] at cq
    rw [if_neg cq] at hT
    repeat (first | refine g_px rfl rfl rfl ?_)
    refine g_callV hv [0] 0 rfl rfl rfl rfl rfl rfl rfl rfl (by decide) (s_fail sta (d + 2) len fa pl td va _ _ _ _ _) (fun v w' h hp hk2 hv => ?_)
    obtain ⟨rfl, rfl⟩ := hp
    subst hT
    exact g_iret hv rfl rfl rfl rfl ⟨rfl, rfl⟩
theorem okw_8 : okw w_draft ∧ okw w_man ∧ okw w_kin ∧ okw w_spares ∧ okw w_doctor ∧ okw w_went ∧ okw w_takes ∧ okw w_plain ∧ okw w_married ∧ okw w_short ∧ okw w_lame ∧ okw w_worth ∧ okw w_coins ∧ okw w_asks ∧ okw w_hits ∧ okw w_errs ∧ okw w_share := by
  unfold okw
  decide
theorem s_lineKind (hc : bd 256 c) (hn : n ≤ 800) (hi : i ≤ n) : mj_Sx sta (d + 3) 45 [.ref 1] [tpo c n i len fa pl td va, (2, ab c)] (fun v w => v = some (.int (nI (lkd c n i))) ∧ w = [tpo c n i len fa pl td va, (2, ab c)]) := by
  refine mj_Sx.mk m_X6_lineKind (by decide) n_X6_lineKind rfl (fun h0 hv => ?_)
  generalize hT : mj_rx m_X6_lineKind h0 _ _ = T
  have hk4 := knd_lt c n i
  obtain ⟨o1, o2, o3, o4, o5, o6, -⟩ := okw_8
  unfold lkd at hT
  repeat (first | refine g_px rfl rfl rfl ?_ | refine g_get hv 0 rfl rfl rfl rfl ?_)
  refine g_ic rfl (fun cq => ?_) (fun cq => ?_)
  · have cq : nI (knd c n i) = nI 1 := cq
    rw [nI_eq (by omega) (by decide)] at cq
    rw [if_neg (not_not_intro cq)] at hT
    repeat (first | refine g_px rfl rfl rfl ?_)
    refine g_callV hv [0, 1] 0 rfl rfl rfl rfl rfl rfl rfl rfl (by decide) (s_isWord sta d c n i len fa pl td va 0 _ w_draft rfl rfl o1 (by decide) hc hn hi) (fun v w' h hp hk2 hv => ?_)
    obtain ⟨rfl, rfl⟩ := hp
    refine g_if rfl (fun cq => ?_) (fun cq => ?_)
    · simp (disch := omega) only [mj_cp, k_6, k_7, k_8, k_9, k_10, k_12, k_15, k_16, k_18, k_20, k_24, k_25, k_26, k_27, k_28, k_32, k_36, k_48, k_57, k_59, k_63, k_74, k_75, k_84, k_90, k_97, k_99, k_100, k_122, k_200, k_255, k_420, k_448, k_720, k_800, k_999, k_bit, k_shl, fa_and, nI_add, bl_1, bl_0, bl_n1, bl_n0, bl_i1, nI_lt0, nI_0le, nI_eq0, nI_eqT, nI_leI, nI_ltI, nI_eq, Nat.not_le, Nat.not_lt, Bool.not_eq_true, Bool.not_eq_false, not_true_eq_false, not_false_eq_true, Decidable.not_not] at cq
      rw [if_neg (by rw [cq]; decide)] at hT
      repeat (first | refine g_px rfl rfl rfl ?_)
      refine g_callV hv [0, 1] 0 rfl rfl rfl rfl rfl rfl rfl rfl (by decide) (s_isWord sta d c n i len fa pl td va 1 _ w_man rfl rfl o2 (by decide) hc hn hi) (fun v w' h hp hk2 hv => ?_)
      obtain ⟨rfl, rfl⟩ := hp
      refine g_if rfl (fun cq => ?_) (fun cq => ?_)
      · simp (disch := omega) only [mj_cp, k_6, k_7, k_8, k_9, k_10, k_12, k_15, k_16, k_18, k_20, k_24, k_25, k_26, k_27, k_28, k_32, k_36, k_48, k_57, k_59, k_63, k_74, k_75, k_84, k_90, k_97, k_99, k_100, k_122, k_200, k_255, k_420, k_448, k_720, k_800, k_999, k_bit, k_shl, fa_and, nI_add, bl_1, bl_0, bl_n1, bl_n0, bl_i1, nI_lt0, nI_0le, nI_eq0, nI_eqT, nI_leI, nI_ltI, nI_eq, Nat.not_le, Nat.not_lt, Bool.not_eq_true, Bool.not_eq_false, not_true_eq_false, not_false_eq_true, Decidable.not_not] at cq
        rw [if_neg (by rw [cq]; decide)] at hT
        repeat (first | refine g_px rfl rfl rfl ?_)
        refine g_callV hv [0, 1] 0 rfl rfl rfl rfl rfl rfl rfl rfl (by decide) (s_isWord sta d c n i len fa pl td va 2 _ w_kin rfl rfl o3 (by decide) hc hn hi) (fun v w' h hp hk2 hv => ?_)
        obtain ⟨rfl, rfl⟩ := hp
        refine g_if rfl (fun cq => ?_) (fun cq => ?_)
        · simp (disch := omega) only [mj_cp, k_6, k_7, k_8, k_9, k_10, k_12, k_15, k_16, k_18, k_20, k_24, k_25, k_26, k_27, k_28, k_32, k_36, k_48, k_57, k_59, k_63, k_74, k_75, k_84, k_90, k_97, k_99, k_100, k_122, k_200, k_255, k_420, k_448, k_720, k_800, k_999, k_bit, k_shl, fa_and, nI_add, bl_1, bl_0, bl_n1, bl_n0, bl_i1, nI_lt0, nI_0le, nI_eq0, nI_eqT, nI_leI, nI_ltI, nI_eq, Nat.not_le, Nat.not_lt, Bool.not_eq_true, Bool.not_eq_false, not_true_eq_false, not_false_eq_true, Decidable.not_not] at cq
          rw [if_neg (by rw [cq]; decide)] at hT
          repeat (first | refine g_px rfl rfl rfl ?_)
          refine g_callV hv [0, 1] 0 rfl rfl rfl rfl rfl rfl rfl rfl (by decide) (s_isWord sta d c n i len fa pl td va 3 _ w_spares rfl rfl o4 (by decide) hc hn hi) (fun v w' h hp hk2 hv => ?_)
          obtain ⟨rfl, rfl⟩ := hp
          refine g_if rfl (fun cq => ?_) (fun cq => ?_)
          · simp (disch := omega) only [mj_cp, k_6, k_7, k_8, k_9, k_10, k_12, k_15, k_16, k_18, k_20, k_24, k_25, k_26, k_27, k_28, k_32, k_36, k_48, k_57, k_59, k_63, k_74, k_75, k_84, k_90, k_97, k_99, k_100, k_122, k_200, k_255, k_420, k_448, k_720, k_800, k_999, k_bit, k_shl, fa_and, nI_add, bl_1, bl_0, bl_n1, bl_n0, bl_i1, nI_lt0, nI_0le, nI_eq0, nI_eqT, nI_leI, nI_ltI, nI_eq, Nat.not_le, Nat.not_lt, Bool.not_eq_true, Bool.not_eq_false, not_true_eq_false, not_false_eq_true, Decidable.not_not] at cq
            rw [if_neg (by rw [cq]; decide)] at hT
            repeat (first | refine g_px rfl rfl rfl ?_)
            refine g_callV hv [0, 1] 0 rfl rfl rfl rfl rfl rfl rfl rfl (by decide) (s_isWord sta d c n i len fa pl td va 4 _ w_doctor rfl rfl o5 (by decide) hc hn hi) (fun v w' h hp hk2 hv => ?_)
            obtain ⟨rfl, rfl⟩ := hp
            refine g_if rfl (fun cq => ?_) (fun cq => ?_)
            · simp (disch := omega) only [mj_cp, k_6, k_7, k_8, k_9, k_10, k_12, k_15, k_16, k_18, k_20, k_24, k_25, k_26, k_27, k_28, k_32, k_36, k_48, k_57, k_59, k_63, k_74, k_75, k_84, k_90, k_97, k_99, k_100, k_122, k_200, k_255, k_420, k_448, k_720, k_800, k_999, k_bit, k_shl, fa_and, nI_add, bl_1, bl_0, bl_n1, bl_n0, bl_i1, nI_lt0, nI_0le, nI_eq0, nI_eqT, nI_leI, nI_ltI, nI_eq, Nat.not_le, Nat.not_lt, Bool.not_eq_true, Bool.not_eq_false, not_true_eq_false, not_false_eq_true, Decidable.not_not] at cq
              rw [if_neg (by rw [cq]; decide)] at hT
              repeat (first | refine g_px rfl rfl rfl ?_)
              refine g_callV hv [0, 1] 0 rfl rfl rfl rfl rfl rfl rfl rfl (by decide) (s_isWord sta d c n i len fa pl td va 5 _ w_went rfl rfl o6 (by decide) hc hn hi) (fun v w' h hp hk2 hv => ?_)
              obtain ⟨rfl, rfl⟩ := hp
              refine g_if rfl (fun cq => ?_) (fun cq => ?_)
              · simp (disch := omega) only [mj_cp, k_6, k_7, k_8, k_9, k_10, k_12, k_15, k_16, k_18, k_20, k_24, k_25, k_26, k_27, k_28, k_32, k_36, k_48, k_57, k_59, k_63, k_74, k_75, k_84, k_90, k_97, k_99, k_100, k_122, k_200, k_255, k_420, k_448, k_720, k_800, k_999, k_bit, k_shl, fa_and, nI_add, bl_1, bl_0, bl_n1, bl_n0, bl_i1, nI_lt0, nI_0le, nI_eq0, nI_eqT, nI_leI, nI_ltI, nI_eq, Nat.not_le, Nat.not_lt, Bool.not_eq_true, Bool.not_eq_false, not_true_eq_false, not_false_eq_true, Decidable.not_not] at cq
                rw [if_neg (by rw [cq]; decide)] at hT
                repeat (first | refine g_px rfl rfl rfl ?_)
                subst hT
                exact g_iret hv rfl rfl rfl rfl ⟨rfl, rfl⟩
              · simp (disch := omega) only [mj_cp, k_6, k_7, k_8, k_9, k_10, k_12, k_15, k_16, k_18, k_20, k_24, k_25, k_26, k_27, k_28, k_32, k_36, k_48, k_57, k_59, k_63, k_74, k_75, k_84, k_90, k_97, k_99, k_100, k_122, k_200, k_255, k_420, k_448, k_720, k_800, k_999, k_bit, k_shl, fa_and, nI_add, bl_1, bl_0, bl_n1, bl_n0, bl_i1, nI_lt0, nI_0le, nI_eq0, nI_eqT, nI_leI, nI_ltI, nI_eq, Nat.not_le, Nat.not_lt, Bool.not_eq_true, Bool.not_eq_false, not_true_eq_false, not_false_eq_true, Decidable.not_not] at cq
                rw [if_pos cq] at hT
                repeat (first | refine g_px rfl rfl rfl ?_)
                subst hT
                exact g_iret hv rfl rfl rfl rfl ⟨rfl, rfl⟩
            · simp (disch := omega) only [mj_cp, k_6, k_7, k_8, k_9, k_10, k_12, k_15, k_16, k_18, k_20, k_24, k_25, k_26, k_27, k_28, k_32, k_36, k_48, k_57, k_59, k_63, k_74, k_75, k_84, k_90, k_97, k_99, k_100, k_122, k_200, k_255, k_420, k_448, k_720, k_800, k_999, k_bit, k_shl, fa_and, nI_add, bl_1, bl_0, bl_n1, bl_n0, bl_i1, nI_lt0, nI_0le, nI_eq0, nI_eqT, nI_leI, nI_ltI, nI_eq, Nat.not_le, Nat.not_lt, Bool.not_eq_true, Bool.not_eq_false, not_true_eq_false, not_false_eq_true, Decidable.not_not] at cq
              rw [if_pos cq] at hT
              repeat (first | refine g_px rfl rfl rfl ?_)
              subst hT
              exact g_iret hv rfl rfl rfl rfl ⟨rfl, rfl⟩
          · simp (disch := omega) only [mj_cp, k_6, k_7, k_8, k_9, k_10, k_12, k_15, k_16, k_18, k_20, k_24, k_25, k_26, k_27, k_28, k_32, k_36, k_48, k_57, k_59, k_63, k_74, k_75, k_84, k_90, k_97, k_99, k_100, k_122, k_200, k_255, k_420, k_448, k_720, k_800, k_999, k_bit, k_shl, fa_and, nI_add, bl_1, bl_0, bl_n1, bl_n0, bl_i1, nI_lt0, nI_0le, nI_eq0, nI_eqT, nI_leI, nI_ltI, nI_eq, Nat.not_le, Nat.not_lt, Bool.not_eq_true, Bool.not_eq_false, not_true_eq_false, not_false_eq_true, Decidable.not_not] at cq
            rw [if_pos cq] at hT
            repeat (first | refine g_px rfl rfl rfl ?_)
            subst hT
            exact g_iret hv rfl rfl rfl rfl ⟨rfl, rfl⟩
        · simp (disch := omega) only [mj_cp, k_6, k_7, k_8, k_9, k_10, k_12, k_15, k_16, k_18, k_20, k_24, k_25, k_26, k_27, k_28, k_32, k_36, k_48, k_57, k_59, k_63, k_74, k_75, k_84, k_90, k_97, k_99, k_100, k_122, k_200, k_255, k_420, k_448, k_720, k_800, k_999, k_bit, k_shl, fa_and, nI_add, bl_1, bl_0, bl_n1, bl_n0, bl_i1, nI_lt0, nI_0le, nI_eq0, nI_eqT, nI_leI, nI_ltI, nI_eq, Nat.not_le, Nat.not_lt, Bool.not_eq_true, Bool.not_eq_false, not_true_eq_false, not_false_eq_true, Decidable.not_not] at cq
          rw [if_pos cq] at hT
          repeat (first | refine g_px rfl rfl rfl ?_)
          subst hT
          exact g_iret hv rfl rfl rfl rfl ⟨rfl, rfl⟩
      · simp (disch := omega) only [mj_cp, k_6, k_7, k_8, k_9, k_10, k_12, k_15, k_16, k_18, k_20, k_24, k_25, k_26, k_27, k_28, k_32, k_36, k_48, k_57, k_59, k_63, k_74, k_75, k_84, k_90, k_97, k_99, k_100, k_122, k_200, k_255, k_420, k_448, k_720, k_800, k_999, k_bit, k_shl, fa_and, nI_add, bl_1, bl_0, bl_n1, bl_n0, bl_i1, nI_lt0, nI_0le, nI_eq0, nI_eqT, nI_leI, nI_ltI, nI_eq, Nat.not_le, Nat.not_lt, Bool.not_eq_true, Bool.not_eq_false, not_true_eq_false, not_false_eq_true, Decidable.not_not] at cq
        rw [if_pos cq] at hT
        repeat (first | refine g_px rfl rfl rfl ?_)
        subst hT
        exact g_iret hv rfl rfl rfl rfl ⟨rfl, rfl⟩
    · simp (disch := omega) only [mj_cp, k_6, k_7, k_8, k_9, k_10, k_12, k_15, k_16, k_18, k_20, k_24, k_25, k_26, k_27, k_28, k_32, k_36, k_48, k_57, k_59, k_63, k_74, k_75, k_84, k_90, k_97, k_99, k_100, k_122, k_200, k_255, k_420, k_448, k_720, k_800, k_999, k_bit, k_shl, fa_and, nI_add, bl_1, bl_0, bl_n1, bl_n0, bl_i1, nI_lt0, nI_0le, nI_eq0, nI_eqT, nI_leI, nI_ltI, nI_eq, Nat.not_le, Nat.not_lt, Bool.not_eq_true, Bool.not_eq_false, not_true_eq_false, not_false_eq_true, Decidable.not_not] at cq
      rw [if_pos cq] at hT
      repeat (first | refine g_px rfl rfl rfl ?_)
      subst hT
      exact g_iret hv rfl rfl rfl rfl ⟨rfl, rfl⟩
  · have cq : ¬ nI (knd c n i) = nI 1 := cq
    rw [nI_eq (by omega) (by decide)] at cq
    rw [if_pos cq] at hT
    repeat (first | refine g_px rfl rfl rfl ?_)
    subst hT
    exact g_iret hv rfl rfl rfl rfl ⟨rfl, rfl⟩
theorem s_namedSort (hc : bd 256 c) (hn : n ≤ 800) (hi : i ≤ n) : mj_Sx sta (d + 3) 58 [.ref 1] [tpo c n i len fa pl td va, (2, ab c)] (fun v w => v = some (.int (snd (srt c n i))) ∧ w = [tpo c n i len fa pl td va, (2, ab c)]) := by
  refine mj_Sx.mk m_X6_namedSort (by decide) n_X6_namedSort rfl (fun h0 hv => ?_)
  generalize hT : mj_rx m_X6_namedSort h0 _ _ = T
  obtain ⟨-, -, -, -, -, -, -, o1, o2, o3, o4, -⟩ := okw_8
  unfold srt at hT
  repeat (first | refine g_px rfl rfl rfl ?_)
  refine g_callV hv [0, 1] 0 rfl rfl rfl rfl rfl rfl rfl rfl (by decide) (s_isWord sta d c n i len fa pl td va 7 _ w_plain rfl rfl o1 (by decide) hc hn hi) (fun v w' h hp hk2 hv => ?_)
  obtain ⟨rfl, rfl⟩ := hp
  refine g_if rfl (fun cq => ?_) (fun cq => ?_)
  · simp (disch := omega) only [mj_cp, k_6, k_7, k_8, k_9, k_10, k_12, k_15, k_16, k_18, k_20, k_24, k_25, k_26, k_27, k_28, k_32, k_36, k_48, k_57, k_59, k_63, k_74, k_75, k_84, k_90, k_97, k_99, k_100, k_122, k_200, k_255, k_420, k_448, k_720, k_800, k_999, k_bit, k_shl, fa_and, nI_add, bl_1, bl_0, bl_n1, bl_n0, bl_i1, nI_lt0, nI_0le, nI_eq0, nI_eqT, nI_leI, nI_ltI, nI_eq, Nat.not_le, Nat.not_lt, Bool.not_eq_true, Bool.not_eq_false, not_true_eq_false, not_false_eq_true, Decidable.not_not] at cq
    rw [if_neg (by rw [cq]; decide)] at hT
    repeat (first | refine g_px rfl rfl rfl ?_)
    refine g_callV hv [0, 1] 0 rfl rfl rfl rfl rfl rfl rfl rfl (by decide) (s_isWord sta d c n i len fa pl td va 8 _ w_married rfl rfl o2 (by decide) hc hn hi) (fun v w' h hp hk2 hv => ?_)
    obtain ⟨rfl, rfl⟩ := hp
    refine g_if rfl (fun cq => ?_) (fun cq => ?_)
    · simp (disch := omega) only [mj_cp, k_6, k_7, k_8, k_9, k_10, k_12, k_15, k_16, k_18, k_20, k_24, k_25, k_26, k_27, k_28, k_32, k_36, k_48, k_57, k_59, k_63, k_74, k_75, k_84, k_90, k_97, k_99, k_100, k_122, k_200, k_255, k_420, k_448, k_720, k_800, k_999, k_bit, k_shl, fa_and, nI_add, bl_1, bl_0, bl_n1, bl_n0, bl_i1, nI_lt0, nI_0le, nI_eq0, nI_eqT, nI_leI, nI_ltI, nI_eq, Nat.not_le, Nat.not_lt, Bool.not_eq_true, Bool.not_eq_false, not_true_eq_false, not_false_eq_true, Decidable.not_not] at cq
      rw [if_neg (by rw [cq]; decide)] at hT
      repeat (first | refine g_px rfl rfl rfl ?_)
      refine g_callV hv [0, 1] 0 rfl rfl rfl rfl rfl rfl rfl rfl (by decide) (s_isWord sta d c n i len fa pl td va 9 _ w_short rfl rfl o3 (by decide) hc hn hi) (fun v w' h hp hk2 hv => ?_)
      obtain ⟨rfl, rfl⟩ := hp
      refine g_if rfl (fun cq => ?_) (fun cq => ?_)
      · simp (disch := omega) only [mj_cp, k_6, k_7, k_8, k_9, k_10, k_12, k_15, k_16, k_18, k_20, k_24, k_25, k_26, k_27, k_28, k_32, k_36, k_48, k_57, k_59, k_63, k_74, k_75, k_84, k_90, k_97, k_99, k_100, k_122, k_200, k_255, k_420, k_448, k_720, k_800, k_999, k_bit, k_shl, fa_and, nI_add, bl_1, bl_0, bl_n1, bl_n0, bl_i1, nI_lt0, nI_0le, nI_eq0, nI_eqT, nI_leI, nI_ltI, nI_eq, Nat.not_le, Nat.not_lt, Bool.not_eq_true, Bool.not_eq_false, not_true_eq_false, not_false_eq_true, Decidable.not_not] at cq
        rw [if_neg (by rw [cq]; decide)] at hT
        repeat (first | refine g_px rfl rfl rfl ?_)
        refine g_callV hv [0, 1] 0 rfl rfl rfl rfl rfl rfl rfl rfl (by decide) (s_isWord sta d c n i len fa pl td va 10 _ w_lame rfl rfl o4 (by decide) hc hn hi) (fun v w' h hp hk2 hv => ?_)
        obtain ⟨rfl, rfl⟩ := hp
        refine g_if rfl (fun cq => ?_) (fun cq => ?_)
        · simp (disch := omega) only [mj_cp, k_6, k_7, k_8, k_9, k_10, k_12, k_15, k_16, k_18, k_20, k_24, k_25, k_26, k_27, k_28, k_32, k_36, k_48, k_57, k_59, k_63, k_74, k_75, k_84, k_90, k_97, k_99, k_100, k_122, k_200, k_255, k_420, k_448, k_720, k_800, k_999, k_bit, k_shl, fa_and, nI_add, bl_1, bl_0, bl_n1, bl_n0, bl_i1, nI_lt0, nI_0le, nI_eq0, nI_eqT, nI_leI, nI_ltI, nI_eq, Nat.not_le, Nat.not_lt, Bool.not_eq_true, Bool.not_eq_false, not_true_eq_false, not_false_eq_true, Decidable.not_not] at cq
          rw [if_neg (by rw [cq]; decide)] at hT
          repeat (first | refine g_px rfl rfl rfl ?_)
          subst hT
          exact g_iret hv rfl rfl rfl rfl ⟨rfl, rfl⟩
        · simp (disch := omega) only [mj_cp, k_6, k_7, k_8, k_9, k_10, k_12, k_15, k_16, k_18, k_20, k_24, k_25, k_26, k_27, k_28, k_32, k_36, k_48, k_57, k_59, k_63, k_74, k_75, k_84, k_90, k_97, k_99, k_100, k_122, k_200, k_255, k_420, k_448, k_720, k_800, k_999, k_bit, k_shl, fa_and, nI_add, bl_1, bl_0, bl_n1, bl_n0, bl_i1, nI_lt0, nI_0le, nI_eq0, nI_eqT, nI_leI, nI_ltI, nI_eq, Nat.not_le, Nat.not_lt, Bool.not_eq_true, Bool.not_eq_false, not_true_eq_false, not_false_eq_true, Decidable.not_not] at cq
          rw [if_pos cq] at hT
          repeat (first | refine g_px rfl rfl rfl ?_)
          subst hT
          exact g_iret hv rfl rfl rfl rfl ⟨rfl, rfl⟩
      · simp (disch := omega) only [mj_cp, k_6, k_7, k_8, k_9, k_10, k_12, k_15, k_16, k_18, k_20, k_24, k_25, k_26, k_27, k_28, k_32, k_36, k_48, k_57, k_59, k_63, k_74, k_75, k_84, k_90, k_97, k_99, k_100, k_122, k_200, k_255, k_420, k_448, k_720, k_800, k_999, k_bit, k_shl, fa_and, nI_add, bl_1, bl_0, bl_n1, bl_n0, bl_i1, nI_lt0, nI_0le, nI_eq0, nI_eqT, nI_leI, nI_ltI, nI_eq, Nat.not_le, Nat.not_lt, Bool.not_eq_true, Bool.not_eq_false, not_true_eq_false, not_false_eq_true, Decidable.not_not] at cq
        rw [if_pos cq] at hT
        repeat (first | refine g_px rfl rfl rfl ?_)
        subst hT
        exact g_iret hv rfl rfl rfl rfl ⟨rfl, rfl⟩
    · simp (disch := omega) only [mj_cp, k_6, k_7, k_8, k_9, k_10, k_12, k_15, k_16, k_18, k_20, k_24, k_25, k_26, k_27, k_28, k_32, k_36, k_48, k_57, k_59, k_63, k_74, k_75, k_84, k_90, k_97, k_99, k_100, k_122, k_200, k_255, k_420, k_448, k_720, k_800, k_999, k_bit, k_shl, fa_and, nI_add, bl_1, bl_0, bl_n1, bl_n0, bl_i1, nI_lt0, nI_0le, nI_eq0, nI_eqT, nI_leI, nI_ltI, nI_eq, Nat.not_le, Nat.not_lt, Bool.not_eq_true, Bool.not_eq_false, not_true_eq_false, not_false_eq_true, Decidable.not_not] at cq
      rw [if_pos cq] at hT
      repeat (first | refine g_px rfl rfl rfl ?_)
      subst hT
      exact g_iret hv rfl rfl rfl rfl ⟨rfl, rfl⟩
  · simp (disch := omega) only [mj_cp, k_6, k_7, k_8, k_9, k_10, k_12, k_15, k_16, k_18, k_20, k_24, k_25, k_26, k_27, k_28, k_32, k_36, k_48, k_57, k_59, k_63, k_74, k_75, k_84, k_90, k_97, k_99, k_100, k_122, k_200, k_255, k_420, k_448, k_720, k_800, k_999, k_bit, k_shl, fa_and, nI_add, bl_1, bl_0, bl_n1, bl_n0, bl_i1, nI_lt0, nI_0le, nI_eq0, nI_eqT, nI_leI, nI_ltI, nI_eq, Nat.not_le, Nat.not_lt, Bool.not_eq_true, Bool.not_eq_false, not_true_eq_false, not_false_eq_true, Decidable.not_not] at cq
    rw [if_pos cq] at hT
    repeat (first | refine g_px rfl rfl rfl ?_)
    subst hT
    exact g_iret hv rfl rfl rfl rfl ⟨rfl, rfl⟩
end Wd
