/-! Tape: bytes and tokens -/
theorem mj_Sx.str {sta : mj_S} {d j : Nat} {r : String × Nat × String} {ws : List Nat} (hr : mj_nth mj_str j = some r) (hw : r.2.2.toList.map Char.toNat = ws) : mj_Sx sta (d + 1) 1 [.ref (mj_SB + j)] [] (fun v w => v = some (.int (nI ws.length)) ∧ w = []) := by
  intro h hv
  refine ⟨_, [], h, ⟨rfl, rfl⟩, rfl, ⟨hv, mj_eq.rf⟩, Or.inl ⟨Or.inr (Or.inl ⟨rfl, j, r, rfl, hr, ?_, rfl⟩), fun z => absurd z (by decide)⟩⟩
  rw [← hw, List.length_map]
  rfl
theorem mj_Sx.chr {sta : mj_S} {d j k : Nat} {r : String × Nat × String} {ws : List Nat} {x : Nat} (hr : mj_nth mj_str j = some r) (hw : r.2.2.toList.map Char.toNat = ws) (hx : mj_nth ws k = some x) : mj_Sx sta (d + 1) 2 [.ref (mj_SB + j), .int (nI k)] [] (fun v w => v = some (.int (nI x)) ∧ w = []) := by
  intro h hv
  have : ∃ ch, mj_nth r.2.2.toList k = some ch ∧ ch.toNat = x := by
    rw [← hw, mj_nth_map] at hx
    cases hc : mj_nth r.2.2.toList k with
    | none => rw [hc] at hx; cases hx
    | some ch => rw [hc] at hx; cases hx; exact ⟨ch, rfl, rfl⟩
  obtain ⟨ch, h1, h2⟩ := this
  refine ⟨_, [], h, ⟨rfl, rfl⟩, rfl, ⟨hv, mj_eq.rf⟩, Or.inl ⟨Or.inr (Or.inr (Or.inl ⟨rfl, j, r, k, ch, rfl, hr, h1, ?_, rfl⟩)), fun z => absurd z (by decide)⟩⟩
  rw [← h2]
  rfl
section MJB2
variable {sta : mj_S} {d : Nat} {M : mj_M} {T : Nat → mj_L → List Value → mj_H → Prop} {pc : Nat} {lv : mj_L} {st rest as : List Value} {h0 h : mj_H} {w : mj_W} {x : Value} {q len wp c : Nat} {raw : Instr}
/-- a builtin's call -/
theorem g_callB (hv : mj_Vw h0 w h) (he : mj_ent (mj_cd M) pc = some (q, .invokevirtual c, len, raw, wp)) (hlen : Nat.ble (c / 16 % 16) st.length = true) (has : (st.take (c / 16 % 16)).reverse = as) (hb : Nat.ble (c / 256 + 1) 4 = true) (hdr : st.drop (c / 16 % 16) = rest) (hcat : Nat.ble (rest.map Value.category).sum 8 = true)
    (hS : mj_Sx sta d (c / 256) as [] (fun v w => v = some x ∧ w = [])) (k : ∀ h', mj_Vw h0 w h' → mj_go sta (mj_Cl sta d) M T (q + 3) lv (x :: rest) h') : mj_go sta (mj_Cl sta d) M T pc lv st h := by
  subst has; subst hdr
  obtain ⟨v, w', h', ⟨rfl, rfl⟩, h2, h3, h4⟩ := hS h ⟨⟨List.nodup_nil, hv.1.1.2⟩, fun j a e hj => by simp [mj_nth] at hj⟩
  have e1 := mj_ent_pc he
  dsimp only at e1
  subst e1
  have h5 : mj_Vw h0 w h' := by
    have := mj_Vw.call (is := []) hv rfl List.nodup_nil h2 h3
    have e : mj_pb w [] [] = w := by
      have : ∀ (i : Nat) (w : mj_W), mj_pbx [] [] i w = w := by
        intro i w
        induction w generalizing i with
        | nil => rfl
        | cons x t ih => rw [mj_pbx, ih]; rfl
      exact this 0 w
    rwa [e] at this
  exact mj_go.call he rfl (Nat.le_of_ble_eq_true hlen) (Or.inl (Nat.lt_of_succ_le (Nat.le_of_ble_eq_true hb))) (Nat.le_of_ble_eq_true hcat) h4 (k h' h5)
end MJB2
abbrev tpg (len fa pl en at_ be ki td va : Int32) : List Value := [.ref 2, .int len, .int fa, .int pl, .int en, .int at_, .int be, .int ki, .int td, .int va, .ref 3, .ref 4]
abbrev tpo (c : Nat → Nat) (n i : Nat) (len fa pl td va : Int32) : Nat × va_E := (1, .inr (6, tpg len fa pl (nI n) (nI i) (nI (bhd c n i)) (nI (knd c n i)) td va))
section R8
variable {sta : mj_S} {Cl : mj_R} {M : mj_M} {T : Nat → mj_L → List Value → mj_H → Prop} {pc q len wp a k : Nat} {lv : mj_L} {st r : List Value} {h0 h : mj_H} {w : mj_W} {raw : Instr} {f : Nat → Nat}
theorem g_b8 (hv : mj_Vw h0 w h) (j : Nat) (hk : k < 800) (he : mj_ent (mj_cd M) pc = some (q, .baload, len, raw, wp)) (hj : mj_nth w j = some (a, ab f)) (kk : mj_go sta Cl M T (q + len) lv (.int (sb (f k)) :: r) h) : mj_go sta Cl M T pc lv (.int (nI k) :: .ref a :: r) h := by
  refine g_bald hv j he hj (vp_in_nI hk (by decide)) ?_
  rw [nI_clamp (by omega), if_pos hk]
  exact kk
theorem g_b8s {y : Int32} (hv : mj_Vw h0 w h) (j : Nat) (hk : k < 800) (he : mj_ent (mj_cd M) pc = some (q, .bastore, len, raw, wp)) (hj : mj_nth w j = some (a, ab f)) (kk : ∀ h, mj_Vw h0 (w.set j (a, ab (va_up f k (bnat y)))) h → mj_go sta Cl M T (q + len) lv r h) : mj_go sta Cl M T pc lv (.int y.toInt8.toInt32 :: .int (nI k) :: .ref a :: r) h := by
  refine g_bast hv j he hj (vp_in_nI hk (by decide)) (fun h hv => ?_)
  have e : upd (fun i => if i < 800 then sb (f i) else (0 : Int32)) k (sb (bnat y)) = (fun i => if i < 800 then sb (va_up f k (bnat y) i) else 0) := by
    funext i
    unfold upd va_up
    by_cases h : i = k
    · subst h; simp [hk]
    · simp [h]
  rw [nI_clamp (by omega), nar_b, e] at hv
  exact kk h hv
end R8
theorem s_isBetween (sta : mj_S) (d : Nat) (x y z : Int32) : mj_Sx sta (d + 1) 42 [.int x, .int y, .int z] [] (fun v w => v = some (.int (bl (decide (y ≤ x) && decide (x ≤ z)))) ∧ w = []) := by
  refine mj_Sx.mk m_X6_isBetween (by decide) n_X6_isBetween rfl (fun h0 hv => ?_)
  generalize hT : mj_rx m_X6_isBetween h0 _ _ = T
  repeat (first | refine g_px rfl rfl rfl ?_)
  refine g_ic rfl (fun cq => ?_) (fun cq => ?_)
  · have cq : x < y := cq
    repeat (first | refine g_px rfl rfl rfl ?_)
    subst hT
    refine g_iret hv rfl rfl rfl rfl ?_
    exact ⟨by rw [decide_eq_false (Int32.not_le.mpr cq)]; rfl, rfl⟩
  · have cq : ¬ x < y := cq
    repeat (first | refine g_px rfl rfl rfl ?_)
    refine g_ic rfl (fun cq2 => ?_) (fun cq2 => ?_)
    · have cq2 : z < x := cq2
      repeat (first | refine g_px rfl rfl rfl ?_)
      subst hT
      refine g_iret hv rfl rfl rfl rfl ?_
      exact ⟨by rw [decide_eq_false (p := x ≤ z) (Int32.not_le.mpr cq2), Bool.and_false]; rfl, rfl⟩
    · have cq2 : ¬ z < x := cq2
      repeat (first | refine g_px rfl rfl rfl ?_)
      subst hT
      refine g_iret hv rfl rfl rfl rfl ?_
      exact ⟨by rw [decide_eq_true (Int32.not_lt.mp cq), decide_eq_true (Int32.not_lt.mp cq2)]; rfl, rfl⟩
section Tp
variable (sta : mj_S) (d : Nat) (c : Nat → Nat) (n : Nat) (len fa pl td va : Int32)
theorem s_fail (y en at_ be ki : Int32) : mj_Sx sta (d + 1) 40 [.ref 1, .int y] [(1, .inr (6, tpg len fa pl en at_ be ki td va))] (fun v w => v = some (.int (bl false)) ∧ w = [(1, .inr (6, tpg len y at_ en at_ be ki td va))]) := by
  refine mj_Sx.mk m_X6_fail (by decide) n_X6_fail rfl (fun h0 hv => ?_)
  generalize hT : mj_rx m_X6_fail h0 _ _ = T
  repeat (first | refine g_px rfl rfl rfl ?_)
  refine g_put hv 0 rfl rfl rfl rfl rfl rfl (fun h hv => ?_)
  repeat (first | refine g_px rfl rfl rfl ?_ | refine g_get hv 0 rfl rfl rfl rfl ?_)
  refine g_put hv 0 rfl rfl rfl rfl rfl rfl (fun h hv => ?_)
  repeat (first | refine g_px rfl rfl rfl ?_)
  subst hT
  exact g_iret hv rfl rfl rfl rfl ⟨rfl, rfl⟩
theorem s_runEnd (p : Nat → Bool) (x y be ki : Int32) (a : Nat) (hc : bd 256 c) (hn : n ≤ 800) (ha : a ≤ n) (hp : ∀ k, k < 256 → (decide (x ≤ sb k) && decide (sb k ≤ y)) = p k) : mj_Sx sta (d + 2) 43 [.ref 1, .int x, .int y] [(1, .inr (6, tpg len fa pl (nI n) (nI a) be ki td va)), (2, ab c)] (fun v w => v = some (.int (nI (rn p c n a))) ∧ w = [(1, .inr (6, tpg len fa pl (nI n) (nI a) be ki td va)), (2, ab c)]) := by
  refine mj_Sx.mk m_X6_runEnd (by decide) n_X6_runEnd rfl (fun h0 hv => ?_)
  generalize hT : mj_rx m_X6_runEnd h0 _ _ = T
  have loop : ∀ j k h, k + j = n → rn p c n a = rn p c n k → mj_Vw h0 [(1, .inr (6, tpg len fa pl (nI n) (nI a) be ki td va)), (2, ab c)] h → mj_go sta (mj_Cl sta (d + 1)) m_X6_runEnd T 5 [some (.ref 1), some (.int x), some (.int y), some (.int (nI k))] [] h := by
    intro j
    induction j with
    | zero =>
      intro k h hk he hv
      have hk : k = n := by omega
      subst hk
      repeat (first | refine g_px rfl rfl rfl ?_ | refine g_get hv 0 rfl rfl rfl rfl ?_)
      refine g_ic rfl (fun cq => ?_) (fun cq => ?_)
      · repeat (first | refine g_px rfl rfl rfl ?_)
        rw [rn_end (Nat.le_refl k)] at he
        subst hT
        refine g_iret hv rfl rfl rfl rfl ?_
        exact ⟨by rw [he], rfl⟩
      · simp (disch := omega) only [mj_cp, k_6, k_7, k_8, k_9, k_10, k_12, k_15, k_16, k_18, k_20, k_24, k_25, k_26, k_27, k_28, k_32, k_36, k_48, k_57, k_59, k_63, k_74, k_75, k_84, k_90, k_97, k_99, k_100, k_122, k_200, k_255, k_420, k_448, k_720, k_800, k_999, k_bit, k_shl, fa_and, nI_add, bl_1, bl_0, bl_n1, bl_n0, bl_i1, nI_lt0, nI_0le, nI_eq0, nI_eqT, nI_leI, nI_ltI, nI_eq, Nat.not_le, Nat.not_lt, Bool.not_eq_true, Bool.not_eq_false, not_true_eq_false, not_false_eq_true, Decidable.not_not] at cq
        omega
    | succ j ih =>
      intro k h hk he hv
      repeat (first | refine g_px rfl rfl rfl ?_ | refine g_get hv 0 rfl rfl rfl rfl ?_)
      refine g_ic rfl (fun cq => ?_) (fun cq => ?_)
      · simp (disch := omega) only [mj_cp, k_6, k_7, k_8, k_9, k_10, k_12, k_15, k_16, k_18, k_20, k_24, k_25, k_26, k_27, k_28, k_32, k_36, k_48, k_57, k_59, k_63, k_74, k_75, k_84, k_90, k_97, k_99, k_100, k_122, k_200, k_255, k_420, k_448, k_720, k_800, k_999, k_bit, k_shl, fa_and, nI_add, bl_1, bl_0, bl_n1, bl_n0, bl_i1, nI_lt0, nI_0le, nI_eq0, nI_eqT, nI_leI, nI_ltI, nI_eq, Nat.not_le, Nat.not_lt, Bool.not_eq_true, Bool.not_eq_false, not_true_eq_false, not_false_eq_true, Decidable.not_not] at cq
        omega
      · repeat (first | refine g_px rfl rfl rfl ?_ | refine g_get hv 0 rfl rfl rfl rfl ?_)
        refine g_b8 hv 1 (k := k) (by omega) rfl rfl ?_
        repeat (first | refine g_px rfl rfl rfl ?_)
        refine g_callS hv [] rfl rfl rfl rfl rfl rfl rfl (by decide) (s_isBetween sta d (sb (c k)) x y) (fun v w' h hp hk2 hv => ?_)
        obtain ⟨rfl, rfl⟩ := hp
        rw [hp (c k) (hc k)]
        refine g_if rfl (fun cq => ?_) (fun cq => ?_)
        · simp (disch := omega) only [mj_cp, k_6, k_7, k_8, k_9, k_10, k_12, k_15, k_16, k_18, k_20, k_24, k_25, k_26, k_27, k_28, k_32, k_36, k_48, k_57, k_59, k_63, k_74, k_75, k_84, k_90, k_97, k_99, k_100, k_122, k_200, k_255, k_420, k_448, k_720, k_800, k_999, k_bit, k_shl, fa_and, nI_add, bl_1, bl_0, bl_n1, bl_n0, bl_i1, nI_lt0, nI_0le, nI_eq0, nI_eqT, nI_leI, nI_ltI, nI_eq, Nat.not_le, Nat.not_lt, Bool.not_eq_true, Bool.not_eq_false, not_true_eq_false, not_false_eq_true, Decidable.not_not] at cq
          rw [rn_no (by omega) cq] at he
          repeat (first | refine g_px rfl rfl rfl ?_)
          subst hT
          refine g_iret hv rfl rfl rfl rfl ?_
          exact ⟨by rw [he], rfl⟩
        · simp (disch := omega) only [mj_cp, k_6, k_7, k_8, k_9, k_10, k_12, k_15, k_16, k_18, k_20, k_24, k_25, k_26, k_27, k_28, k_32, k_36, k_48, k_57, k_59, k_63, k_74, k_75, k_84, k_90, k_97, k_99, k_100, k_122, k_200, k_255, k_420, k_448, k_720, k_800, k_999, k_bit, k_shl, fa_and, nI_add, bl_1, bl_0, bl_n1, bl_n0, bl_i1, nI_lt0, nI_0le, nI_eq0, nI_eqT, nI_leI, nI_ltI, nI_eq, Nat.not_le, Nat.not_lt, Bool.not_eq_true, Bool.not_eq_false, not_true_eq_false, not_false_eq_true, Decidable.not_not] at cq
          rw [rn_yes (by omega) cq] at he
          refine g_run 2 rfl ?_
          have hnx := ih (k + 1) h (by omega) he hv
          rw [nI_succ] at hnx
          exact hnx
  refine g_run 1 rfl ?_
  refine g_get hv 0 rfl rfl rfl rfl ?_
  refine g_run 1 rfl ?_
  exact loop (n - a) a h0 (by omega) rfl hv
theorem s_step (at0 ki0 : Int32) (i : Nat) (hc : bd 256 c) (hn : n ≤ 800) (hi : i ≤ n) : mj_Sx sta (d + 3) 41 [.ref 1] [(1, .inr (6, tpg len fa pl (nI n) at0 (nI i) ki0 td va)), (2, ab c)] (fun v w => v = none ∧ w = [tpo c n (rn blk_ c n i) len fa pl td va, (2, ab c)]) := by
  refine mj_Sx.mk m_X6_step (by decide) n_X6_step rfl (fun h0 hv => ?_)
  generalize hT : mj_rx m_X6_step h0 _ _ = T
  have ha := rn_ge (p := blk_) (c := c) hi
  have hks : ∀ (x y z u : Int32), mj_ks [(1, (.inr (6, tpg len fa pl (nI n) x y z td va) : va_E)), (2, ab c)] = [1, 2] := fun _ _ _ _ => rfl
  generalize ha' : rn blk_ c n i = a at *
  have fin : ∀ e kq h, e = bhd c n a → kq = knd c n a → mj_Vw h0 [(1, .inr (6, tpg len fa pl (nI n) (nI a) (nI i) (nI kq) td va)), (2, ab c)] h → mj_go sta (mj_Cl sta (d + 2)) m_X6_step T 173 [some (.ref 1), some (.int (nI e))] [] h := by
    intro e kq h he hk hv
    subst he; subst hk
    repeat (first | refine g_px rfl rfl rfl ?_)
    refine g_put hv 0 rfl rfl rfl rfl rfl rfl (fun h hv => ?_)
    subst hT
    exact g_vret hv rfl rfl rfl ⟨rfl, rfl⟩
  have at30 : ∀ h, mj_Vw h0 [(1, .inr (6, tpg len fa pl (nI n) at0 (nI i) ki0 td va)), (2, ab c)] h → mj_go sta (mj_Cl sta (d + 2)) m_X6_step T 30 [some (.ref 1), some (.int (nI a))] [] h := by
    intro h hv
    repeat (first | refine g_px rfl rfl rfl ?_)
    refine g_put hv 0 rfl rfl rfl rfl rfl rfl (fun h hv => ?_)
    repeat (first | refine g_px rfl rfl rfl ?_)
    refine g_put hv 0 rfl rfl rfl rfl rfl rfl (fun h hv => ?_)
    have hv : mj_Vw h0 ([(1, .inr (6, tpg len fa pl (nI n) (nI a) (nI i) (nI 0) td va)), (2, ab c)]) h := hv
    repeat (first | refine g_px rfl rfl rfl ?_ | refine g_get hv 0 rfl rfl rfl rfl ?_)
    refine g_ic rfl (fun cq => ?_) (fun cq => ?_)
    · simp (disch := omega) only [mj_cp, k_6, k_7, k_8, k_9, k_10, k_12, k_15, k_16, k_18, k_20, k_24, k_25, k_26, k_27, k_28, k_32, k_36, k_48, k_57, k_59, k_63, k_74, k_75, k_84, k_90, k_97, k_99, k_100, k_122, k_200, k_255, k_420, k_448, k_720, k_800, k_999, k_bit, k_shl, fa_and, nI_add, bl_1, bl_0, bl_n1, bl_n0, bl_i1, nI_lt0, nI_0le, nI_eq0, nI_eqT, nI_leI, nI_ltI, nI_eq, Nat.not_le, Nat.not_lt, Bool.not_eq_true, Bool.not_eq_false, not_true_eq_false, not_false_eq_true, Decidable.not_not] at cq
      exact fin a 0 h (by rw [bhd, if_pos cq]) (by rw [knd, if_pos cq]) hv
    · simp (disch := omega) only [mj_cp, k_6, k_7, k_8, k_9, k_10, k_12, k_15, k_16, k_18, k_20, k_24, k_25, k_26, k_27, k_28, k_32, k_36, k_48, k_57, k_59, k_63, k_74, k_75, k_84, k_90, k_97, k_99, k_100, k_122, k_200, k_255, k_420, k_448, k_720, k_800, k_999, k_bit, k_shl, fa_and, nI_add, bl_1, bl_0, bl_n1, bl_n0, bl_i1, nI_lt0, nI_0le, nI_eq0, nI_eqT, nI_leI, nI_ltI, nI_eq, Nat.not_le, Nat.not_lt, Bool.not_eq_true, Bool.not_eq_false, not_true_eq_false, not_false_eq_true, Decidable.not_not] at cq
      have hlt : ¬ n ≤ a := by omega
      have h256 := hc a
      repeat (first | refine g_px rfl rfl rfl ?_ | refine g_get hv 0 rfl rfl rfl rfl ?_)
      refine g_b8 hv 1 (k := a) (by omega) rfl rfl ?_
      repeat (first | refine g_px rfl rfl rfl ?_)
      refine g_ic rfl (fun cq => ?_) (fun cq => ?_)
      · have cq : ¬ sb (c a) = (Int8.ofInt 59).toInt32 := cq
        have h59 : ¬ c a = 59 := fun z => cq ((sb_59 _ h256).mpr z)
        repeat (first | refine g_px rfl rfl rfl ?_ | refine g_get hv 0 rfl rfl rfl rfl ?_)
        refine g_b8 hv 1 (k := a) (by omega) rfl rfl ?_
        repeat (first | refine g_px rfl rfl rfl ?_)
        refine g_callS hv [] rfl rfl rfl rfl rfl rfl rfl (by decide) (s_isBetween sta (d + 1) (sb (c a)) _ _) (fun v w' h hp hk2 hv => ?_)
        obtain ⟨rfl, rfl⟩ := hp
        rw [sb_ltr _ h256]
        refine g_if rfl (fun cq => ?_) (fun cq => ?_)
        · simp (disch := omega) only [mj_cp, k_6, k_7, k_8, k_9, k_10, k_12, k_15, k_16, k_18, k_20, k_24, k_25, k_26, k_27, k_28, k_32, k_36, k_48, k_57, k_59, k_63, k_74, k_75, k_84, k_90, k_97, k_99, k_100, k_122, k_200, k_255, k_420, k_448, k_720, k_800, k_999, k_bit, k_shl, fa_and, nI_add, bl_1, bl_0, bl_n1, bl_n0, bl_i1, nI_lt0, nI_0le, nI_eq0, nI_eqT, nI_leI, nI_ltI, nI_eq, Nat.not_le, Nat.not_lt, Bool.not_eq_true, Bool.not_eq_false, not_true_eq_false, not_false_eq_true, Decidable.not_not] at cq
          have hl : ¬ ltr (c a) = true := by rw [cq]; decide
          repeat (first | refine g_px rfl rfl rfl ?_ | refine g_get hv 0 rfl rfl rfl rfl ?_)
          refine g_b8 hv 1 (k := a) (by omega) rfl rfl ?_
          repeat (first | refine g_px rfl rfl rfl ?_)
          refine g_callS hv [] rfl rfl rfl rfl rfl rfl rfl (by decide) (s_isBetween sta (d + 1) (sb (c a)) _ _) (fun v w' h hp hk2 hv => ?_)
          obtain ⟨rfl, rfl⟩ := hp
          rw [sb_dgt _ h256]
          refine g_if rfl (fun cq => ?_) (fun cq => ?_)
          · simp (disch := omega) only [mj_cp, k_6, k_7, k_8, k_9, k_10, k_12, k_15, k_16, k_18, k_20, k_24, k_25, k_26, k_27, k_28, k_32, k_36, k_48, k_57, k_59, k_63, k_74, k_75, k_84, k_90, k_97, k_99, k_100, k_122, k_200, k_255, k_420, k_448, k_720, k_800, k_999, k_bit, k_shl, fa_and, nI_add, bl_1, bl_0, bl_n1, bl_n0, bl_i1, nI_lt0, nI_0le, nI_eq0, nI_eqT, nI_leI, nI_ltI, nI_eq, Nat.not_le, Nat.not_lt, Bool.not_eq_true, Bool.not_eq_false, not_true_eq_false, not_false_eq_true, Decidable.not_not] at cq
            have hd : ¬ dgt (c a) = true := by rw [cq]; decide
            repeat (first | refine g_px rfl rfl rfl ?_)
            refine g_put hv 0 rfl rfl rfl rfl rfl rfl (fun h hv => ?_)
            refine g_run 1 rfl ?_
            have := fin (a + 1) 4 h (by rw [bhd, if_neg hlt, if_neg h59, if_neg hl, if_neg hd]) (by rw [knd, if_neg hlt, if_neg h59, if_neg hl, if_neg hd]) hv
            rw [nI_succ] at this
            exact this
          · simp (disch := omega) only [mj_cp, k_6, k_7, k_8, k_9, k_10, k_12, k_15, k_16, k_18, k_20, k_24, k_25, k_26, k_27, k_28, k_32, k_36, k_48, k_57, k_59, k_63, k_74, k_75, k_84, k_90, k_97, k_99, k_100, k_122, k_200, k_255, k_420, k_448, k_720, k_800, k_999, k_bit, k_shl, fa_and, nI_add, bl_1, bl_0, bl_n1, bl_n0, bl_i1, nI_lt0, nI_0le, nI_eq0, nI_eqT, nI_leI, nI_ltI, nI_eq, Nat.not_le, Nat.not_lt, Bool.not_eq_true, Bool.not_eq_false, not_true_eq_false, not_false_eq_true, Decidable.not_not] at cq
            have hrn := rn_ge (p := dgt) (c := c) ha.2
            repeat (first | refine g_px rfl rfl rfl ?_)
            refine g_callV hv [0, 1] 0 rfl rfl rfl rfl rfl rfl rfl rfl (by decide) (s_runEnd sta d c n len fa pl td va dgt _ _ (nI i) (nI 0) a hc hn ha.2 sb_dgt) (fun v w' h hp hk2 hv => ?_)
            obtain ⟨rfl, rfl⟩ := hp
            have hv : mj_Vw h0 ([(1, .inr (6, tpg len fa pl (nI n) (nI a) (nI i) (nI 0) td va)), (2, ab c)]) h := hv
            repeat (first | refine g_px rfl rfl rfl ?_ | refine g_get hv 0 rfl rfl rfl rfl ?_)
            rw [pk_sub hrn.1]
            refine g_ic rfl (fun cq2 => ?_) (fun cq2 => ?_)
            · have cq2 : nI 3 < nI (rn dgt c n a - a) := cq2
              rw [nI_ltI (by decide) (by omega)] at cq2
              repeat (first | refine g_px rfl rfl rfl ?_)
              refine g_put hv 0 rfl rfl rfl rfl rfl rfl (fun h hv => ?_)
              refine g_run 1 rfl ?_
              exact fin _ 4 h (by rw [bhd, if_neg hlt, if_neg h59, if_neg hl, if_pos cq]) (by rw [knd, if_neg hlt, if_neg h59, if_neg hl, if_pos cq, if_neg (by omega)]) hv
            · have cq2 : ¬ nI 3 < nI (rn dgt c n a - a) := cq2
              rw [nI_ltI (by decide) (by omega)] at cq2
              repeat (first | refine g_px rfl rfl rfl ?_)
              refine g_put hv 0 rfl rfl rfl rfl rfl rfl (fun h hv => ?_)
              refine g_run 1 rfl ?_
              exact fin _ 2 h (by rw [bhd, if_neg hlt, if_neg h59, if_neg hl, if_pos cq]) (by rw [knd, if_neg hlt, if_neg h59, if_neg hl, if_pos cq, if_pos (by omega)]) hv
        · simp (disch := omega) only [mj_cp, k_6, k_7, k_8, k_9, k_10, k_12, k_15, k_16, k_18, k_20, k_24, k_25, k_26, k_27, k_28, k_32, k_36, k_48, k_57, k_59, k_63, k_74, k_75, k_84, k_90, k_97, k_99, k_100, k_122, k_200, k_255, k_420, k_448, k_720, k_800, k_999, k_bit, k_shl, fa_and, nI_add, bl_1, bl_0, bl_n1, bl_n0, bl_i1, nI_lt0, nI_0le, nI_eq0, nI_eqT, nI_leI, nI_ltI, nI_eq, Nat.not_le, Nat.not_lt, Bool.not_eq_true, Bool.not_eq_false, not_true_eq_false, not_false_eq_true, Decidable.not_not] at cq
          have hrn := rn_ge (p := ltr) (c := c) ha.2
          repeat (first | refine g_px rfl rfl rfl ?_)
          refine g_callV hv [0, 1] 0 rfl rfl rfl rfl rfl rfl rfl rfl (by decide) (s_runEnd sta d c n len fa pl td va ltr _ _ (nI i) (nI 0) a hc hn ha.2 sb_ltr) (fun v w' h hp hk2 hv => ?_)
          obtain ⟨rfl, rfl⟩ := hp
          have hv : mj_Vw h0 ([(1, .inr (6, tpg len fa pl (nI n) (nI a) (nI i) (nI 0) td va)), (2, ab c)]) h := hv
          repeat (first | refine g_px rfl rfl rfl ?_ | refine g_get hv 0 rfl rfl rfl rfl ?_)
          rw [pk_sub hrn.1]
          refine g_ic rfl (fun cq2 => ?_) (fun cq2 => ?_)
          · have cq2 : nI 8 < nI (rn ltr c n a - a) := cq2
            rw [nI_ltI (by decide) (by omega)] at cq2
            repeat (first | refine g_px rfl rfl rfl ?_)
            refine g_put hv 0 rfl rfl rfl rfl rfl rfl (fun h hv => ?_)
            refine g_run 1 rfl ?_
            exact fin _ 4 h (by rw [bhd, if_neg hlt, if_neg h59, if_pos cq]) (by rw [knd, if_neg hlt, if_neg h59, if_pos cq, if_neg (by omega)]) hv
          · have cq2 : ¬ nI 8 < nI (rn ltr c n a - a) := cq2
            rw [nI_ltI (by decide) (by omega)] at cq2
            repeat (first | refine g_px rfl rfl rfl ?_)
            refine g_put hv 0 rfl rfl rfl rfl rfl rfl (fun h hv => ?_)
            refine g_run 1 rfl ?_
            exact fin _ 1 h (by rw [bhd, if_neg hlt, if_neg h59, if_pos cq]) (by rw [knd, if_neg hlt, if_neg h59, if_pos cq, if_pos (by omega)]) hv
      · have cq : ¬ ¬ sb (c a) = (Int8.ofInt 59).toInt32 := cq
        have h59 : c a = 59 := (sb_59 _ h256).mp (Decidable.not_not.mp cq)
        repeat (first | refine g_px rfl rfl rfl ?_)
        refine g_put hv 0 rfl rfl rfl rfl rfl rfl (fun h hv => ?_)
        refine g_run 2 rfl ?_
        have := fin (a + 1) 3 h (by rw [bhd, if_neg hlt, if_pos h59]) (by rw [knd, if_neg hlt, if_pos h59]) hv
        rw [nI_succ] at this
        exact this
  have loop : ∀ j k h, k + j = n → a = rn blk_ c n k → mj_Vw h0 [(1, .inr (6, tpg len fa pl (nI n) at0 (nI i) ki0 td va)), (2, ab c)] h → mj_go sta (mj_Cl sta (d + 2)) m_X6_step T 5 [some (.ref 1), some (.int (nI k))] [] h := by
    intro j
    induction j with
    | zero =>
      intro k h hk he hv
      have hk : k = n := by omega
      rw [rn_end (by omega)] at he
      subst he
      repeat (first | refine g_px rfl rfl rfl ?_ | refine g_get hv 0 rfl rfl rfl rfl ?_)
      refine g_ic rfl (fun cq => ?_) (fun cq => ?_)
      · exact at30 h hv
      · simp (disch := omega) only [mj_cp, k_6, k_7, k_8, k_9, k_10, k_12, k_15, k_16, k_18, k_20, k_24, k_25, k_26, k_27, k_28, k_32, k_36, k_48, k_57, k_59, k_63, k_74, k_75, k_84, k_90, k_97, k_99, k_100, k_122, k_200, k_255, k_420, k_448, k_720, k_800, k_999, k_bit, k_shl, fa_and, nI_add, bl_1, bl_0, bl_n1, bl_n0, bl_i1, nI_lt0, nI_0le, nI_eq0, nI_eqT, nI_leI, nI_ltI, nI_eq, Nat.not_le, Nat.not_lt, Bool.not_eq_true, Bool.not_eq_false, not_true_eq_false, not_false_eq_true, Decidable.not_not] at cq
        omega
    | succ j ih =>
      intro k h hk he hv
      have h256 := hc k
      repeat (first | refine g_px rfl rfl rfl ?_ | refine g_get hv 0 rfl rfl rfl rfl ?_)
      refine g_ic rfl (fun cq => ?_) (fun cq => ?_)
      · simp (disch := omega) only [mj_cp, k_6, k_7, k_8, k_9, k_10, k_12, k_15, k_16, k_18, k_20, k_24, k_25, k_26, k_27, k_28, k_32, k_36, k_48, k_57, k_59, k_63, k_74, k_75, k_84, k_90, k_97, k_99, k_100, k_122, k_200, k_255, k_420, k_448, k_720, k_800, k_999, k_bit, k_shl, fa_and, nI_add, bl_1, bl_0, bl_n1, bl_n0, bl_i1, nI_lt0, nI_0le, nI_eq0, nI_eqT, nI_leI, nI_ltI, nI_eq, Nat.not_le, Nat.not_lt, Bool.not_eq_true, Bool.not_eq_false, not_true_eq_false, not_false_eq_true, Decidable.not_not] at cq
        omega
      · repeat (first | refine g_px rfl rfl rfl ?_ | refine g_get hv 0 rfl rfl rfl rfl ?_)
        refine g_b8 hv 1 (k := k) (by omega) rfl rfl ?_
        repeat (first | refine g_px rfl rfl rfl ?_)
        refine g_ic rfl (fun cq => ?_) (fun cq => ?_)
        · have cq : ¬ sb (c k) = (Int8.ofInt 32).toInt32 := cq
          rw [rn_no (by omega) (show blk_ (c k) = false from decide_eq_false (fun z => cq ((sb_32 _ h256).mpr z)))] at he
          subst he
          exact at30 h hv
        · have cq : ¬ ¬ sb (c k) = (Int8.ofInt 32).toInt32 := cq
          rw [rn_yes (by omega) (show blk_ (c k) = true from decide_eq_true ((sb_32 _ h256).mp (Decidable.not_not.mp cq)))] at he
          refine g_run 2 rfl ?_
          have hnx := ih (k + 1) h (by omega) he hv
          rw [nI_succ] at hnx
          exact hnx
  refine g_run 1 rfl ?_
  refine g_get hv 0 rfl rfl rfl rfl ?_
  refine g_run 1 rfl ?_
  exact loop (n - i) i h0 (by omega) ha'.symm hv
end Tp
