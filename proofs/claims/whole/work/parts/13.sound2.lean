/-! the small machine's answers are the Jvm's -/
/-- the builtins but Object.<init>, as a body at depth d + 1 calls them -/
def mj_HB (D : mj_D) (l : Launch) (d : Nat) : Prop := ∀ (M : mj_M) (p : Program) (e : Env) (R : Room) (s : State) (m : MethodId) (args : Array Value) (below : List Frame) (meth : Method) (c : Code) (Q : State → Prop) (n0 s0 Lx Sx pc : Nat) (lv : mj_L) (as r : List Value) (h h1 : mj_H) (v : Option Value) (mid i : Nat),
  mj_Cx D M p R s m meth c n0 s0 Lx Sx → R.frames = d + 1 + 4 → R.locals = 38 * (d + 1 + 4) → 1 ≤ mid → mid ≤ 3 → decode (mj_bt M) pc = .ok (if mid = 3 then .invokestatic i else .invokevirtual i, 3) → Cond.methodLink (mj_nm M).cls i (mj_bn mid) ∈ lw_tbl → mj_bi (mj_sta D) (mj_Cl (mj_sta D) d) mid as h v h1 → (mid = 3 → 8 ≤ d) → as.length = mid → (r.map Value.category).sum ≤ 8 →
  mj_P D M p l e R s m args below meth c Q n0 s0 Lx Sx (pc + 3) lv (v.toList ++ r) h1 → mj_P D M p l e R s m args below meth c Q n0 s0 Lx Sx pc lv (as.reverse ++ r) h
theorem mj_oiI : Cond.instanceMethod objectInit ∈ lw_tbl := by decide +kernel
theorem mj_oiC : Cond.code objectInit ⟨#[0xb1]⟩ 1 none ∈ lw_tbl := by decide +kernel
theorem mj_catsum (D : mj_D) (r : List Value) : ((r.map (mj_cv D)).map Value.category).sum = (r.map Value.category).sum := by
  induction r with
  | nil => rfl
  | cons v t ih => simp only [List.map_cons, List.sum_cons, mj_cat]; rw [ih]
theorem mj_np_len {M : mj_M} {n : Nat} (h : mj_np M n = true) : ∀ sig, parseMethodDescriptor (mj_nm M).desc = some sig → n = sig.parameters.length := by
  intro sig hs
  have := of_decide_eq_true h
  rw [hs] at this
  exact (Option.some.inj this).symm
section MJC
variable {D : mj_D} {M : mj_M} {p : Program} {l : Launch} {e : Env} {R : Room} {s : State} {m : MethodId} {args : Array Value} {below : List Frame} {meth : Method} {c : Code} {Q : State → Prop} {n0 s0 Lx Sx : Nat}
variable {pc : Nat} {lv : mj_L} {st : List Value} {h : mj_H}
/-- the words of a call -/
theorem mj_callB (hSt : mj_St D s) {M' : mj_M} {rt : Option FieldType} (hrt : mj_rt M' = rt) (hH : mj_hd M') {d : Nat} {h1 : mj_H} {n : Nat} (hRf : R.frames = d + 1 + 4) (hRl : R.locals = 38 * (d + 1 + 4)) (hn : mj_np M' n = true) :
    (mj_rm d h h1).cells = h1.1.length - h.1.length ∧ (mj_rm d h h1).slots = h1.2 - h.2 ∧ (mj_rm d h h1).frames + 1 ≤ R.frames ∧ 8 + (mj_mx M' + 11) + (mj_rm d h h1).locals ≤ R.locals ∧ (∀ w ∈ mj_wd M', ∀ (a' : Array Value) (U : State), s.WarmedH U.vm → w.before a' U = true) ∧ Cond.code (mj_nm M') (mj_bt M') (mj_mx M') rt ∈ mj_wd M' ∧
    (Cond.code (mj_nm M') (mj_bt M') (mj_mx M') rt).before args s = true ∧ (Cond.initialized (mj_nm M').cls).before args s = true ∧ ((mj_nm M').cls ≠ "java/lang/invoke/MethodHandle" ∧ (mj_nm M').cls ≠ "java/lang/invoke/VarHandle") ∧ (∀ sig, parseMethodDescriptor (mj_nm M').desc = some sig → n = sig.parameters.length) := by
  subst hrt
  obtain ⟨w1, w2, w3, w4, w5⟩ := hH
  refine ⟨rfl, rfl, by rw [hRf]; show d + 4 + 1 ≤ _; omega, by rw [hRl]; show 8 + (mj_mx M' + 11) + 38 * (d + 4) ≤ _; omega, fun w hw a' U hW => ?_, List.mem_singleton.mpr rfl, hSt.use w1 rfl rfl, hSt.use w2 rfl rfl, w3, mj_np_len hn⟩
  rw [List.mem_singleton.mp hw]
  exact (hSt.warm hW).use w1 rfl rfl
theorem mj_split {D : mj_D} {st as : List Value} {n : Nat} (hA : (st.take n).reverse = as) : st.map (mj_cv D) = (as.map (mj_cv D)).reverse ++ (st.drop n).map (mj_cv D) := by
  subst hA
  rw [List.map_reverse, List.reverse_reverse, ← List.map_append, List.take_append_drop]
set_option maxHeartbeats 4000000 in
theorem mj_scall (hM : mj_okM M = true) (hH : ∀ mid M, 4 ≤ mid → mj_nth mj_ms mid = some M → mid ≠ 285 → mj_hd M) {d : Nat} (IH : mj_Met D l d) (HB : mj_HB D l d) (C : mj_Cx D M p R s m meth c n0 s0 Lx Sx) (hRf : R.frames = d + 1 + 4) (hRl : R.locals = 38 * (d + 1 + 4)) {x : mj_I} {cn : Nat} {v : Option Value} {h1 : mj_H} (he : mj_ent (mj_cd M) pc = some x) (hc : mj_isCall x.2.1 = some cn) (hlen : cn / 16 % 16 ≤ st.length)
    (hrv : mj_recv x.2.1 (st.take (cn / 16 % 16)).reverse h) (hs : ((st.drop (cn / 16 % 16)).map Value.category).sum ≤ 8) (hC : mj_Cl (mj_sta D) (d + 1) (cn / 256) (st.take (cn / 16 % 16)).reverse h v h1) (k : mj_P D M p l e R s m args below meth c Q n0 s0 Lx Sx (pc + 3) lv (v.toList ++ st.drop (cn / 16 % 16)) h1) :
    mj_P D M p l e R s m args below meth c Q n0 s0 Lx Sx pc lv st h := by
  have hle := mj_Cl_le _ _ _ _ _ _ hC
  obtain ⟨rfl, hok⟩ := mj_ent_ok hM he
  clear he
  unfold mj_okE at hok
  simp only [Bool.and_eq_true] at hok
  obtain ⟨⟨hl, ht⟩, hd0, hok⟩ := hok
  have hd := of_decide_eq_true hd0
  clear hd0
  obtain ⟨pc, i, len, raw, wp⟩ := x
  dsimp only at hl ht hd hok hc hrv k ⊢
  have hst : st = (st.take (cn / 16 % 16)).reverse.reverse ++ st.drop (cn / 16 % 16) := by rw [List.reverse_reverse, List.take_append_drop]
  have hAl : (st.take (cn / 16 % 16)).reverse.length = cn / 16 % 16 := by simp; omega
  generalize hA : (st.take (cn / 16 % 16)).reverse = as at hC hrv hst hAl
  -- a builtin's call
  have bui : ∀ j, cn / 16 % 16 = cn / 256 → 1 ≤ cn / 256 → cn / 256 ≤ 3 → raw = (if cn / 256 = 3 then .invokestatic j else .invokevirtual j) → len = 3 → mj_isB (mj_nth lw_tbl wp) (mj_nm M).cls j (cn / 256) = true → mj_P D M p l e R s m args below meth c Q n0 s0 Lx Sx pc lv st h := by
    intro j z0 z1 z2 z3 z4 z5
    subst z4
    rw [z3] at hd
    rcases hC with ⟨hb, h38⟩ | ⟨M', h4, -⟩
    · rw [hst]
      cases hw : mj_nth lw_tbl wp with
      | none => rw [hw] at z5; cases z5
      | some w0 =>
        rw [hw] at z5
        cases w0 <;> simp only [mj_isB, Bool.false_eq_true] at z5
        obtain ⟨e1, e2, e3⟩ := of_decide_eq_true z5
        subst e1; subst e2; subst e3
        exact HB M p e R s m args below meth c Q n0 s0 Lx Sx pc lv as (st.drop (cn / 16 % 16)) h h1 v (cn / 256) _ C hRf hRl z1 z2 hd (mj_nth_mem hw) hb h38 (hAl.trans z0) hs k
    · omega
  obtain ⟨hx, hb, hml, hown, hnm, hSt, hRc, hRs, hLx, hb1, hb2⟩ := id C
  -- a regular one
  have reg : 4 ≤ cn / 256 → ∃ M', mj_nth mj_ms (cn / 256) = some M' ∧ (cn / 256 ≠ 285 → mj_hd M') ∧ Met l (mj_nm M') (mj_wd M') (mj_rm d h h1) (mj_Pc D as h) (mj_Qc D v h1) (h1.1.length - h.1.length) (h1.2 - h.2) (mj_A D) := by
    intro h4
    rcases hC with ⟨hb, -⟩ | ⟨M', -, hM', hel, hgo⟩
    · rcases hb with ⟨z, -⟩ | ⟨z, -⟩ | ⟨z, -⟩ | ⟨z, -⟩ <;> omega
    · exact ⟨M', hM', hH _ _ h4 hM', IH _ M' as h v h1 h4 hM' hel hgo (Nat.le_trans k.1 hLx)⟩
  have hcs : ∀ (g : JFrame), g = F0 m pc g.locals g.stack → 2 * g.monitorRoom + (((st.drop (cn / 16 % 16)).map (mj_cv D)).map fun v => v.category).sum ≤ 8 := by
    intro g hg
    have := lv_room (m := m) (pc := pc) (ls := g.locals) (rest := g.stack) (st := (st.drop (cn / 16 % 16)).map (mj_cv D)) (by rw [mj_catsum]; exact hs)
    rw [hg]
    exact this
  have hfc : ∀ H locs ls, mj_hp D h H → va_S (fun q => mj_b D ≤ q) s.heap H locs → lv_has ls (mj_mx M) (mj_pr D lv) → n0 ≤ h.1.length → s0 ≤ h.2 → h.1.length - n0 + (h1.1.length - h.1.length) ≤ R.cells ∧ h.2 - s0 + (h1.2 - h.2) ≤ R.slots := by
    intro H locs ls _ _ _ a4 a5
    have q1 := k.1
    have q2 := k.2.1
    rw [hRc, hRs]
    omega
  cases i <;> simp only [mj_isCall, reduceCtorEq, Option.some.injEq] at hc
  case invokevirtual cc =>
    subst hc
    cases raw <;> simp only [mj_ok, Bool.false_eq_true] at hok
    rename_i j
    have e2 : len = 3 := Nat.eq_of_beq_eq_true hl
    by_cases h4 : cc / 256 < 4
    · rw [if_pos h4] at hok
      simp only [Bool.and_eq_true, decide_eq_true_eq] at hok
      exact bui j hok.1.2.2 (by omega) (by omega) (by rw [if_neg (by omega)]) e2 hok.2
    · rw [if_neg h4] at hok
      subst e2
      obtain ⟨M', hM', hh', hMet⟩ := reg (by omega)
      simp only [hM', Bool.and_eq_true, decide_eq_true_eq, mj_isM] at hok
      obtain ⟨o1, o2⟩ := hok
      split at o2
      case h_2 => cases o2
      rename_i M2 q e1 hq
      cases e1
      simp only [Bool.and_eq_true, decide_eq_true_eq] at o2
      obtain ⟨p1, p2, p3, p4, p5⟩ := o2
      have hne : cc / 256 ≠ 285 := by
        intro e
        rw [e] at hM'
        cases hM'
        exact absurd p4 (by decide +kernel)
      rcases hrv with z | ⟨k0, r, fs, hr, hc0⟩
      · omega
      subst hr
      refine ⟨Nat.le_trans hle.1 k.1, Nat.le_trans hle.2 k.2.1, fun H locs ls a1 a2 a3 a4 a5 => ?_⟩
      obtain ⟨r', g0, cell, g1, g2, g3, -⟩ := a1.2.2 k0 _ hc0 (mj_gbI (mj_cls hq).2.2.2.1)
      have hq' : vwCl[cc % 16]? = some q := by rw [← mj_nth_eq]; exact hq
      have ha : mj_ad D k0 = mj_b D + k0 := mj_ad_l (Nat.lt_of_lt_of_le (mj_nth_lt hc0) (Nat.le_trans (Nat.le_trans hle.1 k.1) hLx))
      have hpre : PreV s H q.1 (mj_ad D k0) (mj_Pc D (.ref k0 :: r) h) (r.map (mj_cv D)) := ⟨mj_blind _, ⟨cell, by rw [ha]; exact g1, by rw [g3]; rfl, by rw [g2]; exact (hSt.2.1 _ _ hq').2.1⟩, fun U hU hW => ⟨rfl, hSt.warm hW, by rw [hU]; exact a1⟩⟩
      have cw := mj_callB (args := args) (h := h) (h1 := h1) hSt rfl (hh' hne) hRf hRl p3
      have hstk : st.map (mj_cv D) = (r.map (mj_cv D)).reverse ++ .ref (mj_ad D k0) :: (st.drop (cc / 16 % 16)).map (mj_cv D) := by
        rw [mj_split hA]
        simp [mj_cv]
      have hrl : (r.map (mj_cv D)).length = cc / 16 % 16 - 1 := by
        simp only [List.length_cons] at hAl
        simp; omega
      refine mj_ofRun (rest := (st.drop (cc / 16 % 16)).map (mj_cv D)) (Qa := mj_Qc D v h1 (Value.ref (mj_ad D k0) :: r.map (mj_cv D)).toArray) (free := mj_A D) ?_ (fun w st₀ t H1 L q0 q1 q2 q3 => mj_behind C hle a1 a2 a3 a4 a5 k w H1 L q2.1 (by rw [← q1]; exact q2.2) q3)
      cases hw : mj_nth lw_tbl wp with
      | none => rw [hw] at o1; cases o1
      | some w0 =>
        rw [hw] at o1
        cases w0 <;> simp only [Bool.false_eq_true] at o1
        · obtain ⟨e1, e2, e3⟩ := of_decide_eq_true o1
          subst e1; subst e2; subst e3
          exact va_runV (Ts := []) (C := q.1) (own := (mj_nm M).cls) (n := cc / 16 % 16 - 1) ⟨hx, hb, hml, hown, fun _ h => by cases h⟩ hMet ⟨⟨cw.1, cw.2.1, cw.2.2.1, cw.2.2.2.1, cw.2.2.2.2.1, cw.2.2.2.2.2.1, cw.2.2.2.2.2.2.1, cw.2.2.2.2.2.2.2.1, cw.2.2.2.2.2.2.2.2.1, cw.2.2.2.2.2.2.2.2.2, hSt.use (mj_nth_mem hw) rfl rfl⟩, hSt.use p4 rfl rfl, hSt.use p5 rfl rfl⟩ hpre rfl hrl a3.1 hstk (hcs _ rfl) hd (hfc H locs ls a1 a2 a3 a4 a5)
        · obtain ⟨e1, e2, e3⟩ := of_decide_eq_true o1
          subst e1; subst e2; subst e3
          exact va_runVN (Ts := []) (C := q.1) (own := (mj_nm M).cls) (n := cc / 16 % 16 - 1) ⟨hx, hb, hml, hown, fun _ h => by cases h⟩ hMet ⟨⟨⟨cw.1, cw.2.1, cw.2.2.1, cw.2.2.2.1, cw.2.2.2.2.1, cw.2.2.2.2.2.1⟩, cw.2.2.2.2.2.2.1, cw.2.2.2.2.2.2.2.1, cw.2.2.2.2.2.2.2.2.1, cw.2.2.2.2.2.2.2.2.2, hSt.use (mj_nth_mem hw) rfl rfl⟩, hSt.use p4 rfl rfl, hSt.use p5 rfl rfl⟩ hpre rfl hrl a3.1 hstk (hcs _ rfl) hd (hfc H locs ls a1 a2 a3 a4 a5)
  case invokestatic cc =>
    subst hc
    cases raw <;> simp only [mj_ok, Bool.false_eq_true] at hok
    rename_i j
    have e2 : len = 3 := Nat.eq_of_beq_eq_true hl
    by_cases h4 : cc / 256 < 4
    · rw [if_pos h4] at hok
      simp only [Bool.and_eq_true, decide_eq_true_eq] at hok
      exact bui j (hok.1.2.trans hok.1.1.symm) (by omega) (by omega) (by rw [if_pos hok.1.1]) e2 (by rw [hok.1.1]; exact hok.2)
    · rw [if_neg h4] at hok
      subst e2
      obtain ⟨M', hM', hh', hMet⟩ := reg (by omega)
      simp only [hM', Bool.and_eq_true, decide_eq_true_eq, mj_isM] at hok
      obtain ⟨o1, p3, p4⟩ := hok
      have hne : cc / 256 ≠ 285 := by
        intro e
        rw [e] at hM'
        cases hM'
        exact absurd p4 (by decide +kernel)
      refine ⟨Nat.le_trans hle.1 k.1, Nat.le_trans hle.2 k.2.1, fun H locs ls a1 a2 a3 a4 a5 => ?_⟩
      have hpre : PreS s H (mj_Pc D as h) (as.map (mj_cv D)) := ⟨mj_blind _, fun U hU hW => ⟨rfl, hSt.warm hW, by rw [hU]; exact a1⟩⟩
      have cw := mj_callB (args := args) (h := h) (h1 := h1) hSt rfl (hh' hne) hRf hRl p3
      refine mj_ofRun (rest := (st.drop (cc / 16 % 16)).map (mj_cv D)) (Qa := mj_Qc D v h1 (as.map (mj_cv D)).toArray) (free := mj_A D) ?_ (fun w st₀ t H1 L q0 q1 q2 q3 => mj_behind C hle a1 a2 a3 a4 a5 k w H1 L q2.1 (by rw [← q1]; exact q2.2) q3)
      cases hw : mj_nth lw_tbl wp with
      | none => rw [hw] at o1; cases o1
      | some w0 =>
        rw [hw] at o1
        cases w0 <;> simp only [Bool.false_eq_true] at o1
        · obtain ⟨e1, e2, e3⟩ := of_decide_eq_true o1
          subst e1; subst e2; subst e3
          exact va_runS (Ts := []) (own := (mj_nm M).cls) (n := cc / 16 % 16) ⟨hx, hb, hml, hown, fun _ h => by cases h⟩ hMet ⟨⟨cw.1, cw.2.1, cw.2.2.1, cw.2.2.2.1, cw.2.2.2.2.1, cw.2.2.2.2.2.1, cw.2.2.2.2.2.2.1, cw.2.2.2.2.2.2.2.1, cw.2.2.2.2.2.2.2.2.1, cw.2.2.2.2.2.2.2.2.2, hSt.use (mj_nth_mem hw) rfl rfl⟩, hSt.use p4 rfl rfl⟩ hpre rfl (by simpa using hAl) a3.1 (mj_split hA) (hcs _ rfl) hd (hfc H locs ls a1 a2 a3 a4 a5)
        · obtain ⟨e1, e2, e3⟩ := of_decide_eq_true o1
          subst e1; subst e2; subst e3
          exact va_runSN (Ts := []) (own := (mj_nm M).cls) (n := cc / 16 % 16) ⟨hx, hb, hml, hown, fun _ h => by cases h⟩ hMet ⟨⟨⟨cw.1, cw.2.1, cw.2.2.1, cw.2.2.2.1, cw.2.2.2.2.1, cw.2.2.2.2.2.1⟩, cw.2.2.2.2.2.2.1, cw.2.2.2.2.2.2.2.1, cw.2.2.2.2.2.2.2.2.1, cw.2.2.2.2.2.2.2.2.2, hSt.use (mj_nth_mem hw) rfl rfl⟩, hSt.use p4 rfl rfl, trivial⟩ hpre rfl (by simpa using hAl) a3.1 (mj_split hA) (hcs _ rfl) hd (hfc H locs ls a1 a2 a3 a4 a5)
  case invokespecial cc =>
    subst hc
    cases raw <;> simp only [mj_ok, Bool.false_eq_true] at hok
    rename_i j
    have e2 : len = 3 := Nat.eq_of_beq_eq_true hl
    by_cases h4 : cc / 256 < 4
    · rw [if_pos h4] at hok
      simp only [Bool.and_eq_true, decide_eq_true_eq] at hok
      obtain ⟨⟨o0, on⟩, o1⟩ := hok
      subst e2
      rcases hC with ⟨hb3, -⟩ | ⟨M', h5, -⟩
      · rcases hb3 with ⟨-, k0, r1, r2, r3⟩ | ⟨z, -⟩ | ⟨z, -⟩ | ⟨z, -⟩
        · subst r1; subst r2; subst r3
          refine ⟨k.1, k.2.1, fun H locs ls a1 a2 a3 a4 a5 => ?_⟩
          have w := k.2.2 H locs ls a1 a2 a3 a4 a5
          cases hw : mj_nth lw_tbl wp with
          | none => rw [hw] at o1; cases o1
          | some w0 =>
            rw [hw] at o1
            cases w0 <;> simp only [mj_isB, Bool.false_eq_true] at o1
            obtain ⟨e1, e2, e3⟩ := of_decide_eq_true o1
            subst e1; subst e2; subst e3
            have hstk : st.map (mj_cv D) = .ref (mj_ad D k0) :: (st.drop (cc / 16 % 16)).map (mj_cv D) := by
              rw [mj_split hA]
              simp [mj_cv]
            rw [hstk]
            refine W.objInit hx hb hown (hSt.use (mj_nth_mem hw) rfl rfl) (hSt.use mj_oiI rfl rfl) (hSt.use mj_oiC rfl rfl) rfl (a3.1.trans hml.symm) rfl hd (by rw [hRf]; omega) ?_ w
            have := hcs (F0 m pc ls (.ref (mj_ad D k0) :: (st.drop (cc / 16 % 16)).map (mj_cv D))) rfl
            rw [hRl]
            omega
        · omega
        · omega
        · omega
      · omega
    · rw [if_neg h4] at hok
      subst e2
      obtain ⟨M', hM', hh', hMet⟩ := reg (by omega)
      simp only [hM', Bool.and_eq_true, decide_eq_true_eq, mj_isM] at hok
      obtain ⟨o1, ⟨p1, p2, pr⟩, p3, p4⟩ := hok
      have hne : cc / 256 ≠ 285 := by
        intro e
        rw [e] at hM'
        cases hM'
        exact absurd p4 (by decide +kernel)
      obtain ⟨k0, r, hr⟩ := hrv
      subst hr
      refine ⟨Nat.le_trans hle.1 k.1, Nat.le_trans hle.2 k.2.1, fun H locs ls a1 a2 a3 a4 a5 => ?_⟩
      have hpre : PreS s H (mj_Pc D (.ref k0 :: r) h) (.ref (mj_ad D k0) :: r.map (mj_cv D)) := ⟨mj_blind _, fun U hU hW => ⟨rfl, hSt.warm hW, by rw [hU]; exact a1⟩⟩
      have cw := mj_callB (args := args) (h := h) (h1 := h1) hSt pr (hh' hne) hRf hRl p3
      have hstk : st.map (mj_cv D) = (r.map (mj_cv D)).reverse ++ .ref (mj_ad D k0) :: (st.drop (cc / 16 % 16)).map (mj_cv D) := by
        rw [mj_split hA]
        simp [mj_cv]
      have hrl : (r.map (mj_cv D)).length = cc / 16 % 16 - 1 := by
        simp only [List.length_cons] at hAl
        simp; omega
      refine mj_ofRun (rest := (st.drop (cc / 16 % 16)).map (mj_cv D)) (Qa := mj_Qc D v h1 (Value.ref (mj_ad D k0) :: r.map (mj_cv D)).toArray) (free := mj_A D) ?_ (fun w st₀ t H1 L q0 q1 q2 q3 => mj_behind C hle a1 a2 a3 a4 a5 k w H1 L q2.1 (by rw [← q1]; exact q2.2) q3)
      cases hw : mj_nth lw_tbl wp with
      | none => rw [hw] at o1; cases o1
      | some w0 =>
        rw [hw] at o1
        cases w0 <;> simp only [Bool.false_eq_true] at o1
        · obtain ⟨e1, e2, e3⟩ := of_decide_eq_true o1
          subst e1; subst e2; subst e3
          exact va_runI (Ts := []) (own := (mj_nm M).cls) (n := cc / 16 % 16 - 1) ⟨hx, hb, hml, hown, fun _ h => by cases h⟩ hMet ⟨⟨cw.1, cw.2.1, cw.2.2.1, cw.2.2.2.1, cw.2.2.2.2.1, cw.2.2.2.2.2.1, cw.2.2.2.2.2.2.1, cw.2.2.2.2.2.2.2.1, cw.2.2.2.2.2.2.2.2.1, cw.2.2.2.2.2.2.2.2.2, hSt.use (mj_nth_mem hw) rfl rfl⟩, p2, hSt.use p4 rfl rfl⟩ hpre rfl hrl a3.1 hstk (hcs _ rfl) hd (hfc H locs ls a1 a2 a3 a4 a5)
        · obtain ⟨e1, e2, e3⟩ := of_decide_eq_true o1
          subst e1; subst e2; subst e3
          exact va_runIN (Ts := []) (own := (mj_nm M).cls) (n := cc / 16 % 16 - 1) ⟨hx, hb, hml, hown, fun _ h => by cases h⟩ hMet ⟨⟨⟨cw.1, cw.2.1, cw.2.2.1, cw.2.2.2.1, cw.2.2.2.2.1, cw.2.2.2.2.2.1⟩, cw.2.2.2.2.2.2.1, cw.2.2.2.2.2.2.2.1, cw.2.2.2.2.2.2.2.2.1, cw.2.2.2.2.2.2.2.2.2, hSt.use (mj_nth_mem hw) rfl rfl⟩, p2, hSt.use p4 rfl rfl⟩ hpre rfl hrl a3.1 hstk (hcs _ rfl) hd (hfc H locs ls a1 a2 a3 a4 a5)
end MJC
