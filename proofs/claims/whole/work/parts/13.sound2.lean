/-! the small machine's answers are the Jvm's -/
/-- the builtins but Object.<init>, as a body at depth d + 1 calls them -/
def mj_HB (D : mj_D) (l : Launch) (d : Nat) : Prop := ∀ (M : mj_M) (p : Program) (e : Env) (R : Room) (s : State) (m : MethodId) (args : Array Value) (below : List Frame) (meth : Method) (c : Code) (Q : State → Prop) (n0 s0 Lx Sx pc : Nat) (lv : mj_L) (as r : List Value) (h h1 : mj_H) (v : Option Value) (mid i : Nat),
  mj_Cx D M p R s m meth c n0 s0 Lx Sx → R.frames = d + 1 + 4 → R.locals = 38 * (d + 1 + 4) → 1 ≤ mid → mid ≤ 3 → decode (mj_bt M) pc = .ok (if mid = 3 then .invokestatic i else .invokevirtual i, 3) → Cond.methodLink (mj_nm M).cls i (mj_bn mid) ∈ lw_tbl → mj_bi (mj_sta D) (mj_Cl (mj_sta D) d) mid as h v h1 → (mid = 3 → 8 ≤ d) → as.length = mid → (r.map Value.category).sum ≤ 8 →
  mj_P D M p l e R s m args below meth c Q n0 s0 Lx Sx (pc + 3) lv (v.toList ++ r) h1 → mj_P D M p l e R s m args below meth c Q n0 s0 Lx Sx pc lv (as.reverse ++ r) h
theorem mj_oiI : Cond.instanceMethod objectInit ∈ lw_tbl := by decide +kernel
theorem mj_oiC : Cond.code objectInit ⟨#[0xb1]⟩ 1 none ∈ lw_tbl := by decide +kernel
theorem mj_catsum (D : mj_D) (r : List Value) : ((r.map (mj_cv D)).map Value.category).sum = (r.map Value.category).sum := by
  induction r with
  | nil => rfl
  | cons v t ih => simp only [List.map_cons, List.sum_cons, mj_cat]; rw [ih]
theorem mj_np_len {M : mj_M} {n : Nat} (h : mj_np M n = true) : ∀ sig, parseMethodDescriptor (mj_nm M).desc = some sig → n = sig.parameters.length := by
  intro sig hs
  have := of_decide_eq_true h
  rw [hs] at this
  exact (Option.some.inj this).symm
/-! Math.max, Math.min: what they answer, read back from the run -/
theorem mj_go.inv {sta : mj_S} {Cl : mj_R} {M : mj_M} {T : Nat → mj_L → List Value → mj_H → Prop} {pc : Nat} {lv : mj_L} {st : List Value} {h : mj_H} (hg : mj_go sta Cl M T pc lv st h) {e : mj_I} (he : mj_ent (mj_cd M) pc = some e) (hc : mj_isCall e.2.1 = none) : T pc lv st h ∨ ∃ pc' lv' st' h', mj_nx sta e.2.1 e.2.2.1 pc lv st h = some (pc', lv', st', h') ∧ mj_go sta Cl M T pc' lv' st' h' := by
  have key : mj_go sta Cl M T pc lv st h ∧ (T pc lv st h ∨ (∃ e pc' lv' st' h', mj_ent (mj_cd M) pc = some e ∧ mj_nx sta e.2.1 e.2.2.1 pc lv st h = some (pc', lv', st', h') ∧ mj_go sta Cl M T pc' lv' st' h') ∨ ∃ e c, mj_ent (mj_cd M) pc = some e ∧ mj_isCall e.2.1 = some c) := by
    refine hg (fun pc lv st h => mj_go sta Cl M T pc lv st h ∧ (T pc lv st h ∨ (∃ e pc' lv' st' h', mj_ent (mj_cd M) pc = some e ∧ mj_nx sta e.2.1 e.2.2.1 pc lv st h = some (pc', lv', st', h') ∧ mj_go sta Cl M T pc' lv' st' h') ∨ ∃ e c, mj_ent (mj_cd M) pc = some e ∧ mj_isCall e.2.1 = some c)) ?_ ?_ ?_
    · intro pc lv st h ht
      exact ⟨mj_go.here ht, Or.inl ht⟩
    · intro pc lv st h e pc' lv' st' h' he hn hP
      exact ⟨mj_go.nx he hn hP.1, Or.inr (Or.inl ⟨e, pc', lv', st', h', he, hn, hP.1⟩)⟩
    · intro pc lv st h e c v h' he hc hl hr hs hC hP
      exact ⟨mj_go.call he hc hl hr hs hC hP.1, Or.inr (Or.inr ⟨e, c, he, hc⟩)⟩
  rcases key.2 with h1 | ⟨e', pc', lv', st', h', he', hn, hg'⟩ | ⟨e', c, he', hc'⟩
  · exact Or.inl h1
  · rw [he] at he'
    cases he'
    exact Or.inr ⟨pc', lv', st', h', hn, hg'⟩
  · rw [he] at he'
    cases he'
    rw [hc] at hc'
    cases hc'
def mj_isRet (i : Instr) : Bool := match i with
  | .return_ => true
  | .ireturn => true
  | .lreturn => true
  | .areturn => true
  | _ => false
theorem mj_noret {M : mj_M} {v : Option Value} {h' h : mj_H} {pc : Nat} {lv : mj_L} {st : List Value} {e : mj_I} (he : mj_ent (mj_cd M) pc = some e) (hr : mj_isRet e.2.1 = false) : ¬ mj_ret M v h' pc lv st h := by
  rintro ⟨-, e', he', hm⟩
  rw [he] at he'
  cases he'
  split at hm
  · rename_i hi; rw [hi] at hr; cases hr
  · rename_i hi; rw [hi] at hr; cases hr
  · rename_i hi; rw [hi] at hr; cases hr
  · rename_i hi; rw [hi] at hr; cases hr
  · exact hm
theorem inv_max {sta : mj_S} {Cl : mj_R} {u w : Value} {v : Option Value} {h h1 : mj_H} (hg : mj_go sta Cl m_J9_max (mj_ret m_J9_max v h1) 0 (mj_e0 2 [u, w]) [] h) : ∃ a b : Int32, u = .int a ∧ w = .int b ∧ v = some (.int (if a < b then b else a)) ∧ h1 = h := by
  rcases mj_go.inv hg (e := (0, .iload_n 0, 1, .iload_n 0, 0)) rfl rfl with hr | ⟨pc1, lv1, st1, g1, hn, hg⟩
  · exact (mj_noret (e := (0, .iload_n 0, 1, .iload_n 0, 0)) rfl rfl hr).elim
  cases u with
  | int a =>
    have hn : some (1, mj_e0 2 [.int a, w], [Value.int a], h) = some (pc1, lv1, st1, g1) := hn
    cases hn
    rcases mj_go.inv hg (e := (1, .iload_n 1, 1, .iload_n 1, 0)) rfl rfl with hr | ⟨pc1, lv1, st1, g1, hn, hg⟩
    · exact (mj_noret (e := (1, .iload_n 1, 1, .iload_n 1, 0)) rfl rfl hr).elim
    cases w with
    | int b =>
      have hn : some (2, mj_e0 2 [.int a, .int b], [Value.int b, .int a], h) = some (pc1, lv1, st1, g1) := hn
      cases hn
      have last : ∀ {x : Int32} {lv : mj_L}, mj_go sta Cl m_J9_max (mj_ret m_J9_max v h1) 10 lv [.int x] h → v = some (.int x) ∧ h1 = h := by
        intro x lv hg
        rcases mj_go.inv hg (e := (10, .ireturn, 1, .ireturn, 0)) rfl rfl with hr | ⟨pc1, lv1, st1, g1, hn, hg⟩
        · obtain ⟨rfl, e', he', hm⟩ := hr
          cases he'
          obtain ⟨y, ty, r1, r2, -⟩ := hm
          cases r1
          exact ⟨r2, rfl⟩
        · cases hn
      rcases mj_go.inv hg (e := (2, .if_icmp .lt 7, 3, .if_icmp .lt 7, 0)) rfl rfl with hr | ⟨pc1, lv1, st1, g1, hn, hg⟩
      · exact (mj_noret (e := (2, .if_icmp .lt 7, 3, .if_icmp .lt 7, 0)) rfl rfl hr).elim
      refine ⟨a, b, rfl, rfl, ?_⟩
      by_cases hab : a < b
      · have hc : mj_cmp .lt a b = true := decide_eq_true hab
        have hn : some (bif mj_cmp .lt a b then mj_tg 2 7 else 5, mj_e0 2 [.int a, .int b], ([] : List Value), h) = some (pc1, lv1, st1, g1) := hn
        rw [hc] at hn
        cases hn
        rw [if_pos hab]
        rcases mj_go.inv hg (e := (9, .iload_n 1, 1, .iload_n 1, 0)) rfl rfl with hr | ⟨pc1, lv1, st1, g1, hn, hg⟩
        · exact (mj_noret (e := (9, .iload_n 1, 1, .iload_n 1, 0)) rfl rfl hr).elim
        have hn : some (mj_tg 2 7 + 1, mj_e0 2 [.int a, .int b], [Value.int b], h) = some (pc1, lv1, st1, g1) := hn
        cases hn
        exact last hg
      · have hc : mj_cmp .lt a b = false := decide_eq_false hab
        have hn : some (bif mj_cmp .lt a b then mj_tg 2 7 else 5, mj_e0 2 [.int a, .int b], ([] : List Value), h) = some (pc1, lv1, st1, g1) := hn
        rw [hc] at hn
        cases hn
        rw [if_neg hab]
        rcases mj_go.inv hg (e := (5, .iload_n 0, 1, .iload_n 0, 0)) rfl rfl with hr | ⟨pc1, lv1, st1, g1, hn, hg⟩
        · exact (mj_noret (e := (5, .iload_n 0, 1, .iload_n 0, 0)) rfl rfl hr).elim
        have hn : some (6, mj_e0 2 [.int a, .int b], [Value.int a], h) = some (pc1, lv1, st1, g1) := hn
        cases hn
        rcases mj_go.inv hg (e := (6, .goto 4, 3, .goto 4, 0)) rfl rfl with hr | ⟨pc1, lv1, st1, g1, hn, hg⟩
        · exact (mj_noret (e := (6, .goto 4, 3, .goto 4, 0)) rfl rfl hr).elim
        have hn : some (mj_tg 6 4, mj_e0 2 [.int a, .int b], [Value.int a], h) = some (pc1, lv1, st1, g1) := hn
        cases hn
        exact last hg
    | _ => cases hn
  | _ => cases hn
theorem inv_min {sta : mj_S} {Cl : mj_R} {u w : Value} {v : Option Value} {h h1 : mj_H} (hg : mj_go sta Cl m_J9_min (mj_ret m_J9_min v h1) 0 (mj_e0 2 [u, w]) [] h) : ∃ a b : Int32, u = .int a ∧ w = .int b ∧ v = some (.int (if b < a then b else a)) ∧ h1 = h := by
  rcases mj_go.inv hg (e := (0, .iload_n 0, 1, .iload_n 0, 0)) rfl rfl with hr | ⟨pc1, lv1, st1, g1, hn, hg⟩
  · exact (mj_noret (e := (0, .iload_n 0, 1, .iload_n 0, 0)) rfl rfl hr).elim
  cases u with
  | int a =>
    have hn : some (1, mj_e0 2 [.int a, w], [Value.int a], h) = some (pc1, lv1, st1, g1) := hn
    cases hn
    rcases mj_go.inv hg (e := (1, .iload_n 1, 1, .iload_n 1, 0)) rfl rfl with hr | ⟨pc1, lv1, st1, g1, hn, hg⟩
    · exact (mj_noret (e := (1, .iload_n 1, 1, .iload_n 1, 0)) rfl rfl hr).elim
    cases w with
    | int b =>
      have hn : some (2, mj_e0 2 [.int a, .int b], [Value.int b, .int a], h) = some (pc1, lv1, st1, g1) := hn
      cases hn
      have last : ∀ {x : Int32} {lv : mj_L}, mj_go sta Cl m_J9_min (mj_ret m_J9_min v h1) 10 lv [.int x] h → v = some (.int x) ∧ h1 = h := by
        intro x lv hg
        rcases mj_go.inv hg (e := (10, .ireturn, 1, .ireturn, 0)) rfl rfl with hr | ⟨pc1, lv1, st1, g1, hn, hg⟩
        · obtain ⟨rfl, e', he', hm⟩ := hr
          cases he'
          obtain ⟨y, ty, r1, r2, -⟩ := hm
          cases r1
          exact ⟨r2, rfl⟩
        · cases hn
      rcases mj_go.inv hg (e := (2, .if_icmp .gt 7, 3, .if_icmp .gt 7, 0)) rfl rfl with hr | ⟨pc1, lv1, st1, g1, hn, hg⟩
      · exact (mj_noret (e := (2, .if_icmp .gt 7, 3, .if_icmp .gt 7, 0)) rfl rfl hr).elim
      refine ⟨a, b, rfl, rfl, ?_⟩
      by_cases hab : b < a
      · have hc : mj_cmp .gt a b = true := decide_eq_true hab
        have hn : some (bif mj_cmp .gt a b then mj_tg 2 7 else 5, mj_e0 2 [.int a, .int b], ([] : List Value), h) = some (pc1, lv1, st1, g1) := hn
        rw [hc] at hn
        cases hn
        rw [if_pos hab]
        rcases mj_go.inv hg (e := (9, .iload_n 1, 1, .iload_n 1, 0)) rfl rfl with hr | ⟨pc1, lv1, st1, g1, hn, hg⟩
        · exact (mj_noret (e := (9, .iload_n 1, 1, .iload_n 1, 0)) rfl rfl hr).elim
        have hn : some (mj_tg 2 7 + 1, mj_e0 2 [.int a, .int b], [Value.int b], h) = some (pc1, lv1, st1, g1) := hn
        cases hn
        exact last hg
      · have hc : mj_cmp .gt a b = false := decide_eq_false hab
        have hn : some (bif mj_cmp .gt a b then mj_tg 2 7 else 5, mj_e0 2 [.int a, .int b], ([] : List Value), h) = some (pc1, lv1, st1, g1) := hn
        rw [hc] at hn
        cases hn
        rw [if_neg hab]
        rcases mj_go.inv hg (e := (5, .iload_n 0, 1, .iload_n 0, 0)) rfl rfl with hr | ⟨pc1, lv1, st1, g1, hn, hg⟩
        · exact (mj_noret (e := (5, .iload_n 0, 1, .iload_n 0, 0)) rfl rfl hr).elim
        have hn : some (6, mj_e0 2 [.int a, .int b], [Value.int a], h) = some (pc1, lv1, st1, g1) := hn
        cases hn
        rcases mj_go.inv hg (e := (6, .goto 4, 3, .goto 4, 0)) rfl rfl with hr | ⟨pc1, lv1, st1, g1, hn, hg⟩
        · exact (mj_noret (e := (6, .goto 4, 3, .goto 4, 0)) rfl rfl hr).elim
        have hn : some (mj_tg 6 4, mj_e0 2 [.int a, .int b], [Value.int a], h) = some (pc1, lv1, st1, g1) := hn
        cases hn
        exact last hg
    | _ => cases hn
  | _ => cases hn
theorem mm_link : lw_tbl.all (fun w => match w with | .methodLinkNest _ _ y _ => !(decide (y = yJ9_max_7cf53) || decide (y = yJ9_min_7cf53)) | _ => true) = true := by decide +kernel
theorem mm_sx : Cond.static Lib.Math.max.name ∈ lw_tbl := by decide +kernel
theorem mm_sn : Cond.static Lib.Math.min.name ∈ lw_tbl := by decide +kernel
theorem mm_cx : Cond.code Lib.Math.max.name Lib.Math.max.code 2 (some .int) ∈ lw_tbl := by decide +kernel
theorem mm_cn : Cond.code Lib.Math.min.name Lib.Math.min.code 2 (some .int) ∈ lw_tbl := by decide +kernel
theorem mm_in : Cond.initialized "java/lang/Math" ∈ lw_tbl := by decide +kernel
section MJC
variable {D : mj_D} {M : mj_M} {p : Program} {l : Launch} {e : Env} {R : Room} {s : State} {m : MethodId} {args : Array Value} {below : List Frame} {meth : Method} {c : Code} {Q : State → Prop} {n0 s0 Lx Sx : Nat}
variable {pc : Nat} {lv : mj_L} {st : List Value} {h : mj_H}
/-- the words of a call -/
theorem mj_callB (hSt : mj_St D s) {M' : mj_M} {rt : Option FieldType} (hrt : mj_rt M' = rt) (hH : mj_hd M') {d : Nat} {h1 : mj_H} {n : Nat} (hRf : R.frames = d + 1 + 4) (hRl : R.locals = 38 * (d + 1 + 4)) (hn : mj_np M' n = true) :
    (mj_rm d h h1).cells = h1.1.length - h.1.length ∧ (mj_rm d h h1).slots = h1.2 - h.2 ∧ (mj_rm d h h1).frames + 1 ≤ R.frames ∧ 8 + (mj_mx M' + 11) + (mj_rm d h h1).locals ≤ R.locals ∧ (∀ w ∈ mj_wd M', ∀ (a' : Array Value) (U : State), s.WarmedH U.vm → w.before a' U = true) ∧ Cond.code (mj_nm M') (mj_bt M') (mj_mx M') rt ∈ mj_wd M' ∧
    (Cond.code (mj_nm M') (mj_bt M') (mj_mx M') rt).before args s = true ∧ (Cond.initialized (mj_nm M').cls).before args s = true ∧ ((mj_nm M').cls ≠ "java/lang/invoke/MethodHandle" ∧ (mj_nm M').cls ≠ "java/lang/invoke/VarHandle") ∧ (∀ sig, parseMethodDescriptor (mj_nm M').desc = some sig → n = sig.parameters.length) := by
  subst hrt
  obtain ⟨w1, w2, w3, w4, w5⟩ := hH
  refine ⟨rfl, rfl, by rw [hRf]; show d + 4 + 1 ≤ _; omega, by rw [hRl]; show 8 + (mj_mx M' + 11) + 38 * (d + 4) ≤ _; omega, fun w hw a' U hW => ?_, List.mem_singleton.mpr rfl, hSt.use w1 rfl rfl, hSt.use w2 rfl rfl, w3, mj_np_len hn⟩
  rw [List.mem_singleton.mp hw]
  exact (hSt.warm hW).use w1 rfl rfl
theorem mj_split {D : mj_D} {st as : List Value} {n : Nat} (hA : (st.take n).reverse = as) : st.map (mj_cv D) = (as.map (mj_cv D)).reverse ++ (st.drop n).map (mj_cv D) := by
  subst hA
  rw [List.map_reverse, List.reverse_reverse, ← List.map_append, List.take_append_drop]
set_option maxHeartbeats 4000000 in
theorem mj_scall (hM : mj_okM M = true) (hH : ∀ mid M, 4 ≤ mid → mj_nth mj_ms mid = some M → mid ≠ 285 → mid ≠ 282 → mid ≠ 283 → mj_hd M) {d : Nat} (IH : mj_Met D l d) (HB : mj_HB D l d) (C : mj_Cx D M p R s m meth c n0 s0 Lx Sx) (hRf : R.frames = d + 1 + 4) (hRl : R.locals = 38 * (d + 1 + 4)) {x : mj_I} {cn : Nat} {v : Option Value} {h1 : mj_H} (he : mj_ent (mj_cd M) pc = some x) (hc : mj_isCall x.2.1 = some cn) (hlen : cn / 16 % 16 ≤ st.length)
    (hrv : mj_recv x.2.1 (st.take (cn / 16 % 16)).reverse h) (hs : ((st.drop (cn / 16 % 16)).map Value.category).sum ≤ 8) (hC : mj_Cl (mj_sta D) (d + 1) (cn / 256) (st.take (cn / 16 % 16)).reverse h v h1) (k : mj_P D M p l e R s m args below meth c Q n0 s0 Lx Sx (pc + 3) lv (v.toList ++ st.drop (cn / 16 % 16)) h1) :
    mj_P D M p l e R s m args below meth c Q n0 s0 Lx Sx pc lv st h := by
  have hle := mj_Cl_le _ _ _ _ _ _ hC
  obtain ⟨rfl, hok⟩ := mj_ent_ok hM he
  clear he
  unfold mj_okE at hok
  simp only [Bool.and_eq_true] at hok
  obtain ⟨⟨hl, ht⟩, hd0, hok⟩ := hok
  have hd := of_decide_eq_true hd0
  clear hd0
  obtain ⟨pc, i, len, raw, wp⟩ := x
  dsimp only at hl ht hd hok hc hrv k ⊢
  have hst : st = (st.take (cn / 16 % 16)).reverse.reverse ++ st.drop (cn / 16 % 16) := by rw [List.reverse_reverse, List.take_append_drop]
  have hAl : (st.take (cn / 16 % 16)).reverse.length = cn / 16 % 16 := by simp; omega
  generalize hA : (st.take (cn / 16 % 16)).reverse = as at hC hrv hst hAl
  -- a builtin's call
  have bui : ∀ j, cn / 16 % 16 = cn / 256 → 1 ≤ cn / 256 → cn / 256 ≤ 3 → raw = (if cn / 256 = 3 then .invokestatic j else .invokevirtual j) → len = 3 → mj_isB (mj_nth lw_tbl wp) (mj_nm M).cls j (cn / 256) = true → mj_P D M p l e R s m args below meth c Q n0 s0 Lx Sx pc lv st h := by
    intro j z0 z1 z2 z3 z4 z5
    subst z4
    rw [z3] at hd
    rcases hC with ⟨hb, h38⟩ | ⟨M', h4, -⟩
    · rw [hst]
      cases hw : mj_nth lw_tbl wp with
      | none => rw [hw] at z5; cases z5
      | some w0 =>
        rw [hw] at z5
        cases w0 <;> simp only [mj_isB, Bool.false_eq_true] at z5
        obtain ⟨e1, e2, e3⟩ := of_decide_eq_true z5
        subst e1; subst e2; subst e3
        exact HB M p e R s m args below meth c Q n0 s0 Lx Sx pc lv as (st.drop (cn / 16 % 16)) h h1 v (cn / 256) _ C hRf hRl z1 z2 hd (mj_nth_mem hw) hb h38 (hAl.trans z0) hs k
    · omega
  obtain ⟨hx, hb, hml, hown, hnm, hSt, hRc, hRs, hLx, hb1, hb2⟩ := id C
  -- a regular one
  have reg : 4 ≤ cn / 256 → ∃ M', mj_nth mj_ms (cn / 256) = some M' ∧ (cn / 256 ≠ 282 → cn / 256 ≠ 283 → (cn / 256 ≠ 285 → mj_hd M') ∧ Met l (mj_nm M') (mj_wd M') (mj_rm d h h1) (mj_Pc D as h) (mj_Qc D v h1) (h1.1.length - h.1.length) (h1.2 - h.2) (mj_A D)) := by
    intro h4
    rcases hC with ⟨hb, -⟩ | ⟨M', -, hM', hel, hgo⟩
    · rcases hb with ⟨z, -⟩ | ⟨z, -⟩ | ⟨z, -⟩ | ⟨z, -⟩ <;> omega
    · exact ⟨M', hM', fun z2 z3 => ⟨fun z5 => hH _ _ h4 hM' z5 z2 z3, IH _ M' as h v h1 h4 z2 z3 hM' hel hgo (Nat.le_trans k.1 hLx)⟩⟩
  have n282 : cn / 256 = 282 → mj_nth mj_ms (cn / 256) = some m_J9_max := fun z => by rw [z]; exact n_J9_max
  have n283 : cn / 256 = 283 → mj_nth mj_ms (cn / 256) = some m_J9_min := fun z => by rw [z]; exact n_J9_min
  have hcs : ∀ (g : JFrame), g = F0 m pc g.locals g.stack → 2 * g.monitorRoom + (((st.drop (cn / 16 % 16)).map (mj_cv D)).map fun v => v.category).sum ≤ 8 := by
    intro g hg
    have := lv_room (m := m) (pc := pc) (ls := g.locals) (rest := g.stack) (st := (st.drop (cn / 16 % 16)).map (mj_cv D)) (by rw [mj_catsum]; exact hs)
    rw [hg]
    exact this
  have hfc : ∀ H locs ls, mj_hp D h H → va_S (fun q => mj_b D ≤ q) s.heap H locs → lv_has ls (mj_mx M) (mj_pr D lv) → n0 ≤ h.1.length → s0 ≤ h.2 → h.1.length - n0 + (h1.1.length - h.1.length) ≤ R.cells ∧ h.2 - s0 + (h1.2 - h.2) ≤ R.slots := by
    intro H locs ls _ _ _ a4 a5
    have q1 := k.1
    have q2 := k.2.1
    rw [hRc, hRs]
    omega
  cases i <;> simp only [mj_isCall, reduceCtorEq, Option.some.injEq] at hc
  case invokevirtual cc =>
    subst hc
    cases raw <;> simp only [mj_ok, Bool.false_eq_true] at hok
    rename_i j
    have e2 : len = 3 := Nat.eq_of_beq_eq_true hl
    by_cases h4 : cc / 256 < 4
    · rw [if_pos h4] at hok
      simp only [Bool.and_eq_true, decide_eq_true_eq] at hok
      exact bui j hok.1.2.2 (by omega) (by omega) (by rw [if_neg (by omega)]) e2 hok.2
    · rw [if_neg h4] at hok
      subst e2
      obtain ⟨M', hM', hreg⟩ := reg (by omega)
      simp only [hM', Bool.and_eq_true, decide_eq_true_eq, mj_isM] at hok
      obtain ⟨o1, o2⟩ := hok
      split at o2
      case h_2 => cases o2
      rename_i M2 q e1 hq
      cases e1
      simp only [Bool.and_eq_true, decide_eq_true_eq] at o2
      obtain ⟨p1, p2, p3, p4, p5⟩ := o2
      have hne : cc / 256 ≠ 285 := by
        intro e
        rw [e] at hM'
        cases hM'
        exact absurd p4 (by decide +kernel)
      have hne2 : cc / 256 ≠ 282 := by
        intro e
        rw [e] at hM'
        cases hM'
        exact absurd p4 (by decide +kernel)
      have hne3 : cc / 256 ≠ 283 := by
        intro e
        rw [e] at hM'
        cases hM'
        exact absurd p4 (by decide +kernel)
      obtain ⟨hh', hMet⟩ := hreg hne2 hne3
      rcases hrv with z | ⟨k0, r, fs, hr, hc0⟩
      · omega
      subst hr
      refine ⟨Nat.le_trans hle.1 k.1, Nat.le_trans hle.2 k.2.1, fun H locs ls a1 a2 a3 a4 a5 => ?_⟩
      obtain ⟨r', g0, cell, g1, g2, g3, -⟩ := a1.2.2 k0 _ hc0 (mj_gbI (mj_cls hq).2.2.2.1)
      have hq' : vwCl[cc % 16]? = some q := by rw [← mj_nth_eq]; exact hq
      have ha : mj_ad D k0 = mj_b D + k0 := mj_ad_l (Nat.lt_of_lt_of_le (mj_nth_lt hc0) (Nat.le_trans (Nat.le_trans hle.1 k.1) hLx))
      have hpre : PreV s H q.1 (mj_ad D k0) (mj_Pc D (.ref k0 :: r) h) (r.map (mj_cv D)) := ⟨mj_blind _, ⟨cell, by rw [ha]; exact g1, by rw [g3]; rfl, by rw [g2]; exact (hSt.2.1 _ _ hq').2.1⟩, fun U hU hW => ⟨rfl, hSt.warm hW, by rw [hU]; exact a1⟩⟩
      have cw := mj_callB (args := args) (h := h) (h1 := h1) hSt rfl (hh' hne) hRf hRl p3
      have hstk : st.map (mj_cv D) = (r.map (mj_cv D)).reverse ++ .ref (mj_ad D k0) :: (st.drop (cc / 16 % 16)).map (mj_cv D) := by
        rw [mj_split hA]
        simp [mj_cv]
      have hrl : (r.map (mj_cv D)).length = cc / 16 % 16 - 1 := by
        simp only [List.length_cons] at hAl
        simp; omega
      refine mj_ofRun (rest := (st.drop (cc / 16 % 16)).map (mj_cv D)) (Qa := mj_Qc D v h1 (Value.ref (mj_ad D k0) :: r.map (mj_cv D)).toArray) (free := mj_A D) ?_ (fun w st₀ t H1 L q0 q1 q2 q3 => mj_behind C hle a1 a2 a3 a4 a5 k w H1 L q2.1 (by rw [← q1]; exact q2.2) q3)
      cases hw : mj_nth lw_tbl wp with
      | none => rw [hw] at o1; cases o1
      | some w0 =>
        rw [hw] at o1
        cases w0 <;> simp only [Bool.false_eq_true] at o1
        · obtain ⟨e1, e2, e3⟩ := of_decide_eq_true o1
          subst e1; subst e2; subst e3
          exact va_runV (Ts := []) (C := q.1) (own := (mj_nm M).cls) (n := cc / 16 % 16 - 1) ⟨hx, hb, hml, hown, fun _ h => by cases h⟩ hMet ⟨⟨cw.1, cw.2.1, cw.2.2.1, cw.2.2.2.1, cw.2.2.2.2.1, cw.2.2.2.2.2.1, cw.2.2.2.2.2.2.1, cw.2.2.2.2.2.2.2.1, cw.2.2.2.2.2.2.2.2.1, cw.2.2.2.2.2.2.2.2.2, hSt.use (mj_nth_mem hw) rfl rfl⟩, hSt.use p4 rfl rfl, hSt.use p5 rfl rfl⟩ hpre rfl hrl a3.1 hstk (hcs _ rfl) hd (hfc H locs ls a1 a2 a3 a4 a5)
        · obtain ⟨e1, e2, e3⟩ := of_decide_eq_true o1
          subst e1; subst e2; subst e3
          exact va_runVN (Ts := []) (C := q.1) (own := (mj_nm M).cls) (n := cc / 16 % 16 - 1) ⟨hx, hb, hml, hown, fun _ h => by cases h⟩ hMet ⟨⟨⟨cw.1, cw.2.1, cw.2.2.1, cw.2.2.2.1, cw.2.2.2.2.1, cw.2.2.2.2.2.1⟩, cw.2.2.2.2.2.2.1, cw.2.2.2.2.2.2.2.1, cw.2.2.2.2.2.2.2.2.1, cw.2.2.2.2.2.2.2.2.2, hSt.use (mj_nth_mem hw) rfl rfl⟩, hSt.use p4 rfl rfl, hSt.use p5 rfl rfl⟩ hpre rfl hrl a3.1 hstk (hcs _ rfl) hd (hfc H locs ls a1 a2 a3 a4 a5)
  case invokestatic cc =>
    subst hc
    cases raw <;> simp only [mj_ok, Bool.false_eq_true] at hok
    rename_i j
    have e2 : len = 3 := Nat.eq_of_beq_eq_true hl
    by_cases h4 : cc / 256 < 4
    · rw [if_pos h4] at hok
      simp only [Bool.and_eq_true, decide_eq_true_eq] at hok
      exact bui j (hok.1.2.trans hok.1.1.symm) (by omega) (by omega) (by rw [if_pos hok.1.1]) e2 (by rw [hok.1.1]; exact hok.2)
    · rw [if_neg h4] at hok
      subst e2
      obtain ⟨M', hM', hreg⟩ := reg (by omega)
      simp only [hM', Bool.and_eq_true, decide_eq_true_eq, mj_isM] at hok
      obtain ⟨o1, p3, p4⟩ := hok
      by_cases hm282 : cc / 256 = 282
      · rw [n282 hm282] at hM'
        cases hM'
        have hn2 : cc / 16 % 16 = 2 := by
          have := of_decide_eq_true p3
          have h9 : (parseMethodDescriptor (mj_nm m_J9_max).desc).map (fun d => d.parameters.length) = some 2 := by decide +kernel
          rw [h9] at this
          exact (Option.some.inj this).symm
        rcases hC with ⟨hb, -⟩ | ⟨M', -, hM2, hel, hgo⟩
        · rcases hb with ⟨z, -⟩ | ⟨z, -⟩ | ⟨z, -⟩ | ⟨z, -⟩ <;> omega
        rw [n282 hm282] at hM2
        cases hM2
        rw [hn2] at hAl
        match as, hAl, hgo, hA, hst with
        | [u, w], _, hgo, hA, hst =>
          obtain ⟨x, y, rfl, rfl, rfl, rfl⟩ := inv_max hgo
          refine ⟨k.1, k.2.1, fun H locs ls a1 a2 a3 a4 a5 => ?_⟩
          have hw9 := k.2.2 H locs ls a1 a2 a3 a4 a5
          have q1 := k.1
          have q2 := k.2.1
          have hstk : st.map (mj_cv D) = .int y :: .int x :: (st.drop (cc / 16 % 16)).map (mj_cv D) := by
            rw [mj_split hA]
            rfl
          rw [hstk]
          cases hw : mj_nth lw_tbl wp with
          | none => rw [hw] at o1; cases o1
          | some w0 =>
            rw [hw] at o1
            have hnest := List.all_eq_true.mp mm_link w0 (mj_nth_mem hw)
            cases w0 <;> simp only [Bool.false_eq_true] at o1
            · obtain ⟨e1, e2, e3⟩ := of_decide_eq_true o1
              subst e1; subst e2; subst e3
              exact va_mmax hx hb (hml.trans a3.1.symm) hown (hSt.use (mj_nth_mem hw) rfl rfl) (hSt.use mm_sx rfl rfl) (hSt.use mm_in rfl rfl) (hSt.use mm_cx rfl rfl) (by omega) (by rw [mj_catsum]; omega) (by omega) (by omega) hd hw9
            · obtain ⟨e1, e2, e3⟩ := of_decide_eq_true o1
              subst e3
              have hnest : (!(decide (mj_nm m_J9_max = yJ9_max_7cf53) || decide (mj_nm m_J9_max = yJ9_min_7cf53))) = true := hnest
              exact absurd hnest (by decide)
      by_cases hm283 : cc / 256 = 283
      · rw [n283 hm283] at hM'
        cases hM'
        have hn2 : cc / 16 % 16 = 2 := by
          have := of_decide_eq_true p3
          have h9 : (parseMethodDescriptor (mj_nm m_J9_min).desc).map (fun d => d.parameters.length) = some 2 := by decide +kernel
          rw [h9] at this
          exact (Option.some.inj this).symm
        rcases hC with ⟨hb, -⟩ | ⟨M', -, hM2, hel, hgo⟩
        · rcases hb with ⟨z, -⟩ | ⟨z, -⟩ | ⟨z, -⟩ | ⟨z, -⟩ <;> omega
        rw [n283 hm283] at hM2
        cases hM2
        rw [hn2] at hAl
        match as, hAl, hgo, hA, hst with
        | [u, w], _, hgo, hA, hst =>
          obtain ⟨x, y, rfl, rfl, rfl, rfl⟩ := inv_min hgo
          refine ⟨k.1, k.2.1, fun H locs ls a1 a2 a3 a4 a5 => ?_⟩
          have hw9 := k.2.2 H locs ls a1 a2 a3 a4 a5
          have q1 := k.1
          have q2 := k.2.1
          have hstk : st.map (mj_cv D) = .int y :: .int x :: (st.drop (cc / 16 % 16)).map (mj_cv D) := by
            rw [mj_split hA]
            rfl
          rw [hstk]
          cases hw : mj_nth lw_tbl wp with
          | none => rw [hw] at o1; cases o1
          | some w0 =>
            rw [hw] at o1
            have hnest := List.all_eq_true.mp mm_link w0 (mj_nth_mem hw)
            cases w0 <;> simp only [Bool.false_eq_true] at o1
            · obtain ⟨e1, e2, e3⟩ := of_decide_eq_true o1
              subst e1; subst e2; subst e3
              exact va_mmin hx hb (hml.trans a3.1.symm) hown (hSt.use (mj_nth_mem hw) rfl rfl) (hSt.use mm_sn rfl rfl) (hSt.use mm_in rfl rfl) (hSt.use mm_cn rfl rfl) (by omega) (by rw [mj_catsum]; omega) (by omega) (by omega) hd hw9
            · obtain ⟨e1, e2, e3⟩ := of_decide_eq_true o1
              subst e3
              have hnest : (!(decide (mj_nm m_J9_min = yJ9_max_7cf53) || decide (mj_nm m_J9_min = yJ9_min_7cf53))) = true := hnest
              exact absurd hnest (by decide)
      have hne : cc / 256 ≠ 285 := by
        intro e
        rw [e] at hM'
        cases hM'
        exact absurd p4 (by decide +kernel)
      obtain ⟨hh', hMet⟩ := hreg hm282 hm283
      refine ⟨Nat.le_trans hle.1 k.1, Nat.le_trans hle.2 k.2.1, fun H locs ls a1 a2 a3 a4 a5 => ?_⟩
      have hpre : PreS s H (mj_Pc D as h) (as.map (mj_cv D)) := ⟨mj_blind _, fun U hU hW => ⟨rfl, hSt.warm hW, by rw [hU]; exact a1⟩⟩
      have cw := mj_callB (args := args) (h := h) (h1 := h1) hSt rfl (hh' hne) hRf hRl p3
      refine mj_ofRun (rest := (st.drop (cc / 16 % 16)).map (mj_cv D)) (Qa := mj_Qc D v h1 (as.map (mj_cv D)).toArray) (free := mj_A D) ?_ (fun w st₀ t H1 L q0 q1 q2 q3 => mj_behind C hle a1 a2 a3 a4 a5 k w H1 L q2.1 (by rw [← q1]; exact q2.2) q3)
      cases hw : mj_nth lw_tbl wp with
      | none => rw [hw] at o1; cases o1
      | some w0 =>
        rw [hw] at o1
        cases w0 <;> simp only [Bool.false_eq_true] at o1
        · obtain ⟨e1, e2, e3⟩ := of_decide_eq_true o1
          subst e1; subst e2; subst e3
          exact va_runS (Ts := []) (own := (mj_nm M).cls) (n := cc / 16 % 16) ⟨hx, hb, hml, hown, fun _ h => by cases h⟩ hMet ⟨⟨cw.1, cw.2.1, cw.2.2.1, cw.2.2.2.1, cw.2.2.2.2.1, cw.2.2.2.2.2.1, cw.2.2.2.2.2.2.1, cw.2.2.2.2.2.2.2.1, cw.2.2.2.2.2.2.2.2.1, cw.2.2.2.2.2.2.2.2.2, hSt.use (mj_nth_mem hw) rfl rfl⟩, hSt.use p4 rfl rfl⟩ hpre rfl (by simpa using hAl) a3.1 (mj_split hA) (hcs _ rfl) hd (hfc H locs ls a1 a2 a3 a4 a5)
        · obtain ⟨e1, e2, e3⟩ := of_decide_eq_true o1
          subst e1; subst e2; subst e3
          exact va_runSN (Ts := []) (own := (mj_nm M).cls) (n := cc / 16 % 16) ⟨hx, hb, hml, hown, fun _ h => by cases h⟩ hMet ⟨⟨⟨cw.1, cw.2.1, cw.2.2.1, cw.2.2.2.1, cw.2.2.2.2.1, cw.2.2.2.2.2.1⟩, cw.2.2.2.2.2.2.1, cw.2.2.2.2.2.2.2.1, cw.2.2.2.2.2.2.2.2.1, cw.2.2.2.2.2.2.2.2.2, hSt.use (mj_nth_mem hw) rfl rfl⟩, hSt.use p4 rfl rfl, trivial⟩ hpre rfl (by simpa using hAl) a3.1 (mj_split hA) (hcs _ rfl) hd (hfc H locs ls a1 a2 a3 a4 a5)
  case invokespecial cc =>
    subst hc
    cases raw <;> simp only [mj_ok, Bool.false_eq_true] at hok
    rename_i j
    have e2 : len = 3 := Nat.eq_of_beq_eq_true hl
    by_cases h4 : cc / 256 < 4
    · rw [if_pos h4] at hok
      simp only [Bool.and_eq_true, decide_eq_true_eq] at hok
      obtain ⟨⟨o0, on⟩, o1⟩ := hok
      subst e2
      rcases hC with ⟨hb3, -⟩ | ⟨M', h5, -⟩
      · rcases hb3 with ⟨-, k0, r1, r2, r3⟩ | ⟨z, -⟩ | ⟨z, -⟩ | ⟨z, -⟩
        · subst r1; subst r2; subst r3
          refine ⟨k.1, k.2.1, fun H locs ls a1 a2 a3 a4 a5 => ?_⟩
          have w := k.2.2 H locs ls a1 a2 a3 a4 a5
          cases hw : mj_nth lw_tbl wp with
          | none => rw [hw] at o1; cases o1
          | some w0 =>
            rw [hw] at o1
            cases w0 <;> simp only [mj_isB, Bool.false_eq_true] at o1
            obtain ⟨e1, e2, e3⟩ := of_decide_eq_true o1
            subst e1; subst e2; subst e3
            have hstk : st.map (mj_cv D) = .ref (mj_ad D k0) :: (st.drop (cc / 16 % 16)).map (mj_cv D) := by
              rw [mj_split hA]
              simp [mj_cv]
            rw [hstk]
            refine W.objInit hx hb hown (hSt.use (mj_nth_mem hw) rfl rfl) (hSt.use mj_oiI rfl rfl) (hSt.use mj_oiC rfl rfl) rfl (a3.1.trans hml.symm) rfl hd (by rw [hRf]; omega) ?_ w
            have := hcs (F0 m pc ls (.ref (mj_ad D k0) :: (st.drop (cc / 16 % 16)).map (mj_cv D))) rfl
            rw [hRl]
            omega
        · omega
        · omega
        · omega
      · omega
    · rw [if_neg h4] at hok
      subst e2
      obtain ⟨M', hM', hreg⟩ := reg (by omega)
      simp only [hM', Bool.and_eq_true, decide_eq_true_eq, mj_isM] at hok
      obtain ⟨o1, ⟨p1, p2, pr⟩, p3, p4⟩ := hok
      have hne : cc / 256 ≠ 285 := by
        intro e
        rw [e] at hM'
        cases hM'
        exact absurd p4 (by decide +kernel)
      have hne2 : cc / 256 ≠ 282 := by
        intro e
        rw [e] at hM'
        cases hM'
        exact absurd p4 (by decide +kernel)
      have hne3 : cc / 256 ≠ 283 := by
        intro e
        rw [e] at hM'
        cases hM'
        exact absurd p4 (by decide +kernel)
      obtain ⟨hh', hMet⟩ := hreg hne2 hne3
      obtain ⟨k0, r, hr⟩ := hrv
      subst hr
      refine ⟨Nat.le_trans hle.1 k.1, Nat.le_trans hle.2 k.2.1, fun H locs ls a1 a2 a3 a4 a5 => ?_⟩
      have hpre : PreS s H (mj_Pc D (.ref k0 :: r) h) (.ref (mj_ad D k0) :: r.map (mj_cv D)) := ⟨mj_blind _, fun U hU hW => ⟨rfl, hSt.warm hW, by rw [hU]; exact a1⟩⟩
      have cw := mj_callB (args := args) (h := h) (h1 := h1) hSt pr (hh' hne) hRf hRl p3
      have hstk : st.map (mj_cv D) = (r.map (mj_cv D)).reverse ++ .ref (mj_ad D k0) :: (st.drop (cc / 16 % 16)).map (mj_cv D) := by
        rw [mj_split hA]
        simp [mj_cv]
      have hrl : (r.map (mj_cv D)).length = cc / 16 % 16 - 1 := by
        simp only [List.length_cons] at hAl
        simp; omega
      refine mj_ofRun (rest := (st.drop (cc / 16 % 16)).map (mj_cv D)) (Qa := mj_Qc D v h1 (Value.ref (mj_ad D k0) :: r.map (mj_cv D)).toArray) (free := mj_A D) ?_ (fun w st₀ t H1 L q0 q1 q2 q3 => mj_behind C hle a1 a2 a3 a4 a5 k w H1 L q2.1 (by rw [← q1]; exact q2.2) q3)
      cases hw : mj_nth lw_tbl wp with
      | none => rw [hw] at o1; cases o1
      | some w0 =>
        rw [hw] at o1
        cases w0 <;> simp only [Bool.false_eq_true] at o1
        · obtain ⟨e1, e2, e3⟩ := of_decide_eq_true o1
          subst e1; subst e2; subst e3
          exact va_runI (Ts := []) (own := (mj_nm M).cls) (n := cc / 16 % 16 - 1) ⟨hx, hb, hml, hown, fun _ h => by cases h⟩ hMet ⟨⟨cw.1, cw.2.1, cw.2.2.1, cw.2.2.2.1, cw.2.2.2.2.1, cw.2.2.2.2.2.1, cw.2.2.2.2.2.2.1, cw.2.2.2.2.2.2.2.1, cw.2.2.2.2.2.2.2.2.1, cw.2.2.2.2.2.2.2.2.2, hSt.use (mj_nth_mem hw) rfl rfl⟩, p2, hSt.use p4 rfl rfl⟩ hpre rfl hrl a3.1 hstk (hcs _ rfl) hd (hfc H locs ls a1 a2 a3 a4 a5)
        · obtain ⟨e1, e2, e3⟩ := of_decide_eq_true o1
          subst e1; subst e2; subst e3
          exact va_runIN (Ts := []) (own := (mj_nm M).cls) (n := cc / 16 % 16 - 1) ⟨hx, hb, hml, hown, fun _ h => by cases h⟩ hMet ⟨⟨⟨cw.1, cw.2.1, cw.2.2.1, cw.2.2.2.1, cw.2.2.2.2.1, cw.2.2.2.2.2.1⟩, cw.2.2.2.2.2.2.1, cw.2.2.2.2.2.2.2.1, cw.2.2.2.2.2.2.2.2.1, cw.2.2.2.2.2.2.2.2.2, hSt.use (mj_nth_mem hw) rfl rfl⟩, p2, hSt.use p4 rfl rfl⟩ hpre rfl hrl a3.1 hstk (hcs _ rfl) hd (hfc H locs ls a1 a2 a3 a4 a5)
end MJC
