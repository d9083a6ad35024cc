/-! calls -/
/-- the calls that are taken apart: Object.<init>, String.length, String.charAt, the law's led -/
def mj_bi (sta : mj_S) (Cl : mj_R) (mid : Nat) (as : List Value) (h : mj_H) (v : Option Value) (h' : mj_H) : Prop :=
  (mid = 0 ∧ ∃ k : Nat, as = [.ref k] ∧ v = none ∧ h' = h) ∨
  (mid = 1 ∧ ∃ (j : Nat) (r : String × Nat × String), as = [.ref (mj_SB + j)] ∧ mj_nth mj_str j = some r ∧ v = some (.int (Int32.ofNat r.2.2.toList.length)) ∧ h' = h) ∨
  (mid = 2 ∧ ∃ (j : Nat) (r : String × Nat × String) (k : Nat) (ch : Char), as = [.ref (mj_SB + j), .int (Int32.ofNat k)] ∧ mj_nth mj_str j = some r ∧ mj_nth r.2.2.toList k = some ch ∧ v = some (.int (Int32.ofNat ch.toNat)) ∧ h' = h) ∨
  (mid = 3 ∧ ((∃ (x o : Nat) (i : Int32), as = [.ref x, .int i, .ref o] ∧ (∃ fs, mj_nth h.1 x = some (.inr (8, fs))) ∧
    ((∃ (y : Int32) (h1 : mj_H) (n : Nat) (f : Nat → Int64), Cl 128 [.ref x, .int i] h (some (.int y)) h1 ∧ mj_nth h1.1 o = some (.inl (1, n + 1, .inr (.inl f))) ∧ v = some (.int 0) ∧ h' = (h1.1.set o (.inl (1, n + 1, .inr (.inl (vp_updL f 0 y.toInt64)))), h1.2)) ∨
     (Cl 3 [.ref x, .int i] h none h' ∧ v = some (.int 1)))) ∨
    (∃ (x : Nat) (i : Int32) (h1 : mj_H), as = [.ref x, .int i] ∧ mj_go sta Cl m_X8_led (fun pc _ st h => pc = 68 ∧ st = [] ∧ h = h1) 0 (mj_e0 (mj_mx m_X8_led) [.ref x, .int i]) [] h ∧ v = none ∧ h' = (h1.1 ++ [.inr (99, [])], h1.2 + 6))))
def mj_Cl (sta : mj_S) : Nat → mj_R
  | 0 => fun _ _ _ _ _ => False
  | d + 1 => fun mid as h v h' => (mj_bi sta (mj_Cl sta d) mid as h v h' ∧ (mid = 3 → 8 ≤ d)) ∨ ∃ M, 4 ≤ mid ∧ mj_nth mj_ms mid = some M ∧ (mj_el as).length ≤ mj_mx M ∧ mj_go sta (mj_Cl sta d) M (mj_ret M v h') 0 (mj_e0 (mj_mx M) as) [] h
theorem mj_led_no : mj_nth mj_ms 128 = some m_X8_led := by rfl
theorem mj_nx_le {sta : mj_S} {i : Instr} {len pc pc' : Nat} {lv lv' : mj_L} {st st' : List Value} {h h' : mj_H} (hn : mj_nx sta i len pc lv st h = some (pc', lv', st', h')) : h.1.length ≤ h'.1.length ∧ h.2 ≤ h'.2 := by
  unfold mj_nx at hn
  repeat' split at hn
  all_goals first
    | (cases hn; done)
    | (cases hn; exact ⟨Nat.le_refl _, Nat.le_refl _⟩)
    | (cases hn; constructor <;> simp)
    | skip
  all_goals
    generalize Nat.beq _ _ = bb at hn
    cases bb <;> first
      | (cases hn; done)
      | (cases hn; exact ⟨Nat.le_refl _, Nat.le_refl _⟩)
      | (cases hn; constructor <;> simp)
theorem mj_go_le {sta : mj_S} {Cl : mj_R} (hC : ∀ mid as h v h', Cl mid as h v h' → h.1.length ≤ h'.1.length ∧ h.2 ≤ h'.2) {M : mj_M} {T : Nat → mj_L → List Value → mj_H → Prop} {n z : Nat} (hT : ∀ pc lv st h, T pc lv st h → h.1.length ≤ n ∧ h.2 ≤ z) {pc : Nat} {lv : mj_L} {st : List Value} {h : mj_H} (hg : mj_go sta Cl M T pc lv st h) : h.1.length ≤ n ∧ h.2 ≤ z := by
  refine hg (fun _ _ _ h => h.1.length ≤ n ∧ h.2 ≤ z) hT (fun pc lv st h e pc' lv' st' h' _ hn hP => ?_) (fun pc lv st h e c v h' _ _ _ _ _ hc hP => ?_)
  · have := mj_nx_le hn
    exact ⟨Nat.le_trans this.1 hP.1, Nat.le_trans this.2 hP.2⟩
  · have := hC _ _ _ _ _ hc
    exact ⟨Nat.le_trans this.1 hP.1, Nat.le_trans this.2 hP.2⟩
theorem mj_Cl_le {sta : mj_S} : ∀ (d mid : Nat) (as : List Value) (h : mj_H) (v : Option Value) (h' : mj_H), mj_Cl sta d mid as h v h' → h.1.length ≤ h'.1.length ∧ h.2 ≤ h'.2
  | 0, _, _, _, _, _, hc => hc.elim
  | d + 1, mid, as, h, v, h', hc => by
    rcases hc with ⟨hb, -⟩ | ⟨M, -, -, -, hg⟩
    · rcases hb with ⟨-, k, -, -, rfl⟩ | ⟨-, j, r, -, -, -, rfl⟩ | ⟨-, j, r, k, ch, -, -, -, -, rfl⟩ | ⟨-, ⟨x, o, i, -, -, hb⟩ | ⟨x, i, h1, -, hg, -, rfl⟩⟩
      · exact ⟨Nat.le_refl _, Nat.le_refl _⟩
      · exact ⟨Nat.le_refl _, Nat.le_refl _⟩
      · exact ⟨Nat.le_refl _, Nat.le_refl _⟩
      · rcases hb with ⟨y, h1, n, f, h2, -, -, rfl⟩ | ⟨h2, -⟩
        · have := mj_Cl_le d _ _ _ _ _ h2
          simpa using this
        · exact mj_Cl_le d _ _ _ _ _ h2
      · have := mj_go_le (mj_Cl_le d) (n := h1.1.length) (z := h1.2) (fun pc lv st h ht => by rw [ht.2.2]; exact ⟨Nat.le_refl _, Nat.le_refl _⟩) hg
        exact ⟨by simp; omega, by show h.2 ≤ h1.2 + 6; omega⟩
    · exact mj_go_le (mj_Cl_le d) (fun pc lv st h ht => by rw [ht.1]; exact ⟨Nat.le_refl _, Nat.le_refl _⟩) hg
/-- what a call asks of a method's head -/
def mj_hd (M : mj_M) : Prop := Cond.code (mj_nm M) (mj_bt M) (mj_mx M) (mj_rt M) ∈ lw_tbl ∧ Cond.initialized (mj_nm M).cls ∈ lw_tbl ∧ ((mj_nm M).cls ≠ "java/lang/invoke/MethodHandle" ∧ (mj_nm M).cls ≠ "java/lang/invoke/VarHandle") ∧ plainName (mj_nm M).cls = true ∧ mj_mx M ≤ 19
def mj_rm (d : Nat) (h h' : mj_H) : Room := { frames := d + 4, cells := h'.1.length - h.1.length, slots := h'.2 - h.2, locals := 38 * (d + 4) }
def mj_Pc (D : mj_D) (as : List Value) (h : mj_H) : Array Value → State → Prop := va_Pc (as.map (mj_cv D)) (fun U => mj_St D U ∧ mj_hp D h U.heap)
def mj_Qc (D : mj_D) (v : Option Value) (h' : mj_H) : Array Value → State → Outcome → State → Prop := fun _ _ o t => o = .returned (v.map (mj_cv D)) ∧ mj_hp D h' t.heap
def mj_wd (M : mj_M) : List Cond := [Cond.code (mj_nm M) (mj_bt M) (mj_mx M) (mj_rt M)]
abbrev mj_A (D : mj_D) : Addr → Prop := fun q => mj_b D ≤ q
/-- a method's contract, at depth d -/
def mj_Met (D : mj_D) (l : Launch) (d : Nat) : Prop := ∀ (mid : Nat) (M : mj_M) (as : List Value) (h : mj_H) (v : Option Value) (h' : mj_H), 4 ≤ mid → mid ≠ 282 → mid ≠ 283 → mj_nth mj_ms mid = some M → (mj_el as).length ≤ mj_mx M → mj_go (mj_sta D) (mj_Cl (mj_sta D) d) M (mj_ret M v h') 0 (mj_e0 (mj_mx M) as) [] h → h'.1.length ≤ mj_SB →
  Met l (mj_nm M) (mj_wd M) (mj_rm d h h') (mj_Pc D as h) (mj_Qc D v h') (h'.1.length - h.1.length) (h'.2 - h.2) (mj_A D)
section MJR
variable {D : mj_D} {M : mj_M} {p : Program} {l : Launch} {e : Env} {R : Room} {s : State} {m : MethodId} {args : Array Value} {below : List Frame} {meth : Method} {c : Code} {Q : State → Prop} {n0 s0 Lx Sx : Nat}
variable {pc : Nat} {lv : mj_L} {st : List Value} {h : mj_H}
theorem mj_ofRun {H : Heap} {locs : List Loc} {cells slots mc ms : Nat} {ls : Array Slot} {st0 rest : List Value} {Qa : State → Outcome → State → Prop} {free : Addr → Prop} (hr : va_Run p l e R s m args below meth c H locs cells slots mc ms (F0 m pc ls st0) rest Qa free)
    (kk : ∀ (v : Option Value) (st₀ t : State) (H1 : Heap) (L : List Loc), st₀.heap = H → t.heap = H1 → Qa st₀ (.returned v) t → (∀ q ∈ L, free q.base) → W p l e R s m args below meth c H1 (locs ++ L) (cells + mc) (slots + ms) Q (F0 m (pc + 3) ls (v.toList ++ rest))) : W p l e R s m args below meth c H locs cells slots Q (F0 m pc ls st0) := by
  intro T hT X
  obtain ⟨v, st₀, t, T', L, h0, X', hL, e1, e2, hq, st⟩ := hr T hT X
  obtain ⟨t2, b1, b2⟩ := kk v st₀ t T'.heap L h0 e1.symm hq hL T' rfl X'
  exact ⟨t2, st t2 b1, b2⟩
theorem mj_blind (as : List Value) : FrameBlind (mj_Pc D as h) := fun a U g mk q => ⟨q.1, q.2.1.warm (U := U.calling g mk a) (State.WarmedH.refl U), q.2.2⟩
/-- behind a call -/
theorem mj_behind (C : mj_Cx D M p R s m meth c n0 s0 Lx Sx) {v : Option Value} {h1 : mj_H} {r : List Value} (hle : h.1.length ≤ h1.1.length ∧ h.2 ≤ h1.2) {H : Heap} {locs : List Loc} {ls : Array Slot} (a1 : mj_hp D h H) (a2 : va_S (fun q => mj_b D ≤ q) s.heap H locs) (a3 : lv_has ls (mj_mx M) (mj_pr D lv)) (a4 : n0 ≤ h.1.length) (a5 : s0 ≤ h.2)
    (k : mj_P D M p l e R s m args below meth c Q n0 s0 Lx Sx (pc + 3) lv (v.toList ++ r) h1) (w : Option Value) (H1 : Heap) (L : List Loc) (hw : Outcome.returned w = .returned (v.map (mj_cv D))) (hp1 : mj_hp D h1 H1) (hL : ∀ q ∈ L, mj_A D q.base) :
    W p l e R s m args below meth c H1 (locs ++ L) (h.1.length - n0 + (h1.1.length - h.1.length)) (h.2 - s0 + (h1.2 - h.2)) Q (F0 m (pc + 3) ls (w.toList ++ r.map (mj_cv D))) := by
  cases hw
  obtain ⟨hx, hb, hml, hown, hnm, hSt, hRc, hRs, hLx, hb1, hb2⟩ := id C
  have hz := a1.1
  have hz1 := hp1.1
  have h0 := a2.1
  have w := k.2.2 H1 (locs ++ L) ls hp1 ⟨by omega, fun q q1 q2 => by rw [hp1.2.1 q (Nat.not_le.mp q2), hb2 q (Nat.not_le.mp q2)], fun q hq => (List.mem_append.mp hq).elim (a2.2.2 q) (hL q)⟩ a3 (by omega) (by omega)
  rw [show h.1.length - n0 + (h1.1.length - h.1.length) = h1.1.length - n0 by omega, show h.2 - s0 + (h1.2 - h.2) = h1.2 - s0 by omega]
  have e1 : (v.toList ++ r).map (mj_cv D) = (v.map (mj_cv D)).toList ++ r.map (mj_cv D) := by cases v <;> simp
  rw [e1] at w
  exact w
end MJR
