/-! the small machine's cells in the Jvm's heap -/
/-- class numbers, array classes, where the made cells begin, the heap at the law's start, the static cells, their ints -/
abbrev mj_D : Type := va_G × (Nat → ClassId) × Nat × Heap × (Nat → Nat) × mj_S × State
abbrev mj_G (D : mj_D) : va_G := D.1
abbrev mj_dA (D : mj_D) : Nat → ClassId := D.2.1
abbrev mj_b (D : mj_D) : Nat := D.2.2.1
abbrev mj_H0 (D : mj_D) : Heap := D.2.2.2.1
abbrev mj_sK (D : mj_D) : Nat → Nat := D.2.2.2.2.1
abbrev mj_sta (D : mj_D) : mj_S := D.2.2.2.2.2.1
abbrev mj_s0 (D : mj_D) : State := D.2.2.2.2.2.2
def mj_ad (D : mj_D) (k : Nat) : Nat := if k < mj_SB then mj_b D + k else mj_sK D (k - mj_SB)
def mj_cv (D : mj_D) : Value → Value
  | .ref k => .ref (mj_ad D k)
  | v => v
def mj_cx (D : mj_D) (x : (Nat → Int32) ⊕ (Nat → Int64) ⊕ (Nat → UInt32) ⊕ (Nat → UInt64) ⊕ (Nat → Option Nat)) : (Nat → Int32) ⊕ (Nat → Int64) ⊕ (Nat → UInt32) ⊕ (Nat → UInt64) ⊕ (Nat → Option Nat) := match x with
  | .inr (.inr (.inr (.inr f))) => .inr (.inr (.inr (.inr (fun i => (f i).map (mj_ad D)))))
  | y => y
def mj_ca (D : mj_D) : va_E → va_E
  | .inl (a, n, x) => .inl (mj_dA D a, n, mj_cx D x)
  | .inr (ci, fs) => .inr (ci, fs.map (mj_cv D))
/-- a cell that nobody looks at -/
def mj_gb : va_E → Bool
  | .inr (99, _) => true
  | _ => false
def mj_hp (D : mj_D) (h : mj_H) (H : Heap) : Prop := H.size = mj_b D + h.1.length ∧ (∀ q : Nat, q < mj_b D → H[q]? = (mj_H0 D)[q]?) ∧ ∀ (k : Nat) (e : va_E), mj_nth h.1 k = some e → mj_gb e = false → va_at (mj_G D) vwCl (mj_b D + k, mj_ca D e) H
def mj_nest (w : Cond) : Bool := match w with
  | .fieldLinkNest .. => true
  | .methodLinkNest .. => true
  | _ => false
def mj_kw (w : Cond) : Bool := mj_nest w || goodWord w
def mj_tys : List FieldType := [.int, .long, .byte, .object "LowNumber$Now", .array .int]
def mj_AA (U : State) : Prop := (Cond.arrayOver (.array .int)).before #[] U = true
/-- what the tables say, at every state of the run -/
def mj_St (D : mj_D) (s : State) : Prop :=
  (∀ w ∈ lw_tbl, mj_kw w = true → va_Nw w s) ∧ (∀ (c : Nat) (q : vw_C), vwCl[c]? = some q → u_Kn s q.1 q.2.1 q.2.2 ((mj_G D).1 c) ((mj_G D).2 c)) ∧
  (∀ (a : Nat) (ty : FieldType), mj_tys[a]? = some ty → ArrOfT s (mj_dA D a) ty ∧ va_RA s (mj_dA D a) ty) ∧
  (∀ (k n : Nat) (f : Nat → Int32), mj_sta D k = some (n, f) → mj_SB ≤ k ∧ va_X (mj_sK D (k - mj_SB)) n f s (mj_H0 D) ∧ mj_sK D (k - mj_SB) < mj_b D) ∧
  (∀ (j : Nat) (r : String × Nat × String), mj_nth mj_str j = some r → vk_R r.1 r.2.1 r.2.2 (mj_sK D j) s) ∧
  va_AO "LowNumber$Now" s ∧ mj_AA s ∧ va_Z "LowNumber" "FACTORIALS" "[I" (.ref (mj_sK D 100)) (fun q => mj_b D ≤ q) s (mj_H0 D) ∧ (mj_H0 D).size = mj_b D ∧ (mj_s0 D).WarmedH s.vm
theorem mj_bare_kind (vm : Vm) (c : ClassId) : (vm.bare.classes[c]?).map (fun k : Class => k.kind) = (vm.classes[c]?).map (fun k : Class => k.kind) := by
  simp only [Vm.bare, Array.getElem?_map, Option.map_map]
  rfl
theorem mj_bare_idx (vm : Vm) (g : Kind → Bool) : (vm.bare.classes.findIdx? fun (x : Class) => g x.kind) = (vm.classes.findIdx? fun (x : Class) => g x.kind) := by
  simp only [Vm.bare, Array.findIdx?_map]
  rfl
theorem mj_AA.moved {u U : State} (hvm : u.vm.Alike U.vm) (h : mj_AA u) : mj_AA U := by
  have hi : ∀ g : Kind → Bool, (U.vm.classes.findIdx? fun (x : Class) => g x.kind) = (u.vm.classes.findIdx? fun (x : Class) => g x.kind) := by
    intro g
    rw [← mj_bare_idx U.vm, ← mj_bare_idx u.vm]
    first | rw [hvm.bare_eq] | rw [← hvm.bare_eq]
  have hk : ∀ c : ClassId, (U.vm.classes[c]?).map (fun k : Class => k.kind) = (u.vm.classes[c]?).map (fun k : Class => k.kind) := by
    intro c
    rw [← mj_bare_kind U.vm, ← mj_bare_kind u.vm]
    first | rw [hvm.bare_eq] | rw [← hvm.bare_eq]
  have hm : ∀ (c : ClassId) (g : Kind → Bool), (U.vm.classes[c]?).map (fun k : Class => g k.kind) = (u.vm.classes[c]?).map (fun k : Class => g k.kind) := by
    intro c g
    have := congrArg (Option.map g) (hk c)
    simpa [Option.map_map, Function.comp_def] using this
  unfold mj_AA Cond.before Cond.holds at h ⊢
  simp only [Cond.value] at h ⊢
  refine Eq.trans ?_ h
  refine congrArg (fun o : Option Bool => o == some true) ?_
  rw [hvm.findClass]
  refine congrArg (fun f => Option.bind (u.vm.findClass (FieldType.array .int).toString) f) (funext fun comp => ?_)
  refine (congrArg (fun o : Option Nat => Option.bind o _) (hi (fun kd => match kd with | .array component _ => component == comp | _ => false))).trans (congrArg (fun f => Option.bind _ f) (funext fun c => ?_))
  rw [hvm.findClass]
  exact hm c (fun kd => match kd with | .array _ ty => decide (ty = FieldType.array .int) && decide (u.vm.findClass ("[" ++ (FieldType.array .int).toString) = some c) | _ => false)
theorem mj_St.warm {D : mj_D} {s U : State} (hW : s.WarmedH U.vm) (h : mj_St D s) : mj_St D U := by
  obtain ⟨h1, h2, h3, h4, h5, h6, h7, h8, h9⟩ := h
  refine ⟨fun w hw hk => ?_, fun c q hq => u_Kn_moved hW.alike (h2 c q hq), fun a ty ha => ⟨arrOfT_moved hW.alike (h3 a ty ha).1, (h3 a ty ha).2.moved hW.alike⟩, fun j n f hj => ⟨(h4 j n f hj).1, (h4 j n f hj).2.1.moved hW.alike, (h4 j n f hj).2.2⟩, fun j r hj => (h5 j r hj).warm hW, h6.moved hW.alike, h7.moved hW.alike, h8.moved hW.alike, h9.1, State.WarmedH.trans h9.2 hW⟩
  have h0 := h1 w hw hk
  cases hn : mj_nest w with
  | true =>
    cases w <;> simp [mj_nest] at hn
    · exact va_Nw.warmM hW h0
    · exact va_Nw.warmF hW h0
  | false =>
    have hg : goodWord w = true := by simpa [mj_kw, hn] using hk
    exact word_at hW (good_of_word hg) h0
theorem mj_cat (D : mj_D) (v : Value) : (mj_cv D v).category = v.category := by cases v <;> rfl
theorem mj_nth_lt {α : Type} {l : List α} {k : Nat} {a : α} (h : mj_nth l k = some a) : k < l.length := by
  rw [mj_nth_eq] at h
  exact (List.getElem?_eq_some_iff.mp h).1
theorem mj_nth_set {α : Type} {l : List α} {k : Nat} {a b : α} (h : mj_nth l k = some a) : mj_nth (l.set k b) k = some b := by
  rw [mj_nth_eq, List.getElem?_set_self (mj_nth_lt h)]
theorem mj_nth_ne {α : Type} {l : List α} {k j : Nat} {b : α} (h : j ≠ k) : mj_nth (l.set k b) j = mj_nth l j := by
  rw [mj_nth_eq, mj_nth_eq, List.getElem?_set_ne (fun e => h e.symm)]
theorem mj_nth_map {α β : Type} (f : α → β) (l : List α) (k : Nat) : mj_nth (l.map f) k = (mj_nth l k).map f := by
  rw [mj_nth_eq, mj_nth_eq, List.getElem?_map]
theorem mj_hp.set {D : mj_D} {h : mj_H} {H H1 : Heap} {k n : Nat} {e0 e : va_E} (hh : mj_hp D h H) (hk : mj_nth h.1 k = some e0) (hz : H1.size = H.size) (ho : ∀ q, q ≠ mj_b D + k → H1[q]? = H[q]?) (ha : va_at (mj_G D) vwCl (mj_b D + k, mj_ca D e) H1) : mj_hp D (h.1.set k e, n) H1 := by
  obtain ⟨h1, h2, h3⟩ := hh
  refine ⟨by rw [hz, h1]; simp, fun q hq => by rw [ho q (by omega)]; exact h2 q hq, fun j e' hj hg => ?_⟩
  by_cases hjk : j = k
  · subst hjk
    have : e' = e := Option.some.inj (hj.symm.trans (mj_nth_set hk))
    subst this
    exact ha
  · have hj' : mj_nth h.1 j = some e' := (mj_nth_ne hjk).symm.trans hj
    exact (h3 j e' hj' hg).kept (ho _ (by show mj_b D + j ≠ mj_b D + k; omega))
theorem mj_nth_app {α : Type} {l t : List α} {j : Nat} {a : α} (h : mj_nth (l ++ t) j = some a) : (j < l.length ∧ mj_nth l j = some a) ∨ (l.length ≤ j ∧ mj_nth t (j - l.length) = some a) := by
  rw [mj_nth_eq] at h
  rcases Nat.lt_or_ge j l.length with q | q
  · left; rw [List.getElem?_append_left q] at h; exact ⟨q, by rw [mj_nth_eq]; exact h⟩
  · right; rw [List.getElem?_append_right q] at h; exact ⟨q, by rw [mj_nth_eq]; exact h⟩
theorem mj_hp.push {D : mj_D} {h : mj_H} {H H1 : Heap} {n : Nat} {t : List va_E} (hh : mj_hp D h H) (hz : H1.size = H.size + t.length) (ho : ∀ q, q < H.size → H1[q]? = H[q]?) (ha : ∀ j e, mj_nth t j = some e → mj_gb e = false → va_at (mj_G D) vwCl (mj_b D + (h.1.length + j), mj_ca D e) H1) : mj_hp D (h.1 ++ t, n) H1 := by
  obtain ⟨h1, h2, h3⟩ := hh
  refine ⟨by rw [hz, h1]; simp; omega, fun q hq => by rw [ho q (by omega)]; exact h2 q hq, fun j e' hj hg => ?_⟩
  rcases mj_nth_app hj with ⟨q, hj'⟩ | ⟨q, hj'⟩
  · exact (h3 j e' hj' hg).kept (ho _ (by show mj_b D + j < H.size; omega))
  · have := ha (j - h.1.length) e' hj' hg
    rwa [show h.1.length + (j - h.1.length) = j by omega] at this
/-- locals -/
def mj_pr (D : mj_D) (lv : mj_L) : List (Nat × Value) := lv.zipIdx.filterMap fun q => q.1.map fun v => (q.2, mj_cv D v)
theorem mj_pr_mem {D : mj_D} {lv : mj_L} {q : Nat × Value} : q ∈ mj_pr D lv ↔ ∃ v, lv[q.1]? = some (some v) ∧ q.2 = mj_cv D v := by
  unfold mj_pr
  rw [List.mem_filterMap]
  constructor
  · rintro ⟨⟨o, i⟩, hm, ho⟩
    cases o with
    | none => cases ho
    | some v =>
      cases ho
      exact ⟨v, List.mem_zipIdx_iff_getElem?.mp hm, rfl⟩
  · rintro ⟨v, h1, h2⟩
    exact ⟨(some v, q.1), List.mem_zipIdx_iff_getElem?.mpr h1, by simp [← h2]⟩
theorem mj_rd {D : mj_D} {ls : Array Slot} {nL : Nat} {lv : mj_L} {i : Nat} {v : Value} (h : lv_has ls nL (mj_pr D lv)) (hv : mj_ld lv i = some v) : ls[i]? = some (.val (mj_cv D v)) := by
  unfold mj_ld at hv
  rw [mj_nth_eq] at hv
  cases hi : lv[i]? with
  | none => rw [hi] at hv; cases hv
  | some o =>
    rw [hi] at hv
    cases o with
    | none => cases hv
    | some w => cases hv; exact h.2.2 (i, mj_cv D _) (mj_pr_mem.mpr ⟨_, hi, rfl⟩)
theorem mj_kl_get {lv : mj_L} {i j : Nat} {w : Value} (h : (mj_kl lv i)[j]? = some (some w)) : lv[j]? = some (some w) ∧ ¬ (j + 1 = i ∧ w.category = 2) := by
  unfold mj_kl at h
  cases i with
  | zero => exact ⟨h, by omega⟩
  | succ k =>
    dsimp only at h
    rw [mj_nth_eq] at h
    have gone : ∀ x : Value, lv[k]? = some (some x) → (lv.set k none)[j]? = some (some w) → lv[j]? = some (some w) ∧ ¬ (j + 1 = k + 1 ∧ w.category = 2) := by
      intro x hx h
      by_cases hj : k = j
      · subst hj
        rw [List.getElem?_set_self (List.getElem?_eq_some_iff.mp hx).1] at h
        cases h
      · rw [List.getElem?_set_ne hj] at h
        exact ⟨h, by omega⟩
    split at h
    · rename_i x hx; exact gone _ hx h
    · rename_i x hx; exact gone _ hx h
    · rename_i h1 h2
      refine ⟨h, fun ⟨e1, e2⟩ => ?_⟩
      have e3 : j = k := by omega
      subst e3
      cases w <;> simp [Value.category] at e2
      · exact h1 _ h
      · exact h2 _ h
theorem mj_st1 {D : mj_D} {ls' : Array Slot} {nL : Nat} {lv : mj_L} {i : Nat} {v : Value} (h : lv_has ls' nL ((i, mj_cv D v) :: (mj_pr D lv).filter (fun q => !(q.1 == i) && !(q.1 + 1 == i && q.2.category == 2)))) : lv_has ls' nL (mj_pr D (mj_s1 lv i v)) := by
  refine ⟨h.1, h.2.1, fun q hq => ?_⟩
  obtain ⟨w, h1, h2⟩ := mj_pr_mem.mp hq
  refine h.2.2 q ?_
  unfold mj_s1 at h1
  by_cases hi : i = q.1
  · subst hi
    have hlt : q.1 < ((mj_kl lv q.1).set q.1 (some v)).length := (List.getElem?_eq_some_iff.mp h1).1
    rw [List.getElem?_set_self (by simpa using hlt)] at h1
    cases h1
    exact List.mem_cons.mpr (Or.inl (Prod.ext rfl h2))
  · rw [List.getElem?_set_ne hi] at h1
    obtain ⟨g1, g2⟩ := mj_kl_get h1
    refine List.mem_cons.mpr (Or.inr (List.mem_filter.mpr ⟨mj_pr_mem.mpr ⟨w, g1, h2⟩, ?_⟩))
    rw [h2, mj_cat]
    have : ¬ q.1 = i := fun e => hi e.symm
    simp [this]
    exact Decidable.not_and_iff_or_not.mp g2
theorem mj_st2 {D : mj_D} {ls' : Array Slot} {nL : Nat} {lv : mj_L} {i : Nat} {v : Value} (h : lv_has ls' nL ((i, mj_cv D v) :: (mj_pr D lv).filter (fun q => !(q.1 == i) && (!(q.1 == i + 1) && !(q.1 + 1 == i && q.2.category == 2))))) : lv_has ls' nL (mj_pr D (mj_s2 lv i v)) := by
  refine ⟨h.1, h.2.1, fun q hq => ?_⟩
  obtain ⟨w, h1, h2⟩ := mj_pr_mem.mp hq
  refine h.2.2 q ?_
  unfold mj_s2 at h1
  by_cases hs : i + 1 = q.1
  · have hlt : q.1 < (((mj_kl lv i).set i (some v)).set (i + 1) none).length := (List.getElem?_eq_some_iff.mp h1).1
    rw [← hs] at h1 hlt
    rw [List.getElem?_set_self (by simpa using hlt)] at h1
    cases h1
  · rw [List.getElem?_set_ne hs] at h1
    by_cases hi : i = q.1
    · subst hi
      have hlt : q.1 < ((mj_kl lv q.1).set q.1 (some v)).length := (List.getElem?_eq_some_iff.mp h1).1
      rw [List.getElem?_set_self (by simpa using hlt)] at h1
      cases h1
      exact List.mem_cons.mpr (Or.inl (Prod.ext rfl h2))
    · rw [List.getElem?_set_ne hi] at h1
      obtain ⟨g1, g2⟩ := mj_kl_get h1
      refine List.mem_cons.mpr (Or.inr (List.mem_filter.mpr ⟨mj_pr_mem.mpr ⟨w, g1, h2⟩, ?_⟩))
      rw [h2, mj_cat]
      have e1 : ¬ q.1 = i := fun e => hi e.symm
      have e2 : ¬ q.1 = i + 1 := fun e => hs e.symm
      simp [e1, e2]
      exact Decidable.not_and_iff_or_not.mp g2
theorem mj_el_sl (D : mj_D) : ∀ as : List Value, (lg_sl (as.map (mj_cv D))).length = (mj_el as).length ∧ ∀ (i : Nat) (v : Value), (mj_el as)[i]? = some (some v) → (lg_sl (as.map (mj_cv D)))[i]? = some (.val (mj_cv D v))
  | [] => ⟨rfl, fun i v h => by simp [mj_el] at h⟩
  | w :: t => by
    obtain ⟨h1, h2⟩ := mj_el_sl D t
    have two : ∀ w : Value, w.category = 2 → mj_el (w :: t) = some w :: none :: mj_el t → (lg_sl ((w :: t).map (mj_cv D))).length = (mj_el (w :: t)).length ∧ ∀ (i : Nat) (v : Value), (mj_el (w :: t))[i]? = some (some v) → (lg_sl ((w :: t).map (mj_cv D)))[i]? = some (.val (mj_cv D v)) := by
      intro w hc he
      have e : lg_sl ((w :: t).map (mj_cv D)) = .val (mj_cv D w) :: .second :: lg_sl (t.map (mj_cv D)) := by simp [lg_sl, mj_cat, hc]
      rw [e, he]
      refine ⟨by simp [h1], fun i v h => ?_⟩
      match i, h with
      | 0, h => simp at h; simp [h]
      | 1, h => simp at h
      | i + 2, h => simp at h ⊢; exact h2 i v h
    have one : ∀ w : Value, w.category = 1 → mj_el (w :: t) = some w :: mj_el t → (lg_sl ((w :: t).map (mj_cv D))).length = (mj_el (w :: t)).length ∧ ∀ (i : Nat) (v : Value), (mj_el (w :: t))[i]? = some (some v) → (lg_sl ((w :: t).map (mj_cv D)))[i]? = some (.val (mj_cv D v)) := by
      intro w hc he
      have e : lg_sl ((w :: t).map (mj_cv D)) = .val (mj_cv D w) :: lg_sl (t.map (mj_cv D)) := by simp [lg_sl, mj_cat, hc]
      rw [e, he]
      refine ⟨by simp [h1], fun i v h => ?_⟩
      match i, h with
      | 0, h => simp at h; simp [h]
      | i + 1, h => simp at h ⊢; exact h2 i v h
    cases w with
    | long x => exact two _ rfl rfl
    | double x => exact two _ rfl rfl
    | _ => exact one _ rfl rfl
/-- at the entry -/
theorem mj_entry {D : mj_D} (as : List Value) {n : Nat} (hn : (mj_el as).length ≤ n) : lv_has ((lg_sl (as.map (mj_cv D)) ++ List.replicate (n - (lg_sl (as.map (mj_cv D))).length) Slot.unset).toArray) n (mj_pr D (mj_e0 n as)) := by
  obtain ⟨h1, h2⟩ := mj_el_sl D as
  have h := lv_entry (as.map (mj_cv D)) (n := n) (by omega)
  refine ⟨h.1, h.2.1, fun q hq => ?_⟩
  obtain ⟨v, g1, g2⟩ := mj_pr_mem.mp hq
  have g3 : (mj_el as)[q.1]? = some (some v) := by
    unfold mj_e0 at g1
    rcases Nat.lt_or_ge q.1 (mj_el as).length with z | z
    · rwa [List.getElem?_append_left z] at g1
    · rw [List.getElem?_append_right z, List.getElem?_replicate] at g1
      split at g1 <;> simp at g1
  have g4 := h2 _ _ g3
  have hlt : q.1 < (lg_sl (as.map (mj_cv D))).length := (List.getElem?_eq_some_iff.mp g4).1
  rw [g2, List.getElem?_toArray, List.getElem?_append_left hlt]
  exact g4
