/-! walking the small machine: views of the heap, rules a line -/
/-- cells that are known, by place -/
abbrev mj_W : Type := List (Nat × va_E)
abbrev mj_ks (w : mj_W) : List Nat := w.map Prod.fst
def mj_vw (w : mj_W) (h : mj_H) : Prop := ((mj_ks w).Nodup ∧ h.1.length ≤ mj_SB) ∧ ∀ (j a : Nat) (e : va_E), mj_nth w j = some (a, e) → mj_nth h.1 a = some e
def mj_eq (ks : List Nat) (h0 h : mj_H) : Prop := h.1.length = h0.1.length ∧ h.2 = h0.2 ∧ ∀ j : Nat, j ∉ ks → mj_nth h.1 j = mj_nth h0.1 j
/-- the view now, and what is behind it is as at the start -/
def mj_Vw (h0 : mj_H) (w : mj_W) (h : mj_H) : Prop := mj_vw w h ∧ mj_eq (mj_ks w) h0 h
theorem mj_eq.rf {ks : List Nat} {h : mj_H} : mj_eq ks h h := ⟨rfl, rfl, fun _ _ => rfl⟩
theorem mj_vw.V {w : mj_W} {h : mj_H} (hv : mj_vw w h) : mj_Vw h w h := ⟨hv, mj_eq.rf⟩
theorem mj_ks_at {w : mj_W} {j a : Nat} {e : va_E} (hj : mj_nth w j = some (a, e)) : mj_nth (mj_ks w) j = some a := by
  rw [mj_nth_map, hj]; rfl
theorem mj_ks_in {w : mj_W} {j a : Nat} {e : va_E} (hj : mj_nth w j = some (a, e)) : a ∈ mj_ks w := mj_nth_mem (mj_ks_at hj)
theorem mj_nodup {l : List Nat} (hl : l.Nodup) {i j a : Nat} (hi : mj_nth l i = some a) (hj : mj_nth l j = some a) : i = j := by
  rw [mj_nth_eq] at hi hj
  exact (List.getElem?_inj (List.getElem?_eq_some_iff.mp hi).1 hl).mp (hi.trans hj.symm)
theorem mj_ks_set {w : mj_W} {j a : Nat} {e e' : va_E} (hj : mj_nth w j = some (a, e)) : mj_ks (w.set j (a, e')) = mj_ks w := by
  have h1 := mj_ks_at hj
  rw [mj_nth_eq] at h1
  show (w.set j (a, e')).map Prod.fst = w.map Prod.fst
  rw [List.map_set]
  apply List.ext_getElem?
  intro i
  by_cases hi : j = i
  · subst hi
    rw [List.getElem?_set_self (List.getElem?_eq_some_iff.mp h1).1, h1]
  · rw [List.getElem?_set_ne hi]
/-- a cell is written -/
theorem mj_Vw.set {h0 h : mj_H} {w : mj_W} {j a : Nat} {e e' : va_E} (hv : mj_Vw h0 w h) (hj : mj_nth w j = some (a, e)) : mj_Vw h0 (w.set j (a, e')) (h.1.set a e', h.2) := by
  obtain ⟨⟨h1, h2⟩, h3, h4, h5⟩ := hv
  have hk := mj_ks_set (e' := e') hj
  refine ⟨⟨⟨by rw [hk]; exact h1.1, by simpa using h1.2⟩, fun i b f hi => ?_⟩, ?_⟩
  rotate_left
  · rw [hk]
    refine ⟨by simpa using h3, h4, fun i hi => ?_⟩
    have hne : i ≠ a := fun q => hi (by rw [q]; exact mj_ks_in hj)
    show mj_nth (h.1.set a e') i = _
    rw [mj_nth_ne hne]
    exact h5 i hi
  · by_cases hij : i = j
    · subst hij
      have := (mj_nth_set (b := (a, e')) hj).symm.trans hi
      cases this
      exact mj_nth_set (h2 i a e hj)
    · rw [mj_nth_ne hij] at hi
      have hne : b ≠ a := fun q => hij (mj_nodup h1.1 (mj_ks_at hi) (by rw [q]; exact mj_ks_at hj))
      rw [mj_nth_ne hne]
      exact h2 i b f hi
/-- a contract: from a view to an answer and a view -/
def mj_Sx (sta : mj_S) (d mid : Nat) (as : List Value) (w : mj_W) (Post : Option Value → mj_W → Prop) : Prop :=
  ∀ h, mj_vw w h → ∃ v w' h', Post v w' ∧ mj_ks w' = mj_ks w ∧ mj_Vw h w' h' ∧ mj_Cl sta d mid as h v h'
/-- at a return -/
def mj_rx (M : mj_M) (h0 : mj_H) (ks : List Nat) (Post : Option Value → mj_W → Prop) (pc : Nat) (lv : mj_L) (st : List Value) (h : mj_H) : Prop :=
  ∃ v w, Post v w ∧ mj_ks w = ks ∧ mj_Vw h0 w h ∧ mj_ret M v h pc lv st h
theorem mj_Sx.mk {sta : mj_S} {d mid : Nat} {as : List Value} {w : mj_W} {Post : Option Value → mj_W → Prop} (M : mj_M) (h4 : 4 ≤ mid) (hM : mj_nth mj_ms mid = some M) (hl : Nat.ble (mj_el as).length (mj_mx M) = true)
    (hg : ∀ h, mj_Vw h w h → mj_go sta (mj_Cl sta d) M (mj_rx M h (mj_ks w) Post) 0 (mj_e0 (mj_mx M) as) [] h) : mj_Sx sta (d + 1) mid as w Post := by
  intro h0 hv
  have key : ∃ v w' h', Post v w' ∧ mj_ks w' = mj_ks w ∧ mj_Vw h0 w' h' ∧ mj_go sta (mj_Cl sta d) M (mj_ret M v h') 0 (mj_e0 (mj_mx M) as) [] h0 := by
    refine hg h0 hv.V (fun pc lv st h => ∃ v w' h', Post v w' ∧ mj_ks w' = mj_ks w ∧ mj_Vw h0 w' h' ∧ mj_go sta (mj_Cl sta d) M (mj_ret M v h') pc lv st h) ?_ ?_ ?_
    · rintro pc lv st h ⟨v, w', h1, h2, h3, h5⟩
      exact ⟨v, w', h, h1, h2, h3, mj_go.here h5⟩
    · rintro pc lv st h e pc' lv' st' h' he hn ⟨v, w', h'', h1, h2, h3, h5⟩
      exact ⟨v, w', h'', h1, h2, h3, mj_go.nx he hn h5⟩
    · rintro pc lv st h e c v h' he hc hl hr hs hC ⟨v', w', h'', h1, h2, h3, h5⟩
      exact ⟨v', w', h'', h1, h2, h3, mj_go.call he hc hl hr hs hC h5⟩
  obtain ⟨v, w', h', h1, h2, h3, h5⟩ := key
  exact ⟨v, w', h', h1, h2, h3, Or.inr ⟨M, h4, hM, Nat.le_of_ble_eq_true hl, h5⟩⟩
/-- a part of a view, by places; and put back -/
def mj_pk (w : mj_W) : List Nat → mj_W
  | [] => []
  | j :: t => match mj_nth w j with
    | some x => x :: mj_pk w t
    | none => mj_pk w t
def mj_fd : List Nat → mj_W → Nat → Option (Nat × va_E)
  | [], _, _ => none
  | _ :: _, [], _ => none
  | j :: t, x :: v, i => bif Nat.beq j i then some x else mj_fd t v i
def mj_pbx (is : List Nat) (v : mj_W) : Nat → mj_W → mj_W
  | _, [] => []
  | i, x :: w => (match mj_fd is v i with
    | some y => y
    | none => x) :: mj_pbx is v (i + 1) w
abbrev mj_pb (w : mj_W) (is : List Nat) (v : mj_W) : mj_W := mj_pbx is v 0 w
theorem mj_pk_le (w : mj_W) : ∀ is : List Nat, (mj_pk w is).length ≤ is.length
  | [] => Nat.le_refl _
  | j :: t => by
    have := mj_pk_le w t
    unfold mj_pk
    split <;> simp <;> omega
theorem mj_pk_at {w : mj_W} : ∀ {is : List Nat}, (mj_pk w is).length = is.length → ∀ {t j : Nat}, mj_nth is t = some j → ∃ x, mj_nth w j = some x ∧ mj_nth (mj_pk w is) t = some x
  | [], _, _, _, h => by simp [mj_nth] at h
  | i :: s, hl, t, j, h => by
    unfold mj_pk at hl ⊢
    split at hl
    · rename_i x hx
      match t, h with
      | 0, h => cases h; exact ⟨x, hx, rfl⟩
      | t + 1, h => exact mj_pk_at (is := s) (by simpa using hl) h
    · have := mj_pk_le w s
      simp at hl; omega
theorem mj_fd_some : ∀ {is : List Nat} {v : mj_W} {i : Nat} {x : Nat × va_E}, mj_fd is v i = some x → ∃ t, mj_nth is t = some i ∧ mj_nth v t = some x
  | [], _, _, _, h => by simp [mj_fd] at h
  | _ :: _, [], _, _, h => by simp [mj_fd] at h
  | j :: t, y :: v, i, x, h => by
    rw [mj_fd] at h
    cases hb : Nat.beq j i with
    | true =>
      rw [hb] at h
      cases h
      exact ⟨0, by rw [Nat.eq_of_beq_eq_true hb]; rfl, rfl⟩
    | false =>
      rw [hb] at h
      obtain ⟨s, h1, h2⟩ := mj_fd_some (is := t) (v := v) h
      exact ⟨s + 1, h1, h2⟩
theorem mj_fd_none : ∀ {is : List Nat} {v : mj_W} {i : Nat}, mj_fd is v i = none → ∀ t, t < v.length → mj_nth is t ≠ some i
  | [], _, _, _, t, _ => by simp [mj_nth]
  | _ :: _, [], _, _, t, ht => by simp at ht
  | j :: s, y :: v, i, h, t, ht => by
    rw [mj_fd] at h
    cases hb : Nat.beq j i with
    | true => rw [hb] at h; cases h
    | false =>
      rw [hb] at h
      match t with
      | 0 =>
        intro q
        have : j = i := Option.some.inj q
        subst this
        rw [Nat.beq_refl] at hb
        cases hb
      | t + 1 => exact mj_fd_none (is := s) (v := v) h t (by simpa using ht)
theorem mj_pbx_nth {is : List Nat} {v : mj_W} : ∀ {w : mj_W} {s i : Nat}, mj_nth (mj_pbx is v s w) i = (mj_nth w i).map fun x => match mj_fd is v (s + i) with
    | some y => y
    | none => x
  | [], s, i => by simp [mj_pbx, mj_nth]
  | x :: w, s, 0 => rfl
  | x :: w, s, i + 1 => by
    show mj_nth (mj_pbx is v (s + 1) w) i = _
    rw [mj_pbx_nth, show s + 1 + i = s + (i + 1) by omega]
    rfl
theorem mj_pb_at {is : List Nat} {v : mj_W} {w : mj_W} (_ : is.Nodup) {i : Nat} {x : Nat × va_E} (h : mj_nth (mj_pb w is v) i = some x) : (∃ t, mj_nth is t = some i ∧ mj_nth v t = some x) ∨ (mj_nth w i = some x ∧ ∀ t, t < v.length → mj_nth is t ≠ some i) := by
  unfold mj_pb at h
  rw [mj_pbx_nth, Nat.zero_add] at h
  cases hw : mj_nth w i with
  | none => rw [hw] at h; cases h
  | some y =>
    rw [hw] at h
    cases hf : mj_fd is v i with
    | some z =>
      rw [hf] at h
      cases h
      exact Or.inl (mj_fd_some hf)
    | none =>
      rw [hf] at h
      cases h
      exact Or.inr ⟨rfl, mj_fd_none hf⟩
theorem mj_pb_ks {is : List Nat} {v : mj_W} {w : mj_W} (h : ∀ t j, mj_nth is t = some j → ∀ x, mj_nth v t = some x → ∃ e, mj_nth w j = some (x.1, e)) : mj_ks (mj_pb w is v) = mj_ks w := by
  apply List.ext_getElem?
  intro i
  rw [← mj_nth_eq, ← mj_nth_eq, mj_nth_map, mj_nth_map]
  unfold mj_pb
  rw [mj_pbx_nth, Nat.zero_add]
  cases hw : mj_nth w i with
  | none => rfl
  | some y =>
    cases hf : mj_fd is v i with
    | none => simp
    | some z =>
      obtain ⟨t, h1, h2⟩ := mj_fd_some hf
      obtain ⟨e, he⟩ := h t i h1 z h2
      rw [hw] at he
      cases he
      simp
/-- behind a call: the callee's cells as it left them, the rest as it was -/
theorem mj_Vw.call {h0 h h' : mj_H} {w wc' : mj_W} {is : List Nat} (hv : mj_Vw h0 w h) (hl : (mj_pk w is).length = is.length) (hn : is.Nodup) (hk : mj_ks wc' = mj_ks (mj_pk w is)) (hc : mj_Vw h wc' h') : mj_Vw h0 (mj_pb w is wc') h' := by
  obtain ⟨⟨h1, h2⟩, h3, h4, h5⟩ := hv
  obtain ⟨⟨c1, c2⟩, c3, c4, c5⟩ := hc
  have hlen : wc'.length = is.length := by
    have := congrArg List.length hk
    simp at this
    rw [this, hl]
  have at' : ∀ t j, mj_nth is t = some j → ∀ x, mj_nth wc' t = some x → ∃ e, mj_nth w j = some (x.1, e) := by
    intro t j ht x hx
    obtain ⟨y, hy, hy2⟩ := mj_pk_at hl ht
    have e1 : mj_nth (mj_ks wc') t = some x.1 := mj_ks_at (e := x.2) hx
    have e2 : mj_nth (mj_ks (mj_pk w is)) t = some y.1 := mj_ks_at (e := y.2) hy2
    rw [hk, e2] at e1
    exact ⟨y.2, by rw [hy, ← Option.some.inj e1]⟩
  have hks := mj_pb_ks at'
  refine ⟨⟨⟨by rw [hks]; exact h1.1, c1.2⟩, fun i a e hi => ?_⟩, ?_⟩
  rotate_left
  · rw [hks]
    refine ⟨c3.trans h3, c4.trans h4, ?_⟩
    intro i hi
    have hout : i ∉ mj_ks wc' := by
      intro hm
      obtain ⟨t, ht⟩ := List.getElem?_of_mem hm
      have htl : t < wc'.length := by have := (List.getElem?_eq_some_iff.mp ht).1; simpa using this
      have htl2 : t < is.length := by omega
      have h7 : mj_nth is t = some is[t] := by rw [mj_nth_eq]; exact List.getElem?_eq_getElem htl2
      have h8 : mj_nth wc' t = some wc'[t] := by rw [mj_nth_eq]; exact List.getElem?_eq_getElem htl
      obtain ⟨e9, h9⟩ := at' t _ h7 _ h8
      have hka : mj_nth (mj_ks wc') t = some i := by rw [mj_nth_eq]; exact ht
      have e1 : mj_nth (mj_ks wc') t = some (wc'[t]).1 := mj_ks_at (e := (wc'[t]).2) h8
      have e2 : (wc'[t]).1 = i := Option.some.inj (e1.symm.trans hka)
      rw [e2] at h9
      exact hi (mj_ks_in h9)
    rw [c5 i hout]
    exact h5 i hi
  · rcases mj_pb_at hn hi with ⟨t, q1, q2⟩ | ⟨q1, q2⟩
    · exact c2 t a e q2
    · have hout : a ∉ mj_ks wc' := by
        intro hm
        obtain ⟨t, ht⟩ := List.getElem?_of_mem hm
        have htl : t < wc'.length := by have := (List.getElem?_eq_some_iff.mp ht).1; simpa using this
        have htl2 : t < is.length := by omega
        have h7 : mj_nth is t = some is[t] := by rw [mj_nth_eq]; exact List.getElem?_eq_getElem htl2
        have h8 : mj_nth wc' t = some wc'[t] := by rw [mj_nth_eq]; exact List.getElem?_eq_getElem htl
        obtain ⟨e9, h9⟩ := at' t _ h7 _ h8
        have hka : mj_nth (mj_ks wc') t = some a := by rw [mj_nth_eq]; exact ht
        have e1 : mj_nth (mj_ks wc') t = some (wc'[t]).1 := mj_ks_at (e := (wc'[t]).2) h8
        have e2 : (wc'[t]).1 = a := Option.some.inj (e1.symm.trans hka)
        rw [e2] at h9
        have := mj_nodup h1.1 (mj_ks_at h9) (mj_ks_at q1)
        exact q2 t htl (by rw [h7, this])
      rw [c5 a hout]
      exact h2 i a e q1
theorem mj_Vw.pick {h0 h : mj_H} {w : mj_W} {is : List Nat} (hv : mj_Vw h0 w h) (hl : (mj_pk w is).length = is.length) (hn : is.Nodup) : mj_vw (mj_pk w is) h := by
  obtain ⟨⟨h1, h2⟩, -⟩ := hv
  have at' : ∀ t x, mj_nth (mj_pk w is) t = some x → ∃ j, mj_nth is t = some j ∧ mj_nth w j = some x := by
    intro t x hx
    have htl : t < is.length := by have := mj_nth_lt hx; omega
    have h7 : mj_nth is t = some is[t] := by rw [mj_nth_eq]; exact List.getElem?_eq_getElem htl
    obtain ⟨y, hy, hy2⟩ := mj_pk_at hl h7
    cases hx.symm.trans hy2
    exact ⟨_, h7, hy⟩
  refine ⟨⟨?_, h1.2⟩, fun t a e ht => ?_⟩
  · refine List.pairwise_iff_getElem.mpr fun i j hi hj hij he => ?_
    have hj' : j < (mj_pk w is).length := by simpa using hj
    have hi' : i < (mj_pk w is).length := by omega
    have q1 : mj_nth (mj_pk w is) i = some (mj_pk w is)[i] := by rw [mj_nth_eq]; exact List.getElem?_eq_getElem hi'
    have q2 : mj_nth (mj_pk w is) j = some (mj_pk w is)[j] := by rw [mj_nth_eq]; exact List.getElem?_eq_getElem hj'
    obtain ⟨i1, a1, b1⟩ := at' _ _ q1
    obtain ⟨j1, a2, b2⟩ := at' _ _ q2
    have he : ((mj_pk w is)[i]).1 = ((mj_pk w is)[j]).1 := by simpa using he
    have z1 : mj_nth (mj_ks w) i1 = some ((mj_pk w is)[i]).1 := mj_ks_at (e := ((mj_pk w is)[i]).2) b1
    have z2 : mj_nth (mj_ks w) j1 = some ((mj_pk w is)[j]).1 := mj_ks_at (e := ((mj_pk w is)[j]).2) b2
    have e3 := mj_nodup h1.1 z1 (z2.trans (congrArg some he.symm))
    rw [e3] at a1
    have := mj_nodup hn a1 a2
    omega
  · obtain ⟨j, q1, q2⟩ := at' t _ ht
    exact h2 j a e q2
section MJG
variable {sta : mj_S} {Cl : mj_R} {M : mj_M} {T : Nat → mj_L → List Value → mj_H → Prop} {pc pc' : Nat} {lv lv' : mj_L} {st st' r : List Value} {h0 h h' : mj_H} {e : mj_I} {w : mj_W}
theorem mj_ent_pc {E : List (List mj_I)} (he : mj_ent E pc = some e) : e.1 = pc := by
  unfold mj_ent at he
  cases hr : mj_nth E (pc / 32) with
  | none => rw [hr] at he; cases he
  | some r => rw [hr] at he; exact (mj_find_spec he).2
/-- instructions that look at no heap -/
theorem g_nx (he : mj_ent (mj_cd M) pc = some e) (hn : mj_nx sta e.2.1 e.2.2.1 e.1 lv st h = some (pc', lv', st', h')) (k : mj_go sta Cl M T pc' lv' st' h') : mj_go sta Cl M T pc lv st h := by
  rw [mj_ent_pc he] at hn
  exact mj_go.nx he hn k
def mj_pl (i : Instr) : Bool := match i with
  | .ifCond _ _ => false
  | .if_icmp _ _ => false
  | .tableswitch _ _ _ _ => false
  | _ => true
theorem g_px (he : mj_ent (mj_cd M) pc = some e) (hp : mj_pl e.2.1 = true) (hn : mj_nx sta e.2.1 e.2.2.1 e.1 lv st h = some (pc', lv', st', h')) (k : mj_go sta Cl M T pc' lv' st' h') : mj_go sta Cl M T pc lv st h := g_nx he hn k
def mj_run (sta : mj_S) (E : List (List mj_I)) : Nat → Nat → mj_L → List Value → mj_H → Option mj_C
  | 0, pc, lv, st, h => some (pc, lv, st, h)
  | n + 1, pc, lv, st, h => match mj_ent E pc with
    | some e => match mj_nx sta e.2.1 e.2.2.1 e.1 lv st h with
      | some (pc', lv', st', h') => mj_run sta E n pc' lv' st' h'
      | none => none
    | none => none
theorem g_run : ∀ (n : Nat) {pc : Nat} {lv : mj_L} {st : List Value} {h : mj_H}, mj_run sta (mj_cd M) n pc lv st h = some (pc', lv', st', h') → mj_go sta Cl M T pc' lv' st' h' → mj_go sta Cl M T pc lv st h
  | 0, pc, lv, st, h, hr, k => by cases hr; exact k
  | n + 1, pc, lv, st, h, hr, k => by
    unfold mj_run at hr
    cases he : mj_ent (mj_cd M) pc with
    | none => rw [he] at hr; cases hr
    | some e =>
      rw [he] at hr
      dsimp only at hr
      cases hn : mj_nx sta e.2.1 e.2.2.1 e.1 lv st h with
      | none => rw [hn] at hr; cases hr
      | some q =>
        rw [hn] at hr
        exact g_nx he hn (g_run n hr k)
/-- a field -/
theorem g_get {q c len wp a ci : Nat} {raw : Instr} {fs : List Value} {v : Value} (hv : mj_Vw h0 w h) (j : Nat) (he : mj_ent (mj_cd M) pc = some (q, .getfield c, len, raw, wp)) (hj : mj_nth w j = some (a, .inr (ci, fs))) (hci : Nat.beq ci (c / 64) = true) (hf : mj_nth fs (c % 64) = some v) (k : mj_go sta Cl M T (q + len) lv (v :: r) h) : mj_go sta Cl M T pc lv (.ref a :: r) h := by
  refine g_nx he ?_ k
  simp only [mj_nx, hv.1.2 j a _ hj, hci, cond_true, hf]
theorem g_put {q c len wp a ci : Nat} {raw : Instr} {fs : List Value} {v : Value} (hv : mj_Vw h0 w h) (j : Nat) (he : mj_ent (mj_cd M) pc = some (q, .putfield c, len, raw, wp)) (hj : mj_nth w j = some (a, .inr (ci, fs))) (hci : Nat.beq ci (c / 64) = true) (hf : Nat.ble (c % 64 + 1) fs.length = true) (hn1 : narrow (mj_ty c) v = v) (hn2 : fits (mj_ty c) v = true)
    (k : ∀ h, mj_Vw h0 (w.set j (a, .inr (ci, fs.set (c % 64) v))) h → mj_go sta Cl M T (q + len) lv r h) : mj_go sta Cl M T pc lv (v :: .ref a :: r) h := by
  refine g_nx he ?_ (k _ (hv.set hj))
  simp only [mj_nx, hv.1.2 j a _ hj, hci, cond_true]
  rw [if_pos ⟨Nat.le_of_ble_eq_true hf, hn1, hn2⟩]
theorem g_iald {q len wp a n : Nat} {raw : Instr} {f : Nat → Int32} {i : Int32} (hv : mj_Vw h0 w h) (j : Nat) (he : mj_ent (mj_cd M) pc = some (q, .iaload, len, raw, wp)) (hj : mj_nth w j = some (a, .inl (0, n, .inl f))) (hin : vp_in i n) (k : mj_go sta Cl M T (q + len) lv (.int (f i.toNatClampNeg) :: r) h) : mj_go sta Cl M T pc lv (.int i :: .ref a :: r) h := by
  refine g_nx he ?_ k
  have hin : ¬ (i < 0 ∨ n ≤ i.toNatClampNeg) := hin
  simp only [mj_nx, mj_ints, hv.1.2 j a _ hj]
  rw [if_neg hin]
theorem g_bald {q len wp a n : Nat} {raw : Instr} {f : Nat → Int32} {i : Int32} (hv : mj_Vw h0 w h) (j : Nat) (he : mj_ent (mj_cd M) pc = some (q, .baload, len, raw, wp)) (hj : mj_nth w j = some (a, .inl (2, n, .inl f))) (hin : vp_in i n) (k : mj_go sta Cl M T (q + len) lv (.int (f i.toNatClampNeg) :: r) h) : mj_go sta Cl M T pc lv (.int i :: .ref a :: r) h := by
  refine g_nx he ?_ k
  have hin : ¬ (i < 0 ∨ n ≤ i.toNatClampNeg) := hin
  simp only [mj_nx, hv.1.2 j a _ hj]
  rw [if_neg hin]
theorem g_lald {q len wp a n : Nat} {raw : Instr} {f : Nat → Int64} {i : Int32} (hv : mj_Vw h0 w h) (j : Nat) (he : mj_ent (mj_cd M) pc = some (q, .laload, len, raw, wp)) (hj : mj_nth w j = some (a, .inl (1, n, .inr (.inl f)))) (hin : vp_in i n) (k : mj_go sta Cl M T (q + len) lv (.long (f i.toNatClampNeg) :: r) h) : mj_go sta Cl M T pc lv (.int i :: .ref a :: r) h := by
  refine g_nx he ?_ k
  have hin : ¬ (i < 0 ∨ n ≤ i.toNatClampNeg) := hin
  simp only [mj_nx, hv.1.2 j a _ hj]
  rw [if_neg hin]
theorem g_aald {q len wp a n : Nat} {raw : Instr} {f : Nat → Option Nat} {i : Int32} (hv : mj_Vw h0 w h) (j : Nat) (he : mj_ent (mj_cd M) pc = some (q, .aaload, len, raw, wp)) (hj : mj_nth w j = some (a, .inl (3, n, .inr (.inr (.inr (.inr f)))))) (hin : vp_in i n) (k : mj_go sta Cl M T (q + len) lv (va_rf (f i.toNatClampNeg) :: r) h) : mj_go sta Cl M T pc lv (.int i :: .ref a :: r) h := by
  refine g_nx he ?_ k
  have hin : ¬ (i < 0 ∨ n ≤ i.toNatClampNeg) := hin
  simp only [mj_nx, hv.1.2 j a _ hj]
  rw [if_neg hin]
theorem g_aald4 {q len wp a n : Nat} {raw : Instr} {f : Nat → Option Nat} {i : Int32} (hv : mj_Vw h0 w h) (j : Nat) (he : mj_ent (mj_cd M) pc = some (q, .aaload, len, raw, wp)) (hj : mj_nth w j = some (a, .inl (4, n, .inr (.inr (.inr (.inr f)))))) (hin : vp_in i n) (k : mj_go sta Cl M T (q + len) lv (va_rf (f i.toNatClampNeg) :: r) h) : mj_go sta Cl M T pc lv (.int i :: .ref a :: r) h := by
  refine g_nx he ?_ k
  have hin : ¬ (i < 0 ∨ n ≤ i.toNatClampNeg) := hin
  simp only [mj_nx, hv.1.2 j a _ hj]
  rw [if_neg hin]
theorem g_iast {q len wp a n : Nat} {raw : Instr} {f : Nat → Int32} {i x : Int32} (hv : mj_Vw h0 w h) (j : Nat) (he : mj_ent (mj_cd M) pc = some (q, .iastore, len, raw, wp)) (hj : mj_nth w j = some (a, .inl (0, n, .inl f))) (hin : vp_in i n) (k : ∀ h, mj_Vw h0 (w.set j (a, .inl (0, n, .inl (upd f i.toNatClampNeg x)))) h → mj_go sta Cl M T (q + len) lv r h) : mj_go sta Cl M T pc lv (.int x :: .int i :: .ref a :: r) h := by
  refine g_nx he ?_ (k _ (hv.set hj))
  have hin : ¬ (i < 0 ∨ n ≤ i.toNatClampNeg) := hin
  simp only [mj_nx, hv.1.2 j a _ hj]
  rw [if_neg hin]
theorem g_bast {q len wp a n : Nat} {raw : Instr} {f : Nat → Int32} {i x : Int32} (hv : mj_Vw h0 w h) (j : Nat) (he : mj_ent (mj_cd M) pc = some (q, .bastore, len, raw, wp)) (hj : mj_nth w j = some (a, .inl (2, n, .inl f))) (hin : vp_in i n) (k : ∀ h, mj_Vw h0 (w.set j (a, .inl (2, n, .inl (upd f i.toNatClampNeg (vp_nar .byte x))))) h → mj_go sta Cl M T (q + len) lv r h) : mj_go sta Cl M T pc lv (.int x :: .int i :: .ref a :: r) h := by
  refine g_nx he ?_ (k _ (hv.set hj))
  have hin : ¬ (i < 0 ∨ n ≤ i.toNatClampNeg) := hin
  simp only [mj_nx, hv.1.2 j a _ hj]
  rw [if_neg hin]
theorem g_last {q len wp a n : Nat} {raw : Instr} {f : Nat → Int64} {i : Int32} {x : Int64} (hv : mj_Vw h0 w h) (j : Nat) (he : mj_ent (mj_cd M) pc = some (q, .lastore, len, raw, wp)) (hj : mj_nth w j = some (a, .inl (1, n, .inr (.inl f)))) (hin : vp_in i n) (k : ∀ h, mj_Vw h0 (w.set j (a, .inl (1, n, .inr (.inl (vp_updL f i.toNatClampNeg x))))) h → mj_go sta Cl M T (q + len) lv r h) : mj_go sta Cl M T pc lv (.long x :: .int i :: .ref a :: r) h := by
  refine g_nx he ?_ (k _ (hv.set hj))
  have hin : ¬ (i < 0 ∨ n ≤ i.toNatClampNeg) := hin
  simp only [mj_nx, hv.1.2 j a _ hj]
  rw [if_neg hin]
/-- a static row -/
theorem g_sald {q len wp a n : Nat} {raw : Instr} {f : Nat → Int32} {i : Int32} (hv : mj_Vw h0 w h) (hs : sta (mj_SB + a) = some (n, f)) (he : mj_ent (mj_cd M) pc = some (q, .iaload, len, raw, wp)) (hin : vp_in i n) (k : mj_go sta Cl M T (q + len) lv (.int (f i.toNatClampNeg) :: r) h) : mj_go sta Cl M T pc lv (.int i :: .ref (mj_SB + a) :: r) h := by
  refine g_nx he ?_ k
  have hin : ¬ (i < 0 ∨ n ≤ i.toNatClampNeg) := hin
  have hno : mj_nth h.1 (mj_SB + a) = none := by
    rw [mj_nth_eq]
    exact List.getElem?_eq_none (Nat.le_trans hv.1.1.2 (Nat.le_add_right _ _))
  simp only [mj_nx, mj_ints, hno, hs]
  rw [if_neg hin]
/-- branches -/
def mj_cp (c : ClassFile.Cond) (x y : Int32) : Prop := match c with
  | .eq => x = y | .ne => ¬ x = y | .lt => x < y | .ge => y ≤ x | .gt => y < x | .le => x ≤ y
theorem mj_cp_iff (c : ClassFile.Cond) (x y : Int32) : mj_cmp c x y = true ↔ mj_cp c x y := by
  cases c <;> simp [mj_cmp, mj_cp]
theorem g_if {q len wp : Nat} {raw : Instr} {c : ClassFile.Cond} {off : Int} {x : Int32} (he : mj_ent (mj_cd M) pc = some (q, .ifCond c off, len, raw, wp)) (kt : mj_cp c x 0 → mj_go sta Cl M T (mj_tg q off) lv r h) (kf : ¬ mj_cp c x 0 → mj_go sta Cl M T (q + len) lv r h) : mj_go sta Cl M T pc lv (.int x :: r) h := by
  cases hc : mj_cmp c x 0 with
  | true => exact g_nx he (by simp only [mj_nx, hc, cond_true]) (kt ((mj_cp_iff c x 0).mp hc))
  | false => exact g_nx he (by simp only [mj_nx, hc, cond_false]) (kf (fun z => by rw [(mj_cp_iff c x 0).mpr z] at hc; cases hc))
theorem g_ic {q len wp : Nat} {raw : Instr} {c : ClassFile.Cond} {off : Int} {x y : Int32} (he : mj_ent (mj_cd M) pc = some (q, .if_icmp c off, len, raw, wp)) (kt : mj_cp c x y → mj_go sta Cl M T (mj_tg q off) lv r h) (kf : ¬ mj_cp c x y → mj_go sta Cl M T (q + len) lv r h) : mj_go sta Cl M T pc lv (.int y :: .int x :: r) h := by
  cases hc : mj_cmp c x y with
  | true => exact g_nx he (by simp only [mj_nx, hc, cond_true]) (kt ((mj_cp_iff c x y).mp hc))
  | false => exact g_nx he (by simp only [mj_nx, hc, cond_false]) (kf (fun z => by rw [(mj_cp_iff c x y).mpr z] at hc; cases hc))
variable {ks : List Nat} {Post : Option Value → mj_W → Prop}
theorem g_vret {q len wp : Nat} {raw : Instr} (hv : mj_Vw h0 w h) (he : mj_ent (mj_cd M) pc = some (q, .return_, len, raw, wp)) (hrt : mj_rt M = none) (hk : mj_ks w = ks) (hp : Post none w) : mj_go sta Cl M (mj_rx M h0 ks Post) pc lv [] h :=
  mj_go.here ⟨none, w, hp, hk, hv, rfl, _, he, rfl, rfl, hrt⟩
theorem g_iret {q len wp : Nat} {raw : Instr} {ty : FieldType} {x : Int32} (hv : mj_Vw h0 w h) (he : mj_ent (mj_cd M) pc = some (q, .ireturn, len, raw, wp)) (hrt : mj_rt M = some ty) (hn : narrow ty (.int x) = .int x) (hk : mj_ks w = ks) (hp : Post (some (.int x)) w) : mj_go sta Cl M (mj_rx M h0 ks Post) pc lv [.int x] h :=
  mj_go.here ⟨_, w, hp, hk, hv, rfl, _, he, x, ty, rfl, rfl, hrt, hn⟩
theorem g_lret {q len wp : Nat} {raw : Instr} {x : Int64} (hv : mj_Vw h0 w h) (he : mj_ent (mj_cd M) pc = some (q, .lreturn, len, raw, wp)) (hrt : mj_rt M = some .long) (hk : mj_ks w = ks) (hp : Post (some (.long x)) w) : mj_go sta Cl M (mj_rx M h0 ks Post) pc lv [.long x] h :=
  mj_go.here ⟨_, w, hp, hk, hv, rfl, _, he, x, rfl, rfl, hrt⟩
theorem g_aret {q len wp a : Nat} {raw : Instr} {C : String} (hv : mj_Vw h0 w h) (he : mj_ent (mj_cd M) pc = some (q, .areturn, len, raw, wp)) (hrt : mj_rt M = some (.object C)) (hk : mj_ks w = ks) (hp : Post (some (.ref a)) w) : mj_go sta Cl M (mj_rx M h0 ks Post) pc lv [.ref a] h :=
  mj_go.here ⟨_, w, hp, hk, hv, rfl, _, he, a, C, rfl, rfl, hrt⟩
end MJG
section MJK
variable {sta : mj_S} {d : Nat} {M : mj_M} {T : Nat → mj_L → List Value → mj_H → Prop} {pc : Nat} {lv : mj_L} {st rest as : List Value} {h0 h : mj_H} {w wc : mj_W} {Post : Option Value → mj_W → Prop} {q len wp c : Nat} {raw : Instr}
/-- calls: the callee's cells by their places in the view -/
theorem g_callS (hv : mj_Vw h0 w h) (is : List Nat) (he : mj_ent (mj_cd M) pc = some (q, .invokestatic c, len, raw, wp)) (hlen : Nat.ble (c / 16 % 16) st.length = true) (has : (st.take (c / 16 % 16)).reverse = as) (hdr : st.drop (c / 16 % 16) = rest) (hcat : Nat.ble (rest.map Value.category).sum 8 = true) (hpk : mj_pk w is = wc) (hil : wc.length = is.length) (hnd : is.Nodup)
    (hS : mj_Sx sta d (c / 256) as wc Post) (k : ∀ v w' h', Post v w' → mj_ks w' = mj_ks wc → mj_Vw h0 (mj_pb w is w') h' → mj_go sta (mj_Cl sta d) M T (q + 3) lv (v.toList ++ rest) h') : mj_go sta (mj_Cl sta d) M T pc lv st h := by
  subst has; subst hdr; subst hpk
  obtain ⟨v, w', h', h1, h2, h3, h4⟩ := hS h (hv.pick hil hnd)
  have e1 := mj_ent_pc he
  dsimp only at e1
  subst e1
  exact mj_go.call he rfl (Nat.le_of_ble_eq_true hlen) trivial (Nat.le_of_ble_eq_true hcat) h4 (k v w' h' h1 h2 (hv.call hil hnd h2 h3))
theorem g_callV {a : Nat} {fs : List Value} {ar : List Value} (hv : mj_Vw h0 w h) (is : List Nat) (j0 : Nat) (he : mj_ent (mj_cd M) pc = some (q, .invokevirtual c, len, raw, wp)) (hlen : Nat.ble (c / 16 % 16) st.length = true) (has : (st.take (c / 16 % 16)).reverse = .ref a :: ar) (hj0 : mj_nth w j0 = some (a, .inr (c % 16, fs))) (hdr : st.drop (c / 16 % 16) = rest) (hcat : Nat.ble (rest.map Value.category).sum 8 = true) (hpk : mj_pk w is = wc) (hil : wc.length = is.length) (hnd : is.Nodup)
    (hS : mj_Sx sta d (c / 256) (.ref a :: ar) wc Post) (k : ∀ v w' h', Post v w' → mj_ks w' = mj_ks wc → mj_Vw h0 (mj_pb w is w') h' → mj_go sta (mj_Cl sta d) M T (q + 3) lv (v.toList ++ rest) h') : mj_go sta (mj_Cl sta d) M T pc lv st h := by
  subst hdr; subst hpk
  obtain ⟨v, w', h', h1, h2, h3, h4⟩ := hS h (hv.pick hil hnd)
  have e1 := mj_ent_pc he
  dsimp only at e1
  subst e1
  exact mj_go.call he rfl (Nat.le_of_ble_eq_true hlen) (Or.inr ⟨a, ar, fs, has, hv.1.2 j0 _ _ hj0⟩) (Nat.le_of_ble_eq_true hcat) (by rw [has]; exact h4) (k v w' h' h1 h2 (hv.call hil hnd h2 h3))
end MJK
