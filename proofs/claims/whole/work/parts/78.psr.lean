/-! two readings of one text -/
def PSr (s t : PS) : Prop := s.1 = t.1 ∧ s.2.1 = t.2.1 ∧ s.2.2.2.2 = t.2.2.2.2 ∧ (∀ k, k ≠ 5 → k ≠ 6 → k ≠ 7 → s.2.2.1 k = t.2.2.1 k) ∧ (s.2.2.1 4 ≠ 0 → s.2.2.1 5 = t.2.2.1 5 ∧ s.2.2.1 6 = t.2.2.1 6 ∧ s.2.2.1 7 = t.2.2.1 7) ∧ (∀ j, j < 4 → ∀ k, k < s.2.2.1 1 → s.2.2.2.1 j k = t.2.2.2.1 j k) ∧ s.2.2.2.1 4 = t.2.2.2.1 4 ∧ ∀ k, k < s.2.2.1 8 → s.2.2.2.1 5 k = t.2.2.2.1 5 k
def PRr (a b : PS ⊕ FP) : Prop := match a, b with
  | .inl s, .inl t => PSr s t
  | .inr e, .inr e' => e = e'
  | _, _ => False
theorem frs_cg {p q : Nat → Bool} : ∀ j x, (∀ k, x ≤ k → k < x + j → p k = q k) → frs p j x = frs q j x
  | 0, x, _ => rfl
  | j + 1, x, h => by rw [frs, frs, h x (by omega) (by omega), frs_cg j (x + 1) (fun k h1 h2 => h k (by omega) (by omega))]
theorem up_eq {α : Type} {f g : Nat → α} {k : Nat} {x : α} {P : Nat → Prop} (h : ∀ j, P j → f j = g j) : ∀ j, P j → va_up f k x j = va_up g k x j := fun j hj => by
  unfold va_up
  rw [h j hj]
section Pr
variable {c : Nat → Nat} {n : Nat} {i : Nat} {td : Bool} {D D' : Nat → Nat} {A A' : Nat → Nat → Nat} {nm : Nat → List Nat}
theorem lTakes_r (h : PSr (i, td, D, A, nm) (i, td, D', A', nm)) : PRr (lTakes c n (i, td, D, A, nm)) (lTakes c n (i, td, D', A', nm)) := by
  obtain ⟨-, -, -, h1, h2, h3, h4, h5⟩ := h
  unfold lTakes
  cases td with
  | true => exact rfl
  | false =>
    show PRr (match pP c n w_takes 5 (nxt c n i) with | .inr e => .inr e | .inl (v, j) => .inl (j, true, va_up D 0 v, A, nm)) (match pP c n w_takes 5 (nxt c n i) with | .inr e => .inr e | .inl (v, j) => .inl (j, true, va_up D' 0 v, A', nm))
    cases pP c n w_takes 5 (nxt c n i) with
    | inr e => exact rfl
    | inl q =>
      refine ⟨rfl, rfl, rfl, fun k a b c => ?_, h2, h3, h4, h5⟩
      show va_up D 0 q.1 k = va_up D' 0 q.1 k
      unfold va_up
      rw [show D k = D' k from h1 k a b c]
theorem lMan_r (h : PSr (i, td, D, A, nm) (i, td, D', A', nm)) : PRr (lMan c n (i, td, D, A, nm)) (lMan c n (i, td, D', A', nm)) := by
  obtain ⟨-, -, -, h1, h2, h3, h4, h5⟩ := h
  have e1 : D 1 = D' 1 := h1 1 (by decide) (by decide) (by decide)
  unfold lMan
  show PRr (if 6 ≤ D 1 then .inr (5, i) else if ¬ lkd c n (nxt c n i) = 7 then .inr (1, nxt c n i) else if (fnd nm (wl c n (nxt c n i)) (D 1)).isSome then .inr (3, nxt c n i) else match srt c n (nxt c n (nxt c n i)) with
      | none => .inr (1, nxt c n (nxt c n i))
      | some so => match pP c n w_worth 99 (nxt c n (nxt c n (nxt c n i))) with
        | .inr e => .inr e
        | .inl (wo, j1) => match pP c n w_coins 200 j1 with
          | .inr e => .inr e
          | .inl (co, j2) => match pP c n w_asks 99 j2 with
            | .inr e => .inr e
            | .inl (as, j3) => .inl (lMan3 c n (i, td, D, A, nm) (nxt c n i) so wo co as j3))
    (if 6 ≤ D' 1 then .inr (5, i) else if ¬ lkd c n (nxt c n i) = 7 then .inr (1, nxt c n i) else if (fnd nm (wl c n (nxt c n i)) (D' 1)).isSome then .inr (3, nxt c n i) else match srt c n (nxt c n (nxt c n i)) with
      | none => .inr (1, nxt c n (nxt c n i))
      | some so => match pP c n w_worth 99 (nxt c n (nxt c n (nxt c n i))) with
        | .inr e => .inr e
        | .inl (wo, j1) => match pP c n w_coins 200 j1 with
          | .inr e => .inr e
          | .inl (co, j2) => match pP c n w_asks 99 j2 with
            | .inr e => .inr e
            | .inl (as, j3) => .inl (lMan3 c n (i, td, D', A', nm) (nxt c n i) so wo co as j3))
  rw [← e1]
  by_cases c1 : 6 ≤ D 1
  · rw [if_pos c1, if_pos c1]; exact rfl
  · rw [if_neg c1, if_neg c1]
    by_cases c2 : ¬ lkd c n (nxt c n i) = 7
    · rw [if_pos c2, if_pos c2]; exact rfl
    · rw [if_neg c2, if_neg c2]
      by_cases c3 : (fnd nm (wl c n (nxt c n i)) (D 1)).isSome = true
      · rw [if_pos c3, if_pos c3]; exact rfl
      · rw [if_neg c3, if_neg c3]
        cases srt c n (nxt c n (nxt c n i)) with
        | none => exact rfl
        | some so =>
          dsimp only
          cases pP c n w_worth 99 (nxt c n (nxt c n (nxt c n i))) with
          | inr e => exact rfl
          | inl q1 =>
            dsimp only
            cases pP c n w_coins 200 q1.2 with
            | inr e => exact rfl
            | inl q2 =>
              dsimp only
              cases pP c n w_asks 99 q2.2 with
              | inr e => exact rfl
              | inl q3 =>
                refine ⟨rfl, rfl, ?_, fun k a b c => ?_, h2, fun j hj k hk => ?_, h4, h5⟩
                · show va_up nm (D 1) _ = va_up nm (D' 1) _
                  rw [e1]
                · show va_up D 1 (D 1 + 1) k = va_up D' 1 (D' 1 + 1) k
                  unfold va_up
                  rw [show D k = D' k from h1 k a b c, e1]
                · have hk : k < D 1 + 1 := hk
                  show (va_up (va_up (va_up (va_up A 0 (va_up (A 0) (D 1) so)) 1 (va_up (A 1) (D 1) q1.1)) 2 (va_up (A 2) (D 1) q2.1)) 3 (va_up (A 3) (D 1) q3.1)) j k = (va_up (va_up (va_up (va_up A' 0 (va_up (A' 0) (D' 1) so)) 1 (va_up (A' 1) (D' 1) q1.1)) 2 (va_up (A' 2) (D' 1) q2.1)) 3 (va_up (A' 3) (D' 1) q3.1)) j k
                  rw [← e1]
                  have hh : ∀ j, j < 4 → ∀ x, va_up (A j) (D 1) x k = va_up (A' j) (D 1) x k := by
                    intro j hj x
                    unfold va_up
                    by_cases e : k = D 1
                    · rw [if_pos e, if_pos e]
                    · rw [if_neg e, if_neg e]
                      exact h3 j hj k (by show k < D 1; omega)
                  have hj4 : j = 0 ∨ j = 1 ∨ j = 2 ∨ j = 3 := by omega
                  rcases hj4 with rfl | rfl | rfl | rfl
                  · exact hh 0 (by decide) so
                  · exact hh 1 (by decide) q1.1
                  · exact hh 2 (by decide) q2.1
                  · exact hh 3 (by decide) q3.1
theorem lKin_r (h : PSr (i, td, D, A, nm) (i, td, D', A', nm)) : PRr (lKin c n (i, td, D, A, nm)) (lKin c n (i, td, D', A', nm)) := by
  obtain ⟨-, -, -, h1, h2, h3, h4, h5⟩ := h
  have e1 : D 1 = D' 1 := h1 1 (by decide) (by decide) (by decide)
  have e2 : D 2 = D' 2 := h1 2 (by decide) (by decide) (by decide)
  have h4 : A 4 = A' 4 := h4
  unfold lKin
  show PRr (if 6 ≤ D 2 then .inr (5, i) else match pM c n nm (D 1) (nxt c n i) with
      | .inr e => .inr e
      | .inl x => match pM c n nm (D 1) (nxt c n (nxt c n i)) with
        | .inr e => .inr e
        | .inl y => if x = y ∨ (A 4 x).testBit y = true then .inr (3, nxt c n (nxt c n i)) else .inl (nxt c n (nxt c n (nxt c n i)), td, va_up D 2 (D 2 + 1), va_up A 4 (va_up (va_up (A 4) x (A 4 x ||| 2 ^ y)) y (va_up (A 4) x (A 4 x ||| 2 ^ y) y ||| 2 ^ x)), nm))
    (if 6 ≤ D' 2 then .inr (5, i) else match pM c n nm (D' 1) (nxt c n i) with
      | .inr e => .inr e
      | .inl x => match pM c n nm (D' 1) (nxt c n (nxt c n i)) with
        | .inr e => .inr e
        | .inl y => if x = y ∨ (A' 4 x).testBit y = true then .inr (3, nxt c n (nxt c n i)) else .inl (nxt c n (nxt c n (nxt c n i)), td, va_up D' 2 (D' 2 + 1), va_up A' 4 (va_up (va_up (A' 4) x (A' 4 x ||| 2 ^ y)) y (va_up (A' 4) x (A' 4 x ||| 2 ^ y) y ||| 2 ^ x)), nm))
  rw [← e1, ← e2, ← h4]
  by_cases c1 : 6 ≤ D 2
  · rw [if_pos c1, if_pos c1]; exact rfl
  · rw [if_neg c1, if_neg c1]
    cases pM c n nm (D 1) (nxt c n i) with
    | inr e => exact rfl
    | inl x =>
      dsimp only
      cases pM c n nm (D 1) (nxt c n (nxt c n i)) with
      | inr e => exact rfl
      | inl y =>
        dsimp only
        by_cases c2 : x = y ∨ (A 4 x).testBit y = true
        · rw [if_pos c2, if_pos c2]; exact rfl
        · rw [if_neg c2, if_neg c2]
          refine ⟨rfl, rfl, rfl, fun k a b c => ?_, h2, fun j hj k hk => ?_, rfl, h5⟩
          · show va_up D 2 (D 2 + 1) k = va_up D' 2 (D 2 + 1) k
            unfold va_up
            rw [show D k = D' k from h1 k a b c]
          · have := h3 j hj k hk
            show va_up A 4 _ j k = va_up A' 4 _ j k
            unfold va_up
            rw [if_neg (by omega), if_neg (by omega)]
            exact this
theorem lSpares_r (h : PSr (i, td, D, A, nm) (i, td, D', A', nm)) : PRr (lSpares c n (i, td, D, A, nm)) (lSpares c n (i, td, D', A', nm)) := by
  obtain ⟨-, -, -, h1, h2, h3, h4, h5⟩ := h
  have e3 : D 3 = D' 3 := h1 3 (by decide) (by decide) (by decide)
  unfold lSpares
  show PRr (match srt c n (nxt c n i) with | none => .inr (1, nxt c n i) | some so => if (D 3).testBit so then .inr (3, nxt c n i) else .inl (nxt c n (nxt c n i), td, va_up D 3 (D 3 ||| 2 ^ so), A, nm)) (match srt c n (nxt c n i) with | none => .inr (1, nxt c n i) | some so => if (D' 3).testBit so then .inr (3, nxt c n i) else .inl (nxt c n (nxt c n i), td, va_up D' 3 (D' 3 ||| 2 ^ so), A', nm))
  rw [← e3]
  cases srt c n (nxt c n i) with
  | none => exact rfl
  | some so =>
    dsimp only
    by_cases c1 : (D 3).testBit so = true
    · rw [if_pos c1, if_pos c1]; exact rfl
    · rw [if_neg c1, if_neg c1]
      refine ⟨rfl, rfl, rfl, fun k a b c => ?_, h2, h3, h4, h5⟩
      show va_up D 3 _ k = va_up D' 3 _ k
      unfold va_up
      rw [show D k = D' k from h1 k a b c]
theorem lDoctor_r (h : PSr (i, td, D, A, nm) (i, td, D', A', nm)) : PRr (lDoctor c n (i, td, D, A, nm)) (lDoctor c n (i, td, D', A', nm)) := by
  obtain ⟨-, -, -, h1, h2, h3, h4, h5⟩ := h
  have e4 : D 4 = D' 4 := h1 4 (by decide) (by decide) (by decide)
  unfold lDoctor
  show PRr (if ¬ D 4 = 0 then .inr (3, i) else match pP c n w_hits 100 (nxt c n i) with
      | .inr e => .inr e
      | .inl (x, j1) => match pP c n w_errs 100 j1 with
        | .inr e => .inr e
        | .inl (y, j2) => match pP c n w_share 100 j2 with
          | .inr e => .inr e
          | .inl (z, j3) => .inl (j3, td, va_up (va_up (va_up (va_up D 4 1) 5 x) 6 y) 7 z, A, nm))
    (if ¬ D' 4 = 0 then .inr (3, i) else match pP c n w_hits 100 (nxt c n i) with
      | .inr e => .inr e
      | .inl (x, j1) => match pP c n w_errs 100 j1 with
        | .inr e => .inr e
        | .inl (y, j2) => match pP c n w_share 100 j2 with
          | .inr e => .inr e
          | .inl (z, j3) => .inl (j3, td, va_up (va_up (va_up (va_up D' 4 1) 5 x) 6 y) 7 z, A', nm))
  rw [← e4]
  by_cases c1 : ¬ D 4 = 0
  · rw [if_pos c1, if_pos c1]; exact rfl
  · rw [if_neg c1, if_neg c1]
    cases pP c n w_hits 100 (nxt c n i) with
    | inr e => exact rfl
    | inl q1 =>
      dsimp only
      cases pP c n w_errs 100 q1.2 with
      | inr e => exact rfl
      | inl q2 =>
        dsimp only
        cases pP c n w_share 100 q2.2 with
        | inr e => exact rfl
        | inl q3 =>
          refine ⟨rfl, rfl, rfl, fun k a b c => ?_, fun _ => ⟨rfl, rfl, rfl⟩, h3, h4, h5⟩
          show va_up (va_up (va_up (va_up D 4 1) 5 q1.1) 6 q2.1) 7 q3.1 k = va_up (va_up (va_up (va_up D' 4 1) 5 q1.1) 6 q2.1) 7 q3.1 k
          unfold va_up
          rw [show D k = D' k from h1 k a b c]
theorem lWent_r (h : PSr (i, td, D, A, nm) (i, td, D', A', nm)) : PRr (lWent c n (i, td, D, A, nm)) (lWent c n (i, td, D', A', nm)) := by
  obtain ⟨-, -, -, h1, h2, h3, h4, h5⟩ := h
  have e1 : D 1 = D' 1 := h1 1 (by decide) (by decide) (by decide)
  have e8 : D 8 = D' 8 := h1 8 (by decide) (by decide) (by decide)
  unfold lWent
  show PRr (if 3 ≤ D 8 then .inr (5, i) else match pM c n nm (D 1) (nxt c n i) with | .inr e => .inr e | .inl x => if (frs (fun k => decide (A 5 k = x)) (D 8) 0).isSome then .inr (3, nxt c n i) else .inl (nxt c n (nxt c n i), td, va_up D 8 (D 8 + 1), va_up A 5 (va_up (A 5) (D 8) x), nm))
    (if 3 ≤ D' 8 then .inr (5, i) else match pM c n nm (D' 1) (nxt c n i) with | .inr e => .inr e | .inl x => if (frs (fun k => decide (A' 5 k = x)) (D' 8) 0).isSome then .inr (3, nxt c n i) else .inl (nxt c n (nxt c n i), td, va_up D' 8 (D' 8 + 1), va_up A' 5 (va_up (A' 5) (D' 8) x), nm))
  rw [← e1, ← e8]
  by_cases c1 : 3 ≤ D 8
  · rw [if_pos c1, if_pos c1]; exact rfl
  · rw [if_neg c1, if_neg c1]
    cases pM c n nm (D 1) (nxt c n i) with
    | inr e => exact rfl
    | inl x =>
      dsimp only
      have ef : frs (fun k => decide (A' 5 k = x)) (D 8) 0 = frs (fun k => decide (A 5 k = x)) (D 8) 0 := frs_cg (D 8) 0 (fun k _ hk => by
        have : A 5 k = A' 5 k := h5 k (by show k < D 8; omega)
        rw [this])
      rw [ef]
      by_cases c2 : (frs (fun k => decide (A 5 k = x)) (D 8) 0).isSome = true
      · rw [if_pos c2, if_pos c2]; exact rfl
      · rw [if_neg c2, if_neg c2]
        refine ⟨rfl, rfl, rfl, fun k a b c => ?_, h2, fun j hj k hk => ?_, h4, fun k hk => ?_⟩
        · show va_up D 8 (D 8 + 1) k = va_up D' 8 (D 8 + 1) k
          unfold va_up
          rw [show D k = D' k from h1 k a b c]
        · have := h3 j hj k hk
          show va_up A 5 _ j k = va_up A' 5 _ j k
          unfold va_up
          rw [if_neg (by omega), if_neg (by omega)]
          exact this
        · have hk : k < D 8 + 1 := hk
          show va_up (A 5) (D 8) x k = va_up (A' 5) (D 8) x k
          unfold va_up
          by_cases e : k = D 8
          · rw [if_pos e, if_pos e]
          · rw [if_neg e, if_neg e]
            exact h5 k (by show k < D 8; omega)
end Pr
theorem lLine_r {c : Nat → Nat} {n : Nat} {s t : PS} (h : PSr s t) : PRr (lLine c n s) (lLine c n t) := by
  obtain ⟨i, td, D, A, nm⟩ := s
  obtain ⟨i', td', D', A', nm'⟩ := t
  have h0 := h
  obtain ⟨e1, e2, e3, -⟩ := h0
  cases e1; cases e2; cases e3
  unfold lLine
  show PRr (if lkd c n i = 0 ∨ lkd c n i = 7 then .inr (1, i) else if lkd c n i = 1 then lTakes c n (i, td, D, A, nm) else if td = false then .inr (6, i) else if lkd c n i = 2 then lMan c n (i, td, D, A, nm) else if lkd c n i = 3 then lKin c n (i, td, D, A, nm) else if lkd c n i = 4 then lSpares c n (i, td, D, A, nm) else if lkd c n i = 5 then lDoctor c n (i, td, D, A, nm) else lWent c n (i, td, D, A, nm))
    (if lkd c n i = 0 ∨ lkd c n i = 7 then .inr (1, i) else if lkd c n i = 1 then lTakes c n (i, td, D', A', nm) else if td = false then .inr (6, i) else if lkd c n i = 2 then lMan c n (i, td, D', A', nm) else if lkd c n i = 3 then lKin c n (i, td, D', A', nm) else if lkd c n i = 4 then lSpares c n (i, td, D', A', nm) else if lkd c n i = 5 then lDoctor c n (i, td, D', A', nm) else lWent c n (i, td, D', A', nm))
  split
  · exact rfl
  · split
    · exact lTakes_r h
    · split
      · exact rfl
      · split
        · exact lMan_r h
        · split
          · exact lKin_r h
          · split
            · exact lSpares_r h
            · split
              · exact lDoctor_r h
              · exact lWent_r h
theorem lAll_r {c : Nat → Nat} {n : Nat} : ∀ (f : Nat) {s t : PS}, PSr s t → PRr (lAll c n f s) (lAll c n f t)
  | 0, s, t, h => by
    rw [lAll, lAll]
    show (1, s.1) = (1, t.1)
    rw [h.1]
  | f + 1, s, t, h => by
    have hl := lLine_r (c := c) (n := n) h
    rw [lAll, lAll]
    cases h1 : lLine c n s with
    | inr e =>
      rw [h1] at hl
      cases h2 : lLine c n t with
      | inr e' => rw [h2] at hl; cases hl; exact rfl
      | inl t' => rw [h2] at hl; exact hl.elim
    | inl s' =>
      rw [h1] at hl
      cases h2 : lLine c n t with
      | inr e' => rw [h2] at hl; exact hl.elim
      | inl t' =>
        rw [h2] at hl
        have hl : PSr s' t' := hl
        have e1 : s'.2.2.1 1 = t'.2.2.1 1 := hl.2.2.2.1 1 (by decide) (by decide) (by decide)
        dsimp only
        rw [hl.1, e1]
        split
        · split
          · exact hl
          · exact rfl
        · split
          · exact rfl
          · exact lAll_r f ⟨rfl, hl.2⟩
