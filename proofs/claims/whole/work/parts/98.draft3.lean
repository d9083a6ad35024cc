/-! one step of both: draft -/
def sja (sta : mj_S) (d : Nat) (y : Int32) (w u : mj_W) (Bd : Nat) : Prop := ∃ v, ∃ CP MP : mj_W → Prop, mj_Sx sta d 69 [.ref 0, .int y] w (fun v' w' => v' = some v ∧ CP w') ∧ mj_Sa sta d 195 [.ref 151, .int y] u 8 54 (fun _ v' u' => v' = some v ∧ MP u') ∧ ∀ w' u', CP w' → MP u' → ∃ tr' w2 u2 t2, w'.Perm w2 ∧ u'.Perm (u2 ++ t2) ∧ J sta (Bd + 1) tr' w2 u2
theorem rd_r {c : Nat → Nat} {n : Nat} {D2 : Nat → Nat} {DA2 : Nat → Nat → Nat} : PRr (lAll c n 801 (rn blk_ c n 0, false, dclr D2, va_up DA2 4 (fun _ => 0), fun _ => [])) (lAll c n 801 (rn blk_ c n 0, false, fun _ => 0, fun _ _ => 0, fun _ => [])) := by
  refine lAll_r 801 ⟨rfl, rfl, rfl, ?_, ?_, ?_, ?_, ?_⟩
  · intro k h5 h6 h7
    show dclr D2 k = 0
    unfold dclr
    rw [if_neg (by omega)]
  · intro h
    exact absurd (show dclr D2 4 = 0 by unfold dclr; rw [if_neg (by omega)]) h
  · intro j hj k hk
    have : dclr D2 1 = 0 := by unfold dclr; rw [if_neg (by omega)]
    have hk : k < dclr D2 1 := hk
    omega
  · rfl
  · intro k hk
    have : dclr D2 8 = 0 := by unfold dclr; rw [if_neg (by omega)]
    have hk : k < dclr D2 8 := hk
    omega

section Md3
variable {sta : mj_S} {d : Nat} {th tr wh : Int32} {dr rd : Option Nat} {F : Nat → Int32} {wd : Int64} {ac im lw tk st : Int32} {sh ru : Int64} {rz aw al sd : Int32} {c : Nat → Nat} {V P Q : Nat → Int32} {r sn : Nat → Nat} {g f : Nat → Option Nat} {b1 b2 b3 b4 c0 : Nat → Nat} {t : mj_W}
theorem m_draft (L n : Nat) (h6 : F 6 = nI L) (hL : L ≤ 800) (hn : n ≤ L) (hc : bd 256 c) : mj_Sa sta (d + 9) 195 [.ref 151, (.int (nI n))] ([(mo th tr wh dr rd F wd ac im lw tk st sh ru rz aw al sd), (152, ab c), (153, aI 28 V)] ++ ([(154, aI 448 P), (155, aI 84 Q), (156, an r), (157, an sn), (158, sq g), (159, sq f), (160, aL 6 b1), (161, aL 6 b2), (162, aL 6 b3), (163, aL 36 b4), (164, aN 18 c0)] ++ t)) 8 54 (fun p v w => match lAll c n 801 (rn blk_ c n 0, false, fun _ => 0, fun _ _ => 0, fun _ => []) with
    | .inr e => v = some (.int (-1)) ∧ ∃ F' wd', F' 6 = 0 ∧ F' 12 = nI e.1 ∧ w = [(mo 0 4 (nI e.2) dr (some p) F' wd' ac im lw tk st sh ru rz aw al sd), (152, ab c), (153, aI 28 V)] ++ ([(154, aI 448 P), (155, aI 84 Q), (156, an r), (157, an sn), (158, sq g), (159, sq f), (160, aL 6 b1), (161, aL 6 b2), (162, aL 6 b3), (163, aL 36 b4), (164, aN 18 c0)] ++ t)
    | .inl s => v = some (.int (nI (s.2.2.1 1))) ∧ okP s.2.1 s.2.2.1 s.2.2.2.1 s.2.2.2.2 ∧ ∃ F' wd', F' 6 = 0 ∧ F' 12 = 0 ∧ w = ([(mo 0 0 (-1) (some p) (some p) F' wd' 0 0 lw tk st sh ru rz aw al sd), (152, ab c), (153, aI 28 (nVd (s.2.2.1 1) (s.2.2.2.1 0) (s.2.2.2.1 2) (s.2.2.1 3) V))] ++ md8 p s) ++ ([(154, aI 448 P), (155, aI 84 Q), (156, an r), (157, an sn), (158, sq g), (159, sq f), (160, aL 6 b1), (161, aL 6 b2), (162, aL 6 b3), (163, aL 36 b4), (164, aN 18 c0)] ++ t)) := by
  have hS := s_Mdraft sta d th tr wh dr rd F wd ac im lw tk st sh ru rz aw al sd c V L n h6 hL hn hc
  have h2 := hS.more ([(154, aI 448 P), (155, aI 84 Q), (156, an r), (157, an sn), (158, sq g), (159, sq f), (160, aL 6 b1), (161, aL 6 b2), (162, aL 6 b3), (163, aL 36 b4), (164, aN 18 c0)] ++ t) (fun p v w' hp k hk => by
    cases hA : lAll c n 801 (rn blk_ c n 0, false, fun _ => 0, fun _ _ => 0, fun _ => []) with
    | inr e =>
      rw [hA] at hp
      obtain ⟨-, F', wd', -, -, rfl⟩ := hp
      exact Or.inl hk
    | inl s =>
      rw [hA] at hp
      obtain ⟨-, -, F', wd', -, -, rfl⟩ := hp
      rw [mj_ks_app] at hk
      rcases List.mem_append.mp hk with h | h
      · exact Or.inl h
      · refine Or.inr ?_
        have h : k ∈ [p, p + 1, p + 2, p + 3, p + 4, p + 5, p + 6, p + 7] := h
        simp only [List.mem_cons, List.not_mem_nil, or_false] at h
        omega)
  intro h hv hl
  obtain ⟨v, w', h', ⟨u, hp, rfl⟩, k2⟩ := h2 h hv hl
  refine ⟨v, u ++ ([(154, aI 448 P), (155, aI 84 Q), (156, an r), (157, an sn), (158, sq g), (159, sq f), (160, aL 6 b1), (161, aL 6 b2), (162, aL 6 b3), (163, aL 36 b4), (164, aN 18 c0)] ++ t), h', ?_, k2⟩
  cases hA : lAll c n 801 (rn blk_ c n 0, false, fun _ => 0, fun _ _ => 0, fun _ => []) with
  | inr e =>
    rw [hA] at hp
    obtain ⟨q1, F', wd', q2, q3, rfl⟩ := hp
    exact ⟨q1, F', wd', q2, q3, rfl⟩
  | inl s =>
    rw [hA] at hp
    obtain ⟨q1, q0, F', wd', q2, q3, rfl⟩ := hp
    exact ⟨q1, q0, F', wd', q2, q3, rfl⟩
end Md3
