/-! the reference: spares, doctor, went, kin -/
def lS2 (c : Nat → Nat) (n : Nat) (f : PS → PS ⊕ FP) (s : PS) : PS ⊕ FP := if s.2.1 = false then .inr (6, s.1) else f s
theorem xsr_ok {c : Nat → Nat} {n : Nat} {x : XP} : xok c n (xsr c n x).2 ∧ (∀ j, (xsr c n x).2 = .inl j → x = .inl j ∧ srt c n j = some (xsr c n x).1 ∧ (xsr c n x).1 < 4) := by
  cases x with
  | inr e => exact ⟨trivial, fun j h => by cases h⟩
  | inl i =>
    have e : xsr c n (.inl i) = match srt c n i with
      | some s => (s, .inl i)
      | none => (0, .inr (1, i)) := rfl
    rw [e]
    cases hs : srt c n i with
    | none => exact ⟨trivial, fun j h => by cases h⟩
    | some s =>
      have := srt_lt c n hs
      exact ⟨show knd c n i ≠ 4 by omega, fun j h => by cases h; exact ⟨rfl, hs, this.1⟩⟩
theorem xkm_ok {c : Nat → Nat} {n : Nat} {nm : Nat → List Nat} {m : Nat} {x : XP} : xok c n (xkm c n nm m x).2 ∧ (∀ j, (xkm c n nm m x).2 = .inl j → x = .inl j ∧ pM c n nm m j = .inl (xkm c n nm m x).1 ∧ (xkm c n nm m x).1 < m) ∧ ∀ i, x = .inl i → ∀ e, (xkm c n nm m x).2 = .inr e → pM c n nm m i = .inr e := by
  cases x with
  | inr e => exact ⟨trivial, (fun j h => by cases h), fun i h => by cases h⟩
  | inl i =>
    have e : xkm c n nm m (.inl i) = match pM c n nm m i with
      | .inl k => (k, .inl i)
      | .inr e => (0, .inr e) := rfl
    rw [e]
    cases hs : pM c n nm m i with
    | inr e' => exact ⟨trivial, (fun j h => by cases h), fun i' h e2 h2 => by cases h; cases h2; exact hs⟩
    | inl k =>
      have hk : lkd c n i = 7 ∧ k < m := by
        unfold pM at hs
        by_cases h7 : lkd c n i = 7
        · rw [if_pos h7] at hs
          cases hf : fnd nm (wl c n i) m with
          | none => rw [hf] at hs; cases hs
          | some y =>
            rw [hf] at hs
            cases hs
            unfold fnd at hf
            have := frs_lt hf
            exact ⟨h7, by omega⟩
        · rw [if_neg h7] at hs; cases hs
      have := lkd_1 c n (i := i) (by omega)
      exact ⟨show knd c n i ≠ 4 by omega, (fun j h => by cases h; exact ⟨rfl, hs, hk.2⟩), fun i' h e2 h2 => by cases h2⟩
section Mln2
variable (sta : mj_S) (d : Nat) (th tr wh : Int32) (dr : Option Nat) (F : Nat → Int32) (wd : Int64) (ac im lw tk st : Int32) (sh ru : Int64) (rz aw al sd : Int32) (c : Nat → Nat) (n p : Nat) (told : Bool) (D : Nat → Nat) (MA : Nat → Nat → Nat) (nm : Nat → List Nat)
theorem s_MreadSpares (i : Nat) (hk : knd c n i = 1) (hP : okP told D MA nm) (hn : n ≤ 800) (hc : bd 256 c) (hR : RdS c n (.inl i) F wd) : mj_Sx sta (d + 5) 191 [.ref 151] (wrd (mo th tr wh dr (some p) F wd ac im lw tk st sh ru rz aw al sd) c p told D MA nm) (fun v w => v = none ∧ mps (fun F wd => (mo th tr wh dr (some p) F wd ac im lw tk st sh ru rz aw al sd)) c n p (lS2 c n (lSpares c n) (i, told, D, MA, nm)) w) := by
  refine mj_Sx.mk m_X10_readSpares (by decide) n_X10_readSpares rfl (fun h0 hv => ?_)
  generalize hT : mj_rx m_X10_readSpares h0 _ _ = T
  have hP' := hP
  obtain ⟨⟨d0, d1, d3, d4, d5, d6, d7, d8, d2, a0, a1, a2, a3, a4, a5⟩, hP2, hP3, hP4⟩ := hP'
  have hin : i ≤ n := hR.2.2.1
  have htk := tkI_1 (told := told) (D := D) d0
  repeat (first | refine g_px rfl rfl rfl ?_)
  refine g_callV hv [0, 1, 2] 0 rfl rfl rfl rfl rfl rfl rfl rfl (by decide) (s_MlineBegins sta (d + 1) th tr wh dr F wd ac im lw tk st sh ru rz aw al sd c n (.inl i) p 0 1 (tkI told D) D (hiI D) (erI D) (seI D) (by decide) (by decide) (show knd c n i ≠ 4 by omega) hn hc hR) (fun v w' h hp hk2 hv => ?_)
  obtain ⟨rfl, F1, wd1, hR1, rfl⟩ := hp
  have hv : mj_Vw h0 (wrd (mo th tr wh dr (some p) F1 wd1 ac im lw tk st sh ru rz aw al sd) c p told D MA nm) h := hv
  have ex1 : xgo c n (if tkI told D = -1 then xfl 6 (if (0 : Nat) = 1 then xfl 5 (.inl i) else .inl i) else (if (0 : Nat) = 1 then xfl 5 (.inl i) else .inl i)) = (if told = false then .inr (6, i) else .inl (nxt c n i)) := by
    cases told with
    | false => rw [if_pos (htk.mpr rfl)]; rfl
    | true => rw [if_neg (fun z => by have := htk.mp z; cases this)]; rfl
  rw [ex1] at hR1
  generalize hx1 : (if told = false then (.inr (6, i) : XP) else .inl (nxt c n i)) = x1 at hR1
  repeat (first | refine g_px rfl rfl rfl ?_)
  refine g_callV hv [0] 0 rfl rfl rfl rfl rfl rfl rfl rfl (by decide) (s_MsortAtHand sta d th tr wh dr (some p) F1 wd1 ac im lw tk st sh ru rz aw al sd c n x1 hR1) (fun v w' h hp hk2 hv => ?_)
  obtain ⟨rfl, F2, hR2, rfl⟩ := hp
  have hv : mj_Vw h0 (wrd (mo th tr wh dr (some p) F2 wd1 ac im lw tk st sh ru rz aw al sd) c p told D MA nm) h := hv
  have hso := xsr_ok (c := c) (n := n) (x := x1)
  generalize hx2 : xsr c n x1 = y2 at *
  obtain ⟨so, x2⟩ := y2
  dsimp only at hR2 hso ⊢
  have h9 := hR2.over
  have hsp : ∀ k, k < 4 → D 3 < 2 ^ 31 := fun k _ => by omega
  -- where the goesOn is
  have at38 : ∀ F3 x3 h, RdS c n x3 F3 wd1 → xok c n x3 → (if xov x2 = false ∧ (D 3).testBit so = true then xfl 3 x2 else x2) = x3 → mj_Vw h0 (wrd (mo th tr wh dr (some p) F3 wd1 ac im lw tk st sh ru rz aw al sd) c p told D MA nm) h → mj_go sta (mj_Cl sta (d + 4)) m_X10_readSpares T 38 [some (.ref 151), some (.int (nI so))] [] h := by
    intro F3 x3 h hR3 hok3 he hv
    repeat (first | refine g_px rfl rfl rfl ?_)
    refine g_callV hv [0, 1] 0 rfl rfl rfl rfl rfl rfl rfl rfl (by decide) (s_MgoesOn sta (d + 2) th tr wh dr (some p) F3 wd1 ac im lw tk st sh ru rz aw al sd c n x3 hok3 hn hc hR3) (fun v w' h hp hk2 hv => ?_)
    obtain ⟨rfl, F4, wd4, hR4, rfl⟩ := hp
    have hv : mj_Vw h0 (wrd (mo th tr wh dr (some p) F4 wd4 ac im lw tk st sh ru rz aw al sd) c p told D MA nm) h := hv
    have h94 := hR4.over
    refine g_run 1 rfl ?_
    refine g_get hv 0 rfl rfl rfl rfl ?_
    refine g_run 1 rfl ?_
    have hl : lS2 c n (lSpares c n) (i, told, D, MA, nm) = match xgo c n x3 with
      | .inr e => .inr e
      | .inl j => .inl (j, told, va_up D 3 (D 3 ||| 2 ^ so), MA, nm) := by
      subst he
      unfold lS2
      cases told with
      | false =>
        rw [if_pos rfl] at hx1 ⊢
        subst hx1
        cases hx2
        rfl
      | true =>
        rw [if_neg (fun z => by cases z)] at hx1 ⊢
        subst hx1
        show lSpares c n (i, true, D, MA, nm) = _
        unfold lSpares
        have e2 : xsr c n (.inl (nxt c n i)) = match srt c n (nxt c n i) with
          | some s => (s, .inl (nxt c n i))
          | none => (0, .inr (1, nxt c n i)) := rfl
        rw [e2] at hx2
        show (match srt c n (nxt c n i) with | none => Sum.inr (1, nxt c n i) | some so => if (D 3).testBit so then Sum.inr (3, nxt c n i) else Sum.inl (nxt c n (nxt c n i), true, va_up D 3 (D 3 ||| 2 ^ so), MA, nm)) = _
        cases hs : srt c n (nxt c n i) with
        | none =>
          rw [hs] at hx2
          cases hx2
          rfl
        | some s =>
          rw [hs] at hx2
          cases hx2
          by_cases hb : (D 3).testBit so = true
          · rw [if_pos ⟨rfl, hb⟩]
            dsimp only
            rw [if_pos hb]
            rfl
          · rw [if_neg (fun z => hb z.2)]
            dsimp only
            rw [if_neg hb]
            rfl
    have hso4 : ∀ j, xgo c n x3 = .inl j → so < 4 := by
      intro j hj
      subst he
      cases hx : x2 with
      | inr e => rw [hx] at hj; cases hj
      | inl y => exact (hso.2 y hx).2.2
    have hle := hR4.le
    generalize xgo c n x3 = x4 at *
    refine g_ic rfl (fun cq => ?_) (fun cq => ?_)
    · have cq : F4 9 = 5 := cq
      rw [h94] at cq
      subst hT
      refine g_vret hv rfl rfl rfl ⟨rfl, ?_⟩
      cases x4 with
      | inl j => cases cq
      | inr e =>
        rw [hl]
        exact ⟨F4, wd4, told, D, MA, nm, hR4, rfl⟩
    · have cq : ¬ F4 9 = 5 := cq
      rw [h94] at cq
      cases x4 with
      | inr e => exact absurd rfl cq
      | inl j =>
        have hs4 := hso4 j rfl
        refine g_run 1 rfl ?_
        refine g_get hv 0 rfl rfl rfl rfl ?_
        refine g_run 1 rfl ?_
        refine g_get hv 2 rfl rfl rfl rfl ?_
        refine g_run 3 rfl ?_
        rw [k_shl (show so < 31 by omega)]
        refine g_run 1 rfl ?_
        rw [fa_or]
        refine g_put hv 2 rfl rfl rfl rfl rfl rfl (fun h hv => ?_)
        have hv : mj_Vw h0 (wrd (mo th tr wh dr (some p) F4 wd4 ac im lw tk st sh ru rz aw al sd) c p told (va_up D 3 (D 3 ||| 2 ^ so)) MA nm) h := hv
        subst hT
        refine g_vret hv rfl rfl rfl ⟨rfl, ?_⟩
        rw [hl]
        exact ⟨⟨⟨d0, d1, Nat.or_lt_two_pow (n := 4) d3 (Nat.pow_lt_pow_right (by decide) hs4), d4, d5, d6, d7, d8, d2, a0, a1, a2, a3, a4, a5⟩, hP2, hP3, hP4⟩, hle j rfl, F4, wd4, hR4, rfl⟩
  refine g_run 2 rfl ?_
  refine g_get hv 0 rfl rfl rfl rfl ?_
  refine g_run 1 rfl ?_
  refine g_ic rfl (fun cq => ?_) (fun cq => ?_)
  · have cq : F2 9 = 5 := cq
    rw [h9] at cq
    exact at38 F2 x2 h hR2 hso.1 (if_neg (fun z => by rw [cq] at z; cases z.1)) hv
  · have cq : ¬ F2 9 = 5 := cq
    rw [h9, Bool.not_eq_true] at cq
    have hov := cq
    have hs4 : so < 4 := by
      cases hx : x2 with
      | inr e => rw [hx] at cq; cases cq
      | inl y => exact (hso.2 y hx).2.2
    repeat (first | refine g_px rfl rfl rfl ?_ | refine g_get hv 0 rfl rfl rfl rfl ?_ | refine g_get hv 2 rfl rfl rfl rfl ?_)
    refine g_callS hv [] rfl rfl rfl rfl rfl rfl rfl (by decide) (s_Mbit sta (d + 3) (D 3) so (by omega) (by omega)) (fun v w' h hp hk2 hv => ?_)
    obtain ⟨rfl, rfl⟩ := hp
    have hv : mj_Vw h0 (wrd (mo th tr wh dr (some p) F2 wd1 ac im lw tk st sh ru rz aw al sd) c p told D MA nm) h := hv
    refine g_if rfl (fun cq => ?_) (fun cq => ?_)
    · have cq : bl ((D 3).testBit so) = 0 := cq
      rw [bl_0] at cq
      exact at38 F2 x2 h hR2 hso.1 (if_neg (fun z => by rw [cq] at z; cases z.2)) hv
    · have cq : ¬ bl ((D 3).testBit so) = 0 := cq
      rw [bl_0, Bool.not_eq_false] at cq
      repeat (first | refine g_px rfl rfl rfl ?_)
      refine g_callV hv [0] 0 rfl rfl rfl rfl rfl rfl rfl rfl (by decide) (s_Mflaw sta (d + 3) th tr wh dr (some p) F2 wd1 ac im lw tk st sh ru rz aw al sd c n 3 x2 hR2) (fun v w' h hp hk2 hv => ?_)
      obtain ⟨rfl, F3, hR3, rfl⟩ := hp
      have hv : mj_Vw h0 (wrd (mo th tr wh dr (some p) F3 wd1 ac im lw tk st sh ru rz aw al sd) c p told D MA nm) h := hv
      exact at38 F3 _ h hR3 (by cases x2 <;> exact trivial) (if_pos ⟨hov, cq⟩) hv
theorem s_MreadWent (i : Nat) (hk : knd c n i = 1) (hP : okP told D MA nm) (hn : n ≤ 800) (hc : bd 256 c) (hR : RdS c n (.inl i) F wd) : mj_Sx sta (d + 6) 193 [.ref 151] (wrd (mo th tr wh dr (some p) F wd ac im lw tk st sh ru rz aw al sd) c p told D MA nm) (fun v w => v = none ∧ mps (fun F wd => (mo th tr wh dr (some p) F wd ac im lw tk st sh ru rz aw al sd)) c n p (lS2 c n (lWent c n) (i, told, D, MA, nm)) w) := by
  refine mj_Sx.mk m_X10_readWent (by decide) n_X10_readWent rfl (fun h0 hv => ?_)
  generalize hT : mj_rx m_X10_readWent h0 _ _ = T
  have hP' := hP
  obtain ⟨⟨d0, d1, d3, d4, d5, d6, d7, d8, d2, a0, a1, a2, a3, a4, a5⟩, hP2, hP3, hP4⟩ := hP'
  have hin : i ≤ n := hR.2.2.1
  have htk := tkI_1 (told := told) (D := D) d0
  repeat (first | refine g_px rfl rfl rfl ?_ | refine g_get hv 0 rfl rfl rfl rfl ?_ | refine g_get hv 2 rfl rfl rfl rfl ?_)
  refine g_callV hv [0, 1, 2] 0 rfl rfl rfl rfl rfl rfl rfl rfl (by decide) (s_MlineBegins sta (d + 2) th tr wh dr F wd ac im lw tk st sh ru rz aw al sd c n (.inl i) p (D 8) 3 (tkI told D) D (hiI D) (erI D) (seI D) (by omega) (by decide) (show knd c n i ≠ 4 by omega) hn hc hR) (fun v w' h hp hk2 hv => ?_)
  obtain ⟨rfl, F1, wd1, hR1, rfl⟩ := hp
  have hv : mj_Vw h0 (wrd (mo th tr wh dr (some p) F1 wd1 ac im lw tk st sh ru rz aw al sd) c p told D MA nm) h := hv
  have ex1 : xgo c n (if tkI told D = -1 then xfl 6 (if D 8 = 3 then xfl 5 (.inl i) else .inl i) else (if D 8 = 3 then xfl 5 (.inl i) else .inl i)) = (if told = false then .inr (6, i) else if 3 ≤ D 8 then .inr (5, i) else .inl (nxt c n i)) := by
    cases told with
    | false =>
      have h8 := (hP2 rfl).2.2.2
      rw [if_pos (htk.mpr rfl), if_neg (by omega)]; rfl
    | true =>
      rw [if_neg (fun z => by have := htk.mp z; cases this), if_neg (c := true = false) (by decide)]
      by_cases h3 : D 8 = 3
      · rw [if_pos h3, if_pos (by omega)]; rfl
      · rw [if_neg h3, if_neg (by omega)]; rfl
  rw [ex1] at hR1
  generalize hx1 : (if told = false then (.inr (6, i) : XP) else if 3 ≤ D 8 then .inr (5, i) else .inl (nxt c n i)) = x1 at hR1
  repeat (first | refine g_px rfl rfl rfl ?_)
  refine g_callV hv [0, 2, 8] 0 rfl rfl rfl rfl rfl rfl rfl rfl (by decide) (s_MknownMan sta d th tr wh dr F1 wd1 ac im lw tk st sh ru rz aw al sd c n x1 p (tkI told D) D (hiI D) (erI D) (seI D) nm d1 hP3 hR1) (fun v w' h hp hk2 hv => ?_)
  obtain ⟨rfl, F2, hR2, rfl⟩ := hp
  have hv : mj_Vw h0 (wrd (mo th tr wh dr (some p) F2 wd1 ac im lw tk st sh ru rz aw al sd) c p told D MA nm) h := hv
  have hso := xkm_ok (c := c) (n := n) (nm := nm) (m := D 1) (x := x1)
  generalize hx2 : xkm c n nm (D 1) x1 = y2 at *
  obtain ⟨m, x2⟩ := y2
  dsimp only at hR2 hso ⊢
  have h9 := hR2.over
  have at41 : ∀ F3 x3 h, RdS c n x3 F3 wd1 → xok c n x3 → (if xov x2 = false ∧ (frs (fun k => decide (MA 5 k = m)) (D 8) 0).isSome = true then xfl 3 x2 else x2) = x3 → mj_Vw h0 (wrd (mo th tr wh dr (some p) F3 wd1 ac im lw tk st sh ru rz aw al sd) c p told D MA nm) h → mj_go sta (mj_Cl sta (d + 5)) m_X10_readWent T 41 [some (.ref 151), some (.int (nI m))] [] h := by
    intro F3 x3 h hR3 hok3 he hv
    repeat (first | refine g_px rfl rfl rfl ?_)
    refine g_callV hv [0, 1] 0 rfl rfl rfl rfl rfl rfl rfl rfl (by decide) (s_MgoesOn sta (d + 3) th tr wh dr (some p) F3 wd1 ac im lw tk st sh ru rz aw al sd c n x3 hok3 hn hc hR3) (fun v w' h hp hk2 hv => ?_)
    obtain ⟨rfl, F4, wd4, hR4, rfl⟩ := hp
    have hv : mj_Vw h0 (wrd (mo th tr wh dr (some p) F4 wd4 ac im lw tk st sh ru rz aw al sd) c p told D MA nm) h := hv
    have h94 := hR4.over
    refine g_run 1 rfl ?_
    refine g_get hv 0 rfl rfl rfl rfl ?_
    refine g_run 1 rfl ?_
    have hl : (lS2 c n (lWent c n) (i, told, D, MA, nm) = match xgo c n x3 with
      | .inr e => .inr e
      | .inl j => .inl (j, told, va_up D 8 (D 8 + 1), va_up MA 5 (va_up (MA 5) (D 8) m), nm)) ∧ ∀ j, xgo c n x3 = .inl j → D 8 < 3 ∧ m < D 1 ∧ told = true := by
      subst he
      unfold lS2
      cases told with
      | false =>
        rw [if_pos rfl] at hx1 ⊢
        subst hx1
        cases hx2
        exact ⟨rfl, fun j h => by cases h⟩
      | true =>
        rw [if_neg (fun z => by cases z)] at hx1 ⊢
        show lWent c n (i, true, D, MA, nm) = _ ∧ _
        unfold lWent
        show (if 3 ≤ D 8 then Sum.inr (5, i) else match pM c n nm (D 1) (nxt c n i) with | .inr e => Sum.inr e | .inl x => if (frs (fun k => decide (MA 5 k = x)) (D 8) 0).isSome then Sum.inr (3, nxt c n i) else Sum.inl (nxt c n (nxt c n i), true, va_up D 8 (D 8 + 1), va_up MA 5 (va_up (MA 5) (D 8) x), nm)) = _ ∧ _
        by_cases h3 : 3 ≤ D 8
        · rw [if_pos h3] at hx1 ⊢
          subst hx1
          cases hx2
          exact ⟨rfl, fun j h => by cases h⟩
        · rw [if_neg h3] at hx1 ⊢
          subst hx1
          have e2 : xkm c n nm (D 1) (.inl (nxt c n i)) = match pM c n nm (D 1) (nxt c n i) with
            | .inl k => (k, .inl (nxt c n i))
            | .inr e => (0, .inr e) := rfl
          rw [e2] at hx2
          cases hs : pM c n nm (D 1) (nxt c n i) with
          | inr e =>
            rw [hs] at hx2
            cases hx2
            exact ⟨rfl, fun j h => by cases h⟩
          | inl s =>
            rw [hs] at hx2
            cases hx2
            have hm6 := (hso.2.1 _ rfl).2.2
            by_cases hb : (frs (fun k => decide (MA 5 k = m)) (D 8) 0).isSome = true
            · rw [if_pos ⟨rfl, hb⟩]
              dsimp only
              rw [if_pos hb]
              exact ⟨rfl, fun j h => by cases h⟩
            · rw [if_neg (fun z => hb z.2)]
              dsimp only
              rw [if_neg hb]
              exact ⟨rfl, fun j h => ⟨by omega, hm6, rfl⟩⟩
    have hle := hR4.le
    generalize xgo c n x3 = x4 at *
    refine g_ic rfl (fun cq => ?_) (fun cq => ?_)
    · have cq : ¬ F4 9 = 5 := cq
      rw [h94] at cq
      cases x4 with
      | inr e => exact absurd rfl cq
      | inl j =>
        obtain ⟨h83, hm6, htd⟩ := hl.2 j rfl
        have hl := hl.1
        repeat (first | refine g_px rfl rfl rfl ?_ | refine g_get hv 0 rfl rfl rfl rfl ?_ | refine g_get hv 2 rfl rfl rfl rfl ?_)
        refine g_nLs (y := m) (L := 3) hv 9 (k := D 8) (by omega) (by decide) rfl rfl (fun h hv => ?_)
        refine g_run 1 rfl ?_
        refine g_get hv 0 rfl rfl rfl rfl ?_
        refine g_run 1 rfl ?_
        refine g_get hv 2 rfl rfl rfl rfl ?_
        refine g_run 2 rfl ?_
        rw [show nI (D 8) + Int32.ofInt 1 = nI (D 8 + 1) from (nI_succ _).symm]
        refine g_put hv 2 rfl rfl rfl rfl rfl rfl (fun h hv => ?_)
        have hv : mj_Vw h0 (wrd (mo th tr wh dr (some p) F4 wd4 ac im lw tk st sh ru rz aw al sd) c p told (va_up D 8 (D 8 + 1)) (va_up MA 5 (va_up (MA 5) (D 8) m)) nm) h := hv
        subst hT
        refine g_vret hv rfl rfl rfl ⟨rfl, ?_⟩
        rw [hl]
        refine ⟨⟨⟨d0, d1, d3, d4, d5, d6, d7, (show D 8 + 1 ≤ 3 by omega), d2, a0, a1, a2, a3, a4, up_bd a5 (by omega)⟩, (fun z => by rw [htd] at z; cases z), hP3, ?_⟩, hle j rfl, F4, wd4, hR4, rfl⟩
        intro k hk'
        have hk' : k < D 8 + 1 := hk'
        show va_up (MA 5) (D 8) m k < D 1
        unfold va_up
        by_cases e : k = D 8
        · rw [if_pos e]; exact hm6
        · rw [if_neg e]; exact hP4 k (by omega)
    · have cq : ¬ ¬ F4 9 = 5 := cq
      rw [h94, Decidable.not_not] at cq
      subst hT
      refine g_vret hv rfl rfl rfl ⟨rfl, ?_⟩
      cases x4 with
      | inl j => cases cq
      | inr e =>
        rw [hl.1]
        exact ⟨F4, wd4, told, D, MA, nm, hR4, rfl⟩
  refine g_run 2 rfl ?_
  refine g_get hv 0 rfl rfl rfl rfl ?_
  refine g_run 1 rfl ?_
  refine g_ic rfl (fun cq => ?_) (fun cq => ?_)
  · have cq : F2 9 = 5 := cq
    rw [h9] at cq
    exact at41 F2 x2 h hR2 hso.1 (if_neg (fun z => by rw [cq] at z; cases z.1)) hv
  · have cq : ¬ F2 9 = 5 := cq
    rw [h9, Bool.not_eq_true] at cq
    have hov := cq
    have hm6 : m < D 1 := by
      cases hx : x2 with
      | inr e => rw [hx] at cq; cases cq
      | inl y => exact (hso.2.1 y hx).2.2
    repeat (first | refine g_px rfl rfl rfl ?_ | refine g_get hv 0 rfl rfl rfl rfl ?_)
    refine g_callV hv [2, 9] 2 rfl rfl rfl rfl rfl rfl rfl rfl (by decide) (s_MhasGone sta (d + 4) p (tkI told D) D (hiI D) (erI D) (seI D) (MA 5) m (by omega) a5 d8) (fun v w' h hp hk2 hv => ?_)
    obtain ⟨rfl, rfl⟩ := hp
    have hv : mj_Vw h0 (wrd (mo th tr wh dr (some p) F2 wd1 ac im lw tk st sh ru rz aw al sd) c p told D MA nm) h := hv
    refine g_if rfl (fun cq => ?_) (fun cq => ?_)
    · have cq : bl (frs (fun k => decide (MA 5 k = m)) (D 8) 0).isSome = 0 := cq
      rw [bl_0] at cq
      exact at41 F2 x2 h hR2 hso.1 (if_neg (fun z => by rw [cq] at z; cases z.2)) hv
    · have cq : ¬ bl (frs (fun k => decide (MA 5 k = m)) (D 8) 0).isSome = 0 := cq
      rw [bl_0, Bool.not_eq_false] at cq
      repeat (first | refine g_px rfl rfl rfl ?_)
      refine g_callV hv [0] 0 rfl rfl rfl rfl rfl rfl rfl rfl (by decide) (s_Mflaw sta (d + 4) th tr wh dr (some p) F2 wd1 ac im lw tk st sh ru rz aw al sd c n 3 x2 hR2) (fun v w' h hp hk2 hv => ?_)
      obtain ⟨rfl, F3, hR3, rfl⟩ := hp
      have hv : mj_Vw h0 (wrd (mo th tr wh dr (some p) F3 wd1 ac im lw tk st sh ru rz aw al sd) c p told D MA nm) h := hv
      exact at41 F3 _ h hR3 (by cases x2 <;> exact trivial) (if_pos ⟨hov, cq⟩) hv
end Mln2
