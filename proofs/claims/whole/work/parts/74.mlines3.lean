/-! the reference: doctor, kin -/
theorem xP_i {c : Nat → Nat} {n : Nat} {ws : List Nat} {most i : Nat} : xP c n ws most (.inl i) = match pP c n ws most i with
    | .inl q => (q.1, .inl q.2)
    | .inr e => (0, .inr e) := rfl
section Mln3
variable (sta : mj_S) (d : Nat) (th tr wh : Int32) (dr : Option Nat) (F : Nat → Int32) (wd : Int64) (ac im lw tk st : Int32) (sh ru : Int64) (rz aw al sd : Int32) (c : Nat → Nat) (n p : Nat) (told : Bool) (D : Nat → Nat) (MA : Nat → Nat → Nat) (nm : Nat → List Nat)
theorem s_MreadDoctor (i : Nat) (hk : knd c n i = 1) (hP : okP told D MA nm) (hn : n ≤ 800) (hc : bd 256 c) (hR : RdS c n (.inl i) F wd) : mj_Sx sta (d + 6) 192 [.ref 151] (wrd (mo th tr wh dr (some p) F wd ac im lw tk st sh ru rz aw al sd) c p told D MA nm) (fun v w => v = none ∧ mps (fun F wd => (mo th tr wh dr (some p) F wd ac im lw tk st sh ru rz aw al sd)) c n p (lS2 c n (lDoctor c n) (i, told, D, MA, nm)) w) := by
  refine mj_Sx.mk m_X10_readDoctor (by decide) n_X10_readDoctor rfl (fun h0 hv => ?_)
  generalize hT : mj_rx m_X10_readDoctor h0 _ _ = T
  obtain ⟨-, -, -, -, -, -, -, -, -, -, -, -, -, -, o1, o2, o3⟩ := alw_8
  have hP' := hP
  obtain ⟨⟨d0, d1, d3, d4, d5, d6, d7, d8, d2, a0, a1, a2, a3, a4, a5⟩, hP2, hP3, hP4⟩ := hP'
  have hin : i ≤ n := hR.2.2.1
  have htk := tkI_1 (told := told) (D := D) d0
  have hhi := hiI_1 (D := D) d5
  have at16 : ∀ F0 x0 h, RdS c n x0 F0 wd → xok c n x0 → (if D 4 = 0 then .inl i else xfl 3 (.inl i)) = x0 → mj_Vw h0 (wrd (mo th tr wh dr (some p) F0 wd ac im lw tk st sh ru rz aw al sd) c p told D MA nm) h → mj_go sta (mj_Cl sta (d + 5)) m_X10_readDoctor T 16 [some (.ref 151), none, none, none] [] h := by
    intro F0 x0 h hR0 hok he hv
    repeat (first | refine g_px rfl rfl rfl ?_)
    refine g_callV hv [0, 1, 2] 0 rfl rfl rfl rfl rfl rfl rfl rfl (by decide) (s_MlineBegins sta (d + 2) th tr wh dr F0 wd ac im lw tk st sh ru rz aw al sd c n x0 p 0 1 (tkI told D) D (hiI D) (erI D) (seI D) (by decide) (by decide) hok hn hc hR0) (fun v w' h hp hk2 hv => ?_)
    obtain ⟨rfl, F1, wd1, hR1, rfl⟩ := hp
    have hv : mj_Vw h0 (wrd (mo th tr wh dr (some p) F1 wd1 ac im lw tk st sh ru rz aw al sd) c p told D MA nm) h := hv
    have ex1 : xgo c n (if tkI told D = -1 then xfl 6 (if (0 : Nat) = 1 then xfl 5 x0 else x0) else (if (0 : Nat) = 1 then xfl 5 x0 else x0)) = (if told = false then .inr (6, i) else if D 4 = 0 then .inl (nxt c n i) else .inr (3, i)) := by
      subst he
      rw [if_neg (c := (0 : Nat) = 1) (by decide)]
      cases told with
      | false =>
        have h4 := (hP2 rfl).2.2.1
        rw [if_pos (htk.mpr rfl), if_pos h4]; rfl
      | true =>
        rw [if_neg (fun z => by have := htk.mp z; cases this), if_neg (c := true = false) (by decide)]
        by_cases h4 : D 4 = 0
        · rw [if_pos h4, if_pos h4]; rfl
        · rw [if_neg h4, if_neg h4]; rfl
    rw [ex1] at hR1
    generalize hx1 : (if told = false then (.inr (6, i) : XP) else if D 4 = 0 then .inl (nxt c n i) else .inr (3, i)) = x1 at hR1
    repeat (first | refine g_px rfl rfl rfl ?_)
    refine g_callV hv [0, 1] 0 rfl rfl rfl rfl rfl rfl rfl rfl (by decide) (s_MreadPart sta d th tr wh dr (some p) F1 wd1 ac im lw tk st sh ru rz aw al sd c n _ 32 _ w_hits 100 rfl rfl o1 (by decide) (by decide) hn hc hR1) (fun v w' h hp hk2 hv => ?_)
    obtain ⟨rfl, F2, wd2, hR2, rfl⟩ := hp
    have hv : mj_Vw h0 (wrd (mo th tr wh dr (some p) F2 wd2 ac im lw tk st sh ru rz aw al sd) c p told D MA nm) h := hv
    have hxe := xP_eq c n w_hits 100 x1
    rw [hxe.1]
    rw [hxe.2] at hR2
    have hb2 := xP_b (c := c) (ws := w_hits) (most := 100) hR1.le
    generalize hx2 : xP c n w_hits 100 x1 = y2 at *
    obtain ⟨v2, x2⟩ := y2
    dsimp only at hR2 hb2 ⊢
    repeat (first | refine g_px rfl rfl rfl ?_)
    refine g_callV hv [0, 1] 0 rfl rfl rfl rfl rfl rfl rfl rfl (by decide) (s_MreadPart sta d th tr wh dr (some p) F2 wd2 ac im lw tk st sh ru rz aw al sd c n _ 33 _ w_errs 100 rfl rfl o2 (by decide) (by decide) hn hc hR2) (fun v w' h hp hk2 hv => ?_)
    obtain ⟨rfl, F3, wd3, hR3, rfl⟩ := hp
    have hv : mj_Vw h0 (wrd (mo th tr wh dr (some p) F3 wd3 ac im lw tk st sh ru rz aw al sd) c p told D MA nm) h := hv
    have hxe := xP_eq c n w_errs 100 x2
    rw [hxe.1]
    rw [hxe.2] at hR3
    have hb3 := xP_b (c := c) (ws := w_errs) (most := 100) hR2.le
    generalize hx3 : xP c n w_errs 100 x2 = y3 at *
    obtain ⟨v3, x3⟩ := y3
    dsimp only at hR3 hb3 ⊢
    repeat (first | refine g_px rfl rfl rfl ?_)
    refine g_callV hv [0, 1] 0 rfl rfl rfl rfl rfl rfl rfl rfl (by decide) (s_MreadPart sta d th tr wh dr (some p) F3 wd3 ac im lw tk st sh ru rz aw al sd c n _ 34 _ w_share 100 rfl rfl o3 (by decide) (by decide) hn hc hR3) (fun v w' h hp hk2 hv => ?_)
    obtain ⟨rfl, F4, wd4, hR4, rfl⟩ := hp
    have hv : mj_Vw h0 (wrd (mo th tr wh dr (some p) F4 wd4 ac im lw tk st sh ru rz aw al sd) c p told D MA nm) h := hv
    have hxe := xP_eq c n w_share 100 x3
    rw [hxe.1]
    rw [hxe.2] at hR4
    have hb4 := xP_b (c := c) (ws := w_share) (most := 100) hR3.le
    generalize hx4 : xP c n w_share 100 x3 = y4 at *
    obtain ⟨v4, x4⟩ := y4
    dsimp only at hR4 hb4 ⊢
    have h9 := hR4.over
    refine g_run 2 rfl ?_
    refine g_get hv 0 rfl rfl rfl rfl ?_
    refine g_run 1 rfl ?_
    have hl : (lS2 c n (lDoctor c n) (i, told, D, MA, nm) = match x4 with
      | .inr e => .inr e
      | .inl j => .inl (j, told, va_up (va_up (va_up (va_up D 4 1) 5 v2) 6 v3) 7 v4, MA, nm)) ∧ ∀ j, x4 = .inl j → v2 ≤ 100 ∧ v3 ≤ 100 ∧ v4 ≤ 100 ∧ told = true := by
      unfold lS2
      cases told with
      | false =>
        rw [if_pos rfl] at hx1 ⊢
        subst hx1
        cases hx2; cases hx3; cases hx4
        exact ⟨rfl, fun j h => by cases h⟩
      | true =>
        rw [if_neg (fun z => by cases z)] at hx1 ⊢
        show lDoctor c n (i, true, D, MA, nm) = _ ∧ _
        unfold lDoctor
        show (if ¬ D 4 = 0 then Sum.inr (3, i) else match pP c n w_hits 100 (nxt c n i) with
          | .inr e => Sum.inr e
          | .inl (x, j1) => match pP c n w_errs 100 j1 with
            | .inr e => Sum.inr e
            | .inl (y, j2) => match pP c n w_share 100 j2 with
              | .inr e => Sum.inr e
              | .inl (z, j3) => Sum.inl (j3, true, va_up (va_up (va_up (va_up D 4 1) 5 x) 6 y) 7 z, MA, nm)) = _ ∧ _
        by_cases h4 : D 4 = 0
        · rw [if_pos h4] at hx1
          rw [if_neg (not_not_intro h4)]
          subst hx1
          rw [xP_i] at hx2
          cases hp : pP c n w_hits 100 (nxt c n i) with
          | inr e =>
            rw [hp] at hx2
            cases hx2; cases hx3; cases hx4
            exact ⟨rfl, fun j h => by cases h⟩
          | inl q =>
            rw [hp] at hx2
            cases hx2
            rw [xP_i] at hx3
            dsimp only
            cases hp2 : pP c n w_errs 100 q.2 with
            | inr e =>
              rw [hp2] at hx3
              cases hx3; cases hx4
              exact ⟨rfl, fun j h => by cases h⟩
            | inl q2 =>
              rw [hp2] at hx3
              cases hx3
              rw [xP_i] at hx4
              dsimp only
              cases hp3 : pP c n w_share 100 q2.2 with
              | inr e =>
                rw [hp3] at hx4
                cases hx4
                exact ⟨rfl, fun j h => by cases h⟩
              | inl q3 =>
                rw [hp3] at hx4
                cases hx4
                exact ⟨rfl, fun j h => ⟨(hb2 _ rfl).2, (hb3 _ rfl).2, (hb4 _ rfl).2, rfl⟩⟩
        · rw [if_neg h4] at hx1
          rw [if_pos h4]
          subst hx1
          cases hx2; cases hx3; cases hx4
          exact ⟨rfl, fun j h => by cases h⟩
    have hle := hR4.le
    refine g_ic rfl (fun cq => ?_) (fun cq => ?_)
    · have cq : ¬ F4 9 = 5 := cq
      rw [h9] at cq
      cases x4 with
      | inr e => exact absurd rfl cq
      | inl j =>
        obtain ⟨q1, q2, q3, htd⟩ := hl.2 j rfl
        refine g_run 1 rfl ?_
        refine g_get hv 0 rfl rfl rfl rfl ?_
        refine g_run 1 rfl ?_
        refine g_put hv 2 rfl rfl rfl rfl rfl rfl (fun h hv => ?_)
        refine g_run 1 rfl ?_
        refine g_get hv 0 rfl rfl rfl rfl ?_
        refine g_run 1 rfl ?_
        refine g_put hv 2 rfl rfl rfl rfl rfl rfl (fun h hv => ?_)
        refine g_run 1 rfl ?_
        refine g_get hv 0 rfl rfl rfl rfl ?_
        refine g_run 1 rfl ?_
        refine g_put hv 2 rfl rfl rfl rfl rfl rfl (fun h hv => ?_)
        have hv : mj_Vw h0 (wrd (mo th tr wh dr (some p) F4 wd4 ac im lw tk st sh ru rz aw al sd) c p told (va_up (va_up (va_up (va_up D 4 1) 5 v2) 6 v3) 7 v4) MA nm) h := hv
        subst hT
        refine g_vret hv rfl rfl rfl ⟨rfl, ?_⟩
        rw [hl.1]
        exact ⟨⟨⟨d0, d1, d3, Nat.le_refl 1, q1, q2, q3, d8, d2, a0, a1, a2, a3, a4, a5⟩, (fun z => by rw [htd] at z; cases z), hP3, hP4⟩, hle j rfl, F4, wd4, hR4, rfl⟩
    · have cq : ¬ ¬ F4 9 = 5 := cq
      rw [h9, Decidable.not_not] at cq
      subst hT
      refine g_vret hv rfl rfl rfl ⟨rfl, ?_⟩
      cases x4 with
      | inl j => cases cq
      | inr e =>
        rw [hl.1]
        exact ⟨F4, wd4, told, D, MA, nm, hR4, rfl⟩
  repeat (first | refine g_px rfl rfl rfl ?_ | refine g_get hv 0 rfl rfl rfl rfl ?_ | refine g_get hv 2 rfl rfl rfl rfl ?_)
  refine g_ic rfl (fun cq => ?_) (fun cq => ?_)
  · have cq : hiI D = -1 := cq
    rw [hhi] at cq
    exact at16 F (.inl i) h0 hR (show knd c n i ≠ 4 by omega) (if_pos cq) hv
  · have cq : ¬ hiI D = -1 := cq
    rw [hhi] at cq
    repeat (first | refine g_px rfl rfl rfl ?_)
    refine g_callV hv [0] 0 rfl rfl rfl rfl rfl rfl rfl rfl (by decide) (s_Mflaw sta (d + 4) th tr wh dr (some p) F wd ac im lw tk st sh ru rz aw al sd c n 3 (.inl i) hR) (fun v w' h hp hk2 hv => ?_)
    obtain ⟨rfl, F1, hR1, rfl⟩ := hp
    have hv : mj_Vw h0 (wrd (mo th tr wh dr (some p) F1 wd ac im lw tk st sh ru rz aw al sd) c p told D MA nm) h := hv
    exact at16 F1 _ h hR1 trivial (if_neg cq) hv
theorem s_MreadKin (i : Nat) (hk : knd c n i = 1) (hP : okP told D MA nm) (hn : n ≤ 800) (hc : bd 256 c) (hR : RdS c n (.inl i) F wd) : mj_Sx sta (d + 6) 190 [.ref 151] (wrd (mo th tr wh dr (some p) F wd ac im lw tk st sh ru rz aw al sd) c p told D MA nm) (fun v w => v = none ∧ mps (fun F wd => (mo th tr wh dr (some p) F wd ac im lw tk st sh ru rz aw al sd)) c n p (lS2 c n (lKin c n) (i, told, D, MA, nm)) w) := by
  refine mj_Sx.mk m_X10_readKin (by decide) n_X10_readKin rfl (fun h0 hv => ?_)
  generalize hT : mj_rx m_X10_readKin h0 _ _ = T
  have hP' := hP
  obtain ⟨⟨d0, d1, d3, d4, d5, d6, d7, d8, d2, a0, a1, a2, a3, a4, a5⟩, hP2, hP3, hP4⟩ := hP'
  have hin : i ≤ n := hR.2.2.1
  have htk := tkI_1 (told := told) (D := D) d0
  repeat (first | refine g_px rfl rfl rfl ?_ | refine g_get hv 0 rfl rfl rfl rfl ?_ | refine g_get hv 2 rfl rfl rfl rfl ?_)
  refine g_callV hv [0, 1, 2] 0 rfl rfl rfl rfl rfl rfl rfl rfl (by decide) (s_MlineBegins sta (d + 2) th tr wh dr F wd ac im lw tk st sh ru rz aw al sd c n (.inl i) p (D 2) 6 (tkI told D) D (hiI D) (erI D) (seI D) (by omega) (by decide) (show knd c n i ≠ 4 by omega) hn hc hR) (fun v w' h hp hk2 hv => ?_)
  obtain ⟨rfl, F1, wd1, hR1, rfl⟩ := hp
  have hv : mj_Vw h0 (wrd (mo th tr wh dr (some p) F1 wd1 ac im lw tk st sh ru rz aw al sd) c p told D MA nm) h := hv
  have ex1 : xgo c n (if tkI told D = -1 then xfl 6 (if D 2 = 6 then xfl 5 (.inl i) else .inl i) else (if D 2 = 6 then xfl 5 (.inl i) else .inl i)) = (if told = false then .inr (6, i) else if 6 ≤ D 2 then .inr (5, i) else .inl (nxt c n i)) := by
    cases told with
    | false =>
      have h8 := (hP2 rfl).2.1
      rw [if_pos (htk.mpr rfl), if_neg (by omega)]; rfl
    | true =>
      rw [if_neg (fun z => by have := htk.mp z; cases this), if_neg (c := true = false) (by decide)]
      by_cases h3 : D 2 = 6
      · rw [if_pos h3, if_pos (by omega)]; rfl
      · rw [if_neg h3, if_neg (by omega)]; rfl
  rw [ex1] at hR1
  generalize hx1 : (if told = false then (.inr (6, i) : XP) else if 6 ≤ D 2 then .inr (5, i) else .inl (nxt c n i)) = x1 at hR1
  repeat (first | refine g_px rfl rfl rfl ?_)
  refine g_callV hv [0, 2, 8] 0 rfl rfl rfl rfl rfl rfl rfl rfl (by decide) (s_MknownMan sta d th tr wh dr F1 wd1 ac im lw tk st sh ru rz aw al sd c n x1 p (tkI told D) D (hiI D) (erI D) (seI D) nm d1 hP3 hR1) (fun v w' h hp hk2 hv => ?_)
  obtain ⟨rfl, F2, hR2, rfl⟩ := hp
  have hv : mj_Vw h0 (wrd (mo th tr wh dr (some p) F2 wd1 ac im lw tk st sh ru rz aw al sd) c p told D MA nm) h := hv
  have hso := xkm_ok (c := c) (n := n) (nm := nm) (m := D 1) (x := x1)
  generalize hx2 : xkm c n nm (D 1) x1 = y2 at *
  obtain ⟨m, x2⟩ := y2
  dsimp only at hR2 hso ⊢
  repeat (first | refine g_px rfl rfl rfl ?_)
  refine g_callV hv [0, 1] 0 rfl rfl rfl rfl rfl rfl rfl rfl (by decide) (s_MgoesOn sta (d + 3) th tr wh dr (some p) F2 wd1 ac im lw tk st sh ru rz aw al sd c n x2 hso.1 hn hc hR2) (fun v w' h hp hk2 hv => ?_)
  obtain ⟨rfl, F3, wd3, hR3, rfl⟩ := hp
  have hv : mj_Vw h0 (wrd (mo th tr wh dr (some p) F3 wd3 ac im lw tk st sh ru rz aw al sd) c p told D MA nm) h := hv
  generalize hx3 : xgo c n x2 = x3 at hR3
  repeat (first | refine g_px rfl rfl rfl ?_)
  refine g_callV hv [0, 2, 8] 0 rfl rfl rfl rfl rfl rfl rfl rfl (by decide) (s_MknownMan sta d th tr wh dr F3 wd3 ac im lw tk st sh ru rz aw al sd c n x3 p (tkI told D) D (hiI D) (erI D) (seI D) nm d1 hP3 hR3) (fun v w' h hp hk2 hv => ?_)
  obtain ⟨rfl, F4, hR4, rfl⟩ := hp
  have hv : mj_Vw h0 (wrd (mo th tr wh dr (some p) F4 wd3 ac im lw tk st sh ru rz aw al sd) c p told D MA nm) h := hv
  have hsp := xkm_ok (c := c) (n := n) (nm := nm) (m := D 1) (x := x3)
  generalize hx4 : xkm c n nm (D 1) x3 = y4 at *
  obtain ⟨o, x4⟩ := y4
  dsimp only at hR4 hsp ⊢
  have h9 := hR4.over
  have hlive : ∀ j, x4 = .inl j → m < D 1 ∧ o < D 1 := by
    intro j hj
    have h1 := hsp.2.1 j hj
    refine ⟨?_, h1.2.2⟩
    cases hx : x2 with
    | inr e => rw [hx] at hx3; rw [← hx3] at h1; cases h1.1
    | inl y => exact (hso.2.1 y hx).2.2
  have at61 : ∀ F5 x5 h, RdS c n x5 F5 wd3 → xok c n x5 → (if xov x4 = false ∧ (m = o ∨ (MA 4 m).testBit o = true) then xfl 3 x4 else x4) = x5 → mj_Vw h0 (wrd (mo th tr wh dr (some p) F5 wd3 ac im lw tk st sh ru rz aw al sd) c p told D MA nm) h → mj_go sta (mj_Cl sta (d + 5)) m_X10_readKin T 61 [some (.ref 151), some (.int (nI m)), some (.int (nI o))] [] h := by
    intro F5 x5 h hR5 hok5 he hv
    repeat (first | refine g_px rfl rfl rfl ?_)
    refine g_callV hv [0, 1] 0 rfl rfl rfl rfl rfl rfl rfl rfl (by decide) (s_MgoesOn sta (d + 3) th tr wh dr (some p) F5 wd3 ac im lw tk st sh ru rz aw al sd c n x5 hok5 hn hc hR5) (fun v w' h hp hk2 hv => ?_)
    obtain ⟨rfl, F6, wd6, hR6, rfl⟩ := hp
    have hv : mj_Vw h0 (wrd (mo th tr wh dr (some p) F6 wd6 ac im lw tk st sh ru rz aw al sd) c p told D MA nm) h := hv
    have h96 := hR6.over
    refine g_run 1 rfl ?_
    refine g_get hv 0 rfl rfl rfl rfl ?_
    refine g_run 1 rfl ?_
    have hl : (lS2 c n (lKin c n) (i, told, D, MA, nm) = match xgo c n x5 with
      | .inr e => .inr e
      | .inl j => .inl (j, told, va_up D 2 (D 2 + 1), va_up MA 4 (va_up (va_up (MA 4) m (MA 4 m ||| 2 ^ o)) o (va_up (MA 4) m (MA 4 m ||| 2 ^ o) o ||| 2 ^ m)), nm)) ∧ ∀ j, xgo c n x5 = .inl j → D 2 < 6 ∧ m < D 1 ∧ o < D 1 ∧ told = true := by
      subst he
      unfold lS2
      cases told with
      | false =>
        rw [if_pos rfl] at hx1 ⊢
        subst hx1
        cases hx2; cases hx3; cases hx4
        exact ⟨rfl, fun j h => by cases h⟩
      | true =>
        rw [if_neg (fun z => by cases z)] at hx1 ⊢
        show lKin c n (i, true, D, MA, nm) = _ ∧ _
        unfold lKin
        show (if 6 ≤ D 2 then Sum.inr (5, i) else match pM c n nm (D 1) (nxt c n i) with
          | .inr e => Sum.inr e
          | .inl x => match pM c n nm (D 1) (nxt c n (nxt c n i)) with
            | .inr e => Sum.inr e
            | .inl y => if x = y ∨ (MA 4 x).testBit y = true then Sum.inr (3, nxt c n (nxt c n i)) else Sum.inl (nxt c n (nxt c n (nxt c n i)), true, va_up D 2 (D 2 + 1), va_up MA 4 (va_up (va_up (MA 4) x (MA 4 x ||| 2 ^ y)) y (va_up (MA 4) x (MA 4 x ||| 2 ^ y) y ||| 2 ^ x)), nm)) = _ ∧ _
        by_cases h3 : 6 ≤ D 2
        · rw [if_pos h3] at hx1 ⊢
          subst hx1
          cases hx2; cases hx3; cases hx4
          exact ⟨rfl, fun j h => by cases h⟩
        · rw [if_neg h3] at hx1 ⊢
          subst hx1
          have e2 : xkm c n nm (D 1) (.inl (nxt c n i)) = match pM c n nm (D 1) (nxt c n i) with
            | .inl k => (k, .inl (nxt c n i))
            | .inr e => (0, .inr e) := rfl
          rw [e2] at hx2
          cases hs : pM c n nm (D 1) (nxt c n i) with
          | inr e =>
            rw [hs] at hx2
            cases hx2; cases hx3; cases hx4
            exact ⟨rfl, fun j h => by cases h⟩
          | inl s =>
            rw [hs] at hx2
            cases hx2
            have hx3 : (Sum.inl (nxt c n (nxt c n i)) : XP) = x3 := hx3
            subst hx3
            have e3 : xkm c n nm (D 1) (.inl (nxt c n (nxt c n i))) = match pM c n nm (D 1) (nxt c n (nxt c n i)) with
              | .inl k => (k, .inl (nxt c n (nxt c n i)))
              | .inr e => (0, .inr e) := rfl
            rw [e3] at hx4
            dsimp only
            cases hs2 : pM c n nm (D 1) (nxt c n (nxt c n i)) with
            | inr e =>
              rw [hs2] at hx4
              cases hx4
              exact ⟨rfl, fun j h => by cases h⟩
            | inl s2 =>
              rw [hs2] at hx4
              cases hx4
              have hm6 := hlive _ rfl
              by_cases hb : m = o ∨ (MA 4 m).testBit o = true
              · rw [if_pos ⟨rfl, hb⟩]
                dsimp only
                rw [if_pos hb]
                exact ⟨rfl, fun j h => by cases h⟩
              · rw [if_neg (fun z => hb z.2)]
                dsimp only
                rw [if_neg hb]
                exact ⟨rfl, fun j h => ⟨by omega, hm6.1, hm6.2, rfl⟩⟩
    have hle := hR6.le
    generalize xgo c n x5 = x6 at *
    refine g_ic rfl (fun cq => ?_) (fun cq => ?_)
    · have cq : ¬ F6 9 = 5 := cq
      rw [h96] at cq
      cases x6 with
      | inr e => exact absurd rfl cq
      | inl j =>
        obtain ⟨h83, hm6, ho6, htd⟩ := hl.2 j rfl
        have hl := hl.1
        repeat (first | refine g_px rfl rfl rfl ?_ | refine g_get hv 0 rfl rfl rfl rfl ?_ | refine g_get hv 2 rfl rfl rfl rfl ?_)
        refine g_n6 hv 7 (show m < 6 by omega) rfl rfl ?_
        refine g_run 3 rfl ?_
        rw [k_shl (show o < 31 by omega)]
        refine g_run 1 rfl ?_
        rw [fa_or]
        refine g_nst hv 7 (show m < 6 by omega) rfl rfl (fun h hv => ?_)
        have hv : mj_Vw h0 (wrd (mo th tr wh dr (some p) F6 wd6 ac im lw tk st sh ru rz aw al sd) c p told D (va_up MA 4 (va_up (MA 4) m (MA 4 m ||| 2 ^ o))) nm) h := hv
        repeat (first | refine g_px rfl rfl rfl ?_ | refine g_get hv 0 rfl rfl rfl rfl ?_ | refine g_get hv 2 rfl rfl rfl rfl ?_)
        refine g_n6 hv 7 (show o < 6 by omega) rfl rfl ?_
        refine g_run 3 rfl ?_
        rw [k_shl (show m < 31 by omega)]
        refine g_run 1 rfl ?_
        rw [fa_or]
        refine g_nst hv 7 (show o < 6 by omega) rfl rfl (fun h hv => ?_)
        refine g_run 1 rfl ?_
        refine g_get hv 0 rfl rfl rfl rfl ?_
        refine g_run 1 rfl ?_
        refine g_get hv 2 rfl rfl rfl rfl ?_
        refine g_run 2 rfl ?_
        rw [show nI (D 2) + Int32.ofInt 1 = nI (D 2 + 1) from (nI_succ _).symm]
        refine g_put hv 2 rfl rfl rfl rfl rfl rfl (fun h hv => ?_)
        have hv : mj_Vw h0 (wrd (mo th tr wh dr (some p) F6 wd6 ac im lw tk st sh ru rz aw al sd) c p told (va_up D 2 (D 2 + 1)) (va_up MA 4 (va_up (va_up (MA 4) m (MA 4 m ||| 2 ^ o)) o (va_up (MA 4) m (MA 4 m ||| 2 ^ o) o ||| 2 ^ m))) nm) h := hv
        subst hT
        refine g_vret hv rfl rfl rfl ⟨rfl, ?_⟩
        rw [hl]
        have hb4 : bd 64 (va_up (MA 4) m (MA 4 m ||| 2 ^ o)) := up_bd a4 (bt_lt _ (a4 m) _ (by omega))
        exact ⟨⟨⟨d0, d1, d3, d4, d5, d6, d7, d8, (show D 2 + 1 ≤ 6 by omega), a0, a1, a2, a3, up_bd hb4 (bt_lt _ (hb4 o) _ (by omega)), a5⟩, (fun z => by rw [htd] at z; cases z), hP3, hP4⟩, hle j rfl, F6, wd6, hR6, rfl⟩
    · have cq : ¬ ¬ F6 9 = 5 := cq
      rw [h96, Decidable.not_not] at cq
      subst hT
      refine g_vret hv rfl rfl rfl ⟨rfl, ?_⟩
      cases x6 with
      | inl j => cases cq
      | inr e =>
        rw [hl.1]
        exact ⟨F6, wd6, told, D, MA, nm, hR6, rfl⟩
  have at56 : ∀ h, xov x4 = false → (m = o ∨ (MA 4 m).testBit o = true) → mj_Vw h0 (wrd (mo th tr wh dr (some p) F4 wd3 ac im lw tk st sh ru rz aw al sd) c p told D MA nm) h → mj_go sta (mj_Cl sta (d + 5)) m_X10_readKin T 56 [some (.ref 151), some (.int (nI m)), some (.int (nI o))] [] h := by
    intro h hov hb hv
    repeat (first | refine g_px rfl rfl rfl ?_)
    refine g_callV hv [0] 0 rfl rfl rfl rfl rfl rfl rfl rfl (by decide) (s_Mflaw sta (d + 4) th tr wh dr (some p) F4 wd3 ac im lw tk st sh ru rz aw al sd c n 3 x4 hR4) (fun v w' h hp hk2 hv => ?_)
    obtain ⟨rfl, F5, hR5, rfl⟩ := hp
    have hv : mj_Vw h0 (wrd (mo th tr wh dr (some p) F5 wd3 ac im lw tk st sh ru rz aw al sd) c p told D MA nm) h := hv
    exact at61 F5 _ h hR5 (by cases x4 <;> exact trivial) (if_pos ⟨hov, hb⟩) hv
  refine g_run 2 rfl ?_
  refine g_get hv 0 rfl rfl rfl rfl ?_
  refine g_run 1 rfl ?_
  refine g_ic rfl (fun cq => ?_) (fun cq => ?_)
  · have cq : F4 9 = 5 := cq
    rw [h9] at cq
    exact at61 F4 x4 h hR4 hsp.1 (if_neg (fun z => by rw [cq] at z; cases z.1)) hv
  · have cq : ¬ F4 9 = 5 := cq
    rw [h9, Bool.not_eq_true] at cq
    have hov := cq
    have hmo : m < D 1 ∧ o < D 1 := by
      cases hx : x4 with
      | inr e => rw [hx] at cq; cases cq
      | inl y => exact hlive y hx
    have hkm := a4 m
    repeat (first | refine g_px rfl rfl rfl ?_)
    refine g_ic rfl (fun cq => ?_) (fun cq => ?_)
    · have cq : nI m = nI o := cq
      rw [nI_eq (by omega) (by omega)] at cq
      exact at56 h hov (Or.inl cq) hv
    · have cq : ¬ nI m = nI o := cq
      rw [nI_eq (by omega) (by omega)] at cq
      have hne := cq
      repeat (first | refine g_px rfl rfl rfl ?_ | refine g_get hv 0 rfl rfl rfl rfl ?_ | refine g_get hv 2 rfl rfl rfl rfl ?_)
      refine g_n6 hv 7 (show m < 6 by omega) rfl rfl ?_
      repeat (first | refine g_px rfl rfl rfl ?_)
      refine g_callS hv [] rfl rfl rfl rfl rfl rfl rfl (by decide) (s_Mbit sta (d + 4) (MA 4 m) o (by omega) (by omega)) (fun v w' h hp hk2 hv => ?_)
      obtain ⟨rfl, rfl⟩ := hp
      have hv : mj_Vw h0 (wrd (mo th tr wh dr (some p) F4 wd3 ac im lw tk st sh ru rz aw al sd) c p told D MA nm) h := hv
      refine g_if rfl (fun cq => ?_) (fun cq => ?_)
      · have cq : bl ((MA 4 m).testBit o) = 0 := cq
        rw [bl_0] at cq
        exact at61 F4 x4 h hR4 hsp.1 (if_neg (fun z => z.2.elim hne (fun z => by rw [cq] at z; cases z))) hv
      · have cq : ¬ bl ((MA 4 m).testBit o) = 0 := cq
        rw [bl_0, Bool.not_eq_false] at cq
        exact at56 h hov (Or.inr cq) hv
end Mln3
