/-! the reference: a man's line, any line, all -/
section Mln4
variable (sta : mj_S) (d : Nat) (th tr wh : Int32) (dr : Option Nat) (F : Nat → Int32) (wd : Int64) (ac im lw tk st : Int32) (sh ru : Int64) (rz aw al sd : Int32) (c : Nat → Nat) (n p : Nat) (told : Bool) (D : Nat → Nat) (MA : Nat → Nat → Nat) (nm : Nat → List Nat)
set_option maxHeartbeats 4000000 in
theorem s_MreadMan (i : Nat) (hk : knd c n i = 1) (hP : okP told D MA nm) (hn : n ≤ 800) (hc : bd 256 c) (hR : RdS c n (.inl i) F wd) : mj_Sx sta (d + 6) 189 [.ref 151] (wrd (mo th tr wh dr (some p) F wd ac im lw tk st sh ru rz aw al sd) c p told D MA nm) (fun v w => v = none ∧ mps (fun F wd => (mo th tr wh dr (some p) F wd ac im lw tk st sh ru rz aw al sd)) c n p (lS2 c n (lMan c n) (i, told, D, MA, nm)) w) := by
  refine mj_Sx.mk m_X10_readMan (by decide) n_X10_readMan rfl (fun h0 hv => ?_)
  generalize hT : mj_rx m_X10_readMan h0 _ _ = T
  obtain ⟨-, -, -, -, -, -, -, -, -, -, -, o1, o2, o3, -⟩ := alw_8
  have hP' := hP
  obtain ⟨⟨d0, d1, d3, d4, d5, d6, d7, d8, d2, a0, a1, a2, a3, a4, a5⟩, hP2, hP3, hP4⟩ := hP'
  have hin : i ≤ n := hR.2.2.1
  have htk := tkI_1 (told := told) (D := D) d0
  repeat (first | refine g_px rfl rfl rfl ?_ | refine g_get hv 0 rfl rfl rfl rfl ?_ | refine g_get hv 2 rfl rfl rfl rfl ?_)
  refine g_callV hv [0, 1, 2] 0 rfl rfl rfl rfl rfl rfl rfl rfl (by decide) (s_MlineBegins sta (d + 2) th tr wh dr F wd ac im lw tk st sh ru rz aw al sd c n (.inl i) p (D 1) 6 (tkI told D) D (hiI D) (erI D) (seI D) (by omega) (by decide) (show knd c n i ≠ 4 by omega) hn hc hR) (fun v w' h hp hk2 hv => ?_)
  obtain ⟨rfl, F1, wd1, hR1, rfl⟩ := hp
  have hv : mj_Vw h0 (wrd (mo th tr wh dr (some p) F1 wd1 ac im lw tk st sh ru rz aw al sd) c p told D MA nm) h := hv
  have ex1 : xgo c n (if tkI told D = -1 then xfl 6 (if D 1 = 6 then xfl 5 (.inl i) else .inl i) else (if D 1 = 6 then xfl 5 (.inl i) else .inl i)) = (if told = false then .inr (6, i) else if 6 ≤ D 1 then .inr (5, i) else .inl (nxt c n i)) := by
    cases told with
    | false =>
      have h8 := (hP2 rfl).1
      rw [if_pos (htk.mpr rfl), if_neg (by omega)]; rfl
    | true =>
      rw [if_neg (fun z => by have := htk.mp z; cases this), if_neg (c := true = false) (by decide)]
      by_cases h3 : D 1 = 6
      · rw [if_pos h3, if_pos (by omega)]; rfl
      · rw [if_neg h3, if_neg (by omega)]; rfl
  rw [ex1] at hR1
  generalize hx1 : (if told = false then (.inr (6, i) : XP) else if 6 ≤ D 1 then .inr (5, i) else .inl (nxt c n i)) = x1 at hR1
  -- behind the name's tests
  have at45 : ∀ F3 x3 h, RdS c n x3 F3 wd1 → xok c n x3 → (∀ j, x1 = .inl j → x3 = (if ¬ lkd c n j = 7 then .inr (1, j) else if (fnd nm (wl c n j) (D 1)).isSome then .inr (3, j) else .inl j)) → (∀ e, x1 = .inr e → x3 = .inr e) → mj_Vw h0 (wrd (mo th tr wh dr (some p) F3 wd1 ac im lw tk st sh ru rz aw al sd) c p told D MA nm) h → mj_go sta (mj_Cl sta (d + 5)) m_X10_readMan T 45 [some (.ref 151), none, none, none, none, none, none, none] [] h := by
    intro F3 x3 h hR3 hok3 he1 he2 hv
    refine g_run 1 rfl ?_
    refine g_get hv 0 rfl rfl rfl rfl ?_
    refine g_run 2 rfl ?_
    refine g_callV hv [0, 1] 0 rfl rfl rfl rfl rfl rfl rfl rfl (by decide) (s_MgoesOn sta (d + 3) th tr wh dr (some p) F3 wd1 ac im lw tk st sh ru rz aw al sd c n x3 hok3 hn hc hR3) (fun v w' h hp hk2 hv => ?_)
    obtain ⟨rfl, F4, wd4, hR4, rfl⟩ := hp
    have hv : mj_Vw h0 (wrd (mo th tr wh dr (some p) F4 wd4 ac im lw tk st sh ru rz aw al sd) c p told D MA nm) h := hv
    generalize hx4 : xgo c n x3 = x4 at hR4
    repeat (first | refine g_px rfl rfl rfl ?_)
    refine g_callV hv [0] 0 rfl rfl rfl rfl rfl rfl rfl rfl (by decide) (s_MsortAtHand sta (d + 1) th tr wh dr (some p) F4 wd4 ac im lw tk st sh ru rz aw al sd c n x4 hR4) (fun v w' h hp hk2 hv => ?_)
    obtain ⟨rfl, F5, hR5, rfl⟩ := hp
    have hv : mj_Vw h0 (wrd (mo th tr wh dr (some p) F5 wd4 ac im lw tk st sh ru rz aw al sd) c p told D MA nm) h := hv
    have hso := xsr_ok (c := c) (n := n) (x := x4)
    generalize hx5 : xsr c n x4 = y5 at *
    obtain ⟨so, x5⟩ := y5
    dsimp only at hR5 hso ⊢
    refine g_run 1 rfl ?_
    show mj_go sta (mj_Cl sta (d + 5)) m_X10_readMan T 59 [some (.ref 151), some (.long wd1), none, some (.int (nI so)), none, none, none, none] [] h
    repeat (first | refine g_px rfl rfl rfl ?_)
    refine g_callV hv [0, 1] 0 rfl rfl rfl rfl rfl rfl rfl rfl (by decide) (s_MgoesOn sta (d + 3) th tr wh dr (some p) F5 wd4 ac im lw tk st sh ru rz aw al sd c n x5 hso.1 hn hc hR5) (fun v w' h hp hk2 hv => ?_)
    obtain ⟨rfl, F6, wd6, hR6, rfl⟩ := hp
    have hv : mj_Vw h0 (wrd (mo th tr wh dr (some p) F6 wd6 ac im lw tk st sh ru rz aw al sd) c p told D MA nm) h := hv
    generalize hx6 : xgo c n x5 = x6 at hR6
    repeat (first | refine g_px rfl rfl rfl ?_)
    refine g_callV hv [0, 1] 0 rfl rfl rfl rfl rfl rfl rfl rfl (by decide) (s_MreadPart sta d th tr wh dr (some p) F6 wd6 ac im lw tk st sh ru rz aw al sd c n _ 29 _ w_worth 99 rfl rfl o1 (by decide) (by decide) hn hc hR6) (fun v w' h hp hk2 hv => ?_)
    obtain ⟨rfl, F7, wd7, hR7, rfl⟩ := hp
    have hv : mj_Vw h0 (wrd (mo th tr wh dr (some p) F7 wd7 ac im lw tk st sh ru rz aw al sd) c p told D MA nm) h := hv
    have hxe := xP_eq c n w_worth 99 x6
    rw [hxe.1]
    rw [hxe.2] at hR7
    have hb7 := xP_b (c := c) (ws := w_worth) (most := 99) hR6.le
    generalize hx7 : xP c n w_worth 99 x6 = y7 at *
    obtain ⟨v7, x7⟩ := y7
    dsimp only at hR7 hb7 ⊢
    refine g_run 1 rfl ?_
    show mj_go sta (mj_Cl sta (d + 5)) m_X10_readMan T 74 [some (.ref 151), some (.long wd1), none, some (.int (nI so)), some (.int (nI v7)), none, none, none] [] h
    repeat (first | refine g_px rfl rfl rfl ?_)
    refine g_callV hv [0, 1] 0 rfl rfl rfl rfl rfl rfl rfl rfl (by decide) (s_MreadPart sta d th tr wh dr (some p) F7 wd7 ac im lw tk st sh ru rz aw al sd c n _ 30 _ w_coins 200 rfl rfl o2 (by decide) (by decide) hn hc hR7) (fun v w' h hp hk2 hv => ?_)
    obtain ⟨rfl, F8, wd8, hR8, rfl⟩ := hp
    have hv : mj_Vw h0 (wrd (mo th tr wh dr (some p) F8 wd8 ac im lw tk st sh ru rz aw al sd) c p told D MA nm) h := hv
    have hxe := xP_eq c n w_coins 200 x7
    rw [hxe.1]
    rw [hxe.2] at hR8
    have hb8 := xP_b (c := c) (ws := w_coins) (most := 200) hR7.le
    generalize hx8 : xP c n w_coins 200 x7 = y8 at *
    obtain ⟨v8, x8⟩ := y8
    dsimp only at hR8 hb8 ⊢
    refine g_run 1 rfl ?_
    show mj_go sta (mj_Cl sta (d + 5)) m_X10_readMan T 86 [some (.ref 151), some (.long wd1), none, some (.int (nI so)), some (.int (nI v7)), some (.int (nI v8)), none, none] [] h
    repeat (first | refine g_px rfl rfl rfl ?_)
    refine g_callV hv [0, 1] 0 rfl rfl rfl rfl rfl rfl rfl rfl (by decide) (s_MreadPart sta d th tr wh dr (some p) F8 wd8 ac im lw tk st sh ru rz aw al sd c n _ 31 _ w_asks 99 rfl rfl o3 (by decide) (by decide) hn hc hR8) (fun v w' h hp hk2 hv => ?_)
    obtain ⟨rfl, F9, wd9, hR9, rfl⟩ := hp
    have hv : mj_Vw h0 (wrd (mo th tr wh dr (some p) F9 wd9 ac im lw tk st sh ru rz aw al sd) c p told D MA nm) h := hv
    have hxe := xP_eq c n w_asks 99 x8
    rw [hxe.1]
    rw [hxe.2] at hR9
    have hb9 := xP_b (c := c) (ws := w_asks) (most := 99) hR8.le
    generalize hx9 : xP c n w_asks 99 x8 = y9 at *
    obtain ⟨v9, x9⟩ := y9
    dsimp only at hR9 hb9 ⊢
    have h99 := hR9.over
    refine g_run 1 rfl ?_
    show mj_go sta (mj_Cl sta (d + 5)) m_X10_readMan T 97 [some (.ref 151), some (.long wd1), none, some (.int (nI so)), some (.int (nI v7)), some (.int (nI v8)), some (.int (nI v9)), none] [] h
    refine g_run 1 rfl ?_
    refine g_get hv 0 rfl rfl rfl rfl ?_
    refine g_run 1 rfl ?_
    have hl : (lS2 c n (lMan c n) (i, told, D, MA, nm) = match x9 with
      | .inr e => .inr e
      | .inl j => .inl (lMan3 c n (i, told, D, MA, nm) (nxt c n i) so v7 v8 v9 j)) ∧ ∀ j, x9 = .inl j → D 1 < 6 ∧ told = true ∧ so < 4 ∧ v7 ≤ 99 ∧ v8 ≤ 200 ∧ v9 ≤ 99 ∧ wd1 = lN (pkd (wl c n (nxt c n i))) ∧ knd c n (nxt c n i) = 1 := by
      unfold lS2
      cases told with
      | false =>
        rw [if_pos rfl] at hx1 ⊢
        have := he2 _ hx1.symm
        subst this
        cases hx4; cases hx5; cases hx6; cases hx7; cases hx8; cases hx9
        exact ⟨rfl, fun j h => by cases h⟩
      | true =>
        rw [if_neg (fun z => by cases z)] at hx1 ⊢
        show lMan c n (i, true, D, MA, nm) = _ ∧ _
        unfold lMan
        show (if 6 ≤ D 1 then Sum.inr (5, i) else if ¬ lkd c n (nxt c n i) = 7 then Sum.inr (1, nxt c n i) else if (fnd nm (wl c n (nxt c n i)) (D 1)).isSome then Sum.inr (3, nxt c n i) else match srt c n (nxt c n (nxt c n i)) with
          | none => Sum.inr (1, nxt c n (nxt c n i))
          | some so => match pP c n w_worth 99 (nxt c n (nxt c n (nxt c n i))) with
            | .inr e => Sum.inr e
            | .inl (wo, j1) => match pP c n w_coins 200 j1 with
              | .inr e => Sum.inr e
              | .inl (co, j2) => match pP c n w_asks 99 j2 with
                | .inr e => Sum.inr e
                | .inl (as, j3) => Sum.inl (lMan3 c n (i, true, D, MA, nm) (nxt c n i) so wo co as j3)) = _ ∧ _
        by_cases h3 : 6 ≤ D 1
        · rw [if_pos h3] at hx1 ⊢
          have := he2 _ hx1.symm
          subst this
          cases hx4; cases hx5; cases hx6; cases hx7; cases hx8; cases hx9
          exact ⟨rfl, fun j h => by cases h⟩
        · rw [if_neg h3] at hx1 ⊢
          have hx3 := he1 _ hx1.symm
          by_cases h7 : lkd c n (nxt c n i) = 7
          · rw [if_neg (not_not_intro h7)] at hx3 ⊢
            by_cases hf : (fnd nm (wl c n (nxt c n i)) (D 1)).isSome = true
            · rw [if_pos hf] at hx3 ⊢
              subst hx3
              cases hx4; cases hx5; cases hx6; cases hx7; cases hx8; cases hx9
              exact ⟨rfl, fun j h => by cases h⟩
            · rw [if_neg hf] at hx3 ⊢
              subst hx3
              have hk1 := lkd_1 c n (i := nxt c n i) (by omega)
              have hwd := hR3.2.2.2.2.2.2.2.1 hk1
              have hx4 : (Sum.inl (nxt c n (nxt c n i)) : XP) = x4 := hx4
              subst hx4
              have e5 : xsr c n (.inl (nxt c n (nxt c n i))) = match srt c n (nxt c n (nxt c n i)) with
                | some s => (s, .inl (nxt c n (nxt c n i)))
                | none => (0, .inr (1, nxt c n (nxt c n i))) := rfl
              rw [e5] at hx5
              cases hs : srt c n (nxt c n (nxt c n i)) with
              | none =>
                rw [hs] at hx5
                cases hx5; cases hx6; cases hx7; cases hx8; cases hx9
                exact ⟨rfl, fun j h => by cases h⟩
              | some s =>
                rw [hs] at hx5
                cases hx5
                have hs4 := (hso.2 _ rfl).2.2
                have hx6 : (Sum.inl (nxt c n (nxt c n (nxt c n i))) : XP) = x6 := hx6
                subst hx6
                rw [xP_i] at hx7
                dsimp only
                cases hp : pP c n w_worth 99 (nxt c n (nxt c n (nxt c n i))) with
                | inr e =>
                  rw [hp] at hx7
                  cases hx7; cases hx8; cases hx9
                  exact ⟨rfl, fun j h => by cases h⟩
                | inl q =>
                  rw [hp] at hx7
                  cases hx7
                  rw [xP_i] at hx8
                  dsimp only
                  cases hp2 : pP c n w_coins 200 q.2 with
                  | inr e =>
                    rw [hp2] at hx8
                    cases hx8; cases hx9
                    exact ⟨rfl, fun j h => by cases h⟩
                  | inl q2 =>
                    rw [hp2] at hx8
                    cases hx8
                    rw [xP_i] at hx9
                    dsimp only
                    cases hp3 : pP c n w_asks 99 q2.2 with
                    | inr e =>
                      rw [hp3] at hx9
                      cases hx9
                      exact ⟨rfl, fun j h => by cases h⟩
                    | inl q3 =>
                      rw [hp3] at hx9
                      cases hx9
                      exact ⟨rfl, fun j h => ⟨by omega, rfl, hs4, (hb7 _ rfl).2, (hb8 _ rfl).2, (hb9 _ rfl).2, hwd, hk1⟩⟩
          · rw [if_pos h7] at hx3 ⊢
            subst hx3
            cases hx4; cases hx5; cases hx6; cases hx7; cases hx8; cases hx9
            exact ⟨rfl, fun j h => by cases h⟩
    have hle := hR9.le
    refine g_ic rfl (fun cq => ?_) (fun cq => ?_)
    · have cq : ¬ F9 9 = 5 := cq
      rw [h99] at cq
      cases x9 with
      | inr e => exact absurd rfl cq
      | inl j =>
        obtain ⟨hm6, htd, hs4, q7, q8, q9, hwd, hk1⟩ := hl.2 j rfl
        have hl := hl.1
        have hwl := wl_al hk1
        rw [hwd]
        have enm : va_up (fun k => pkd (nm k)) (D 1) (pkd (wl c n (nxt c n i))) = (fun k => pkd (va_up nm (D 1) (wl c n (nxt c n i)) k)) := by
          funext k
          unfold va_up
          by_cases e : k = D 1
          · rw [if_pos e, if_pos e]
          · rw [if_neg e, if_neg e]
        refine g_run 1 rfl ?_
        refine g_get hv 0 rfl rfl rfl rfl ?_
        refine g_get hv 2 rfl rfl rfl rfl ?_
        refine g_run 1 rfl ?_
        show mj_go sta (mj_Cl sta (d + 5)) m_X10_readMan T 115 [some (.ref 151), some (.long (lN (pkd (wl c n (nxt c n i))))), none, some (.int (nI so)), some (.int (nI v7)), some (.int (nI v8)), some (.int (nI v9)), some (.int (nI (D 1)))] [] h
        repeat (first | refine g_px rfl rfl rfl ?_ | refine g_get hv 0 rfl rfl rfl rfl ?_ | refine g_get hv 2 rfl rfl rfl rfl ?_)
        refine g_lLs (y := pkd (wl c n (nxt c n i))) (L := 6) hv 8 (k := D 1) (by omega) (by decide) rfl rfl (fun h hv => ?_)
        rw [enm] at hv
        generalize hwn : va_up nm (D 1) (wl c n (nxt c n i)) = nm' at hv
        have hv : mj_Vw h0 (wrd (mo th tr wh dr (some p) F9 wd9 ac im lw tk st sh ru rz aw al sd) c p told D MA nm') h := hv
        repeat (first | refine g_px rfl rfl rfl ?_ | refine g_get hv 0 rfl rfl rfl rfl ?_ | refine g_get hv 2 rfl rfl rfl rfl ?_)
        refine g_nst hv 3 (show D 1 < 6 by omega) rfl rfl (fun h hv => ?_)
        have hv : mj_Vw h0 (wrd (mo th tr wh dr (some p) F9 wd9 ac im lw tk st sh ru rz aw al sd) c p told D (va_up MA 0 (va_up (MA 0) (D 1) so)) nm') h := hv
        repeat (first | refine g_px rfl rfl rfl ?_ | refine g_get hv 0 rfl rfl rfl rfl ?_ | refine g_get hv 2 rfl rfl rfl rfl ?_)
        refine g_nst hv 4 (show D 1 < 6 by omega) rfl rfl (fun h hv => ?_)
        have hv : mj_Vw h0 (wrd (mo th tr wh dr (some p) F9 wd9 ac im lw tk st sh ru rz aw al sd) c p told D (va_up (va_up MA 0 (va_up (MA 0) (D 1) so)) 1 (va_up (MA 1) (D 1) v7)) nm') h := hv
        repeat (first | refine g_px rfl rfl rfl ?_ | refine g_get hv 0 rfl rfl rfl rfl ?_ | refine g_get hv 2 rfl rfl rfl rfl ?_)
        refine g_nst hv 5 (show D 1 < 6 by omega) rfl rfl (fun h hv => ?_)
        have hv : mj_Vw h0 (wrd (mo th tr wh dr (some p) F9 wd9 ac im lw tk st sh ru rz aw al sd) c p told D (va_up (va_up (va_up MA 0 (va_up (MA 0) (D 1) so)) 1 (va_up (MA 1) (D 1) v7)) 2 (va_up (MA 2) (D 1) v8)) nm') h := hv
        repeat (first | refine g_px rfl rfl rfl ?_ | refine g_get hv 0 rfl rfl rfl rfl ?_ | refine g_get hv 2 rfl rfl rfl rfl ?_)
        refine g_nst hv 6 (show D 1 < 6 by omega) rfl rfl (fun h hv => ?_)
        have hv : mj_Vw h0 (wrd (mo th tr wh dr (some p) F9 wd9 ac im lw tk st sh ru rz aw al sd) c p told D (va_up (va_up (va_up (va_up MA 0 (va_up (MA 0) (D 1) so)) 1 (va_up (MA 1) (D 1) v7)) 2 (va_up (MA 2) (D 1) v8)) 3 (va_up (MA 3) (D 1) v9)) nm') h := hv
        refine g_run 1 rfl ?_
        refine g_get hv 0 rfl rfl rfl rfl ?_
        refine g_run 1 rfl ?_
        refine g_get hv 2 rfl rfl rfl rfl ?_
        refine g_run 2 rfl ?_
        rw [show nI (D 1) + Int32.ofInt 1 = nI (D 1 + 1) from (nI_succ _).symm]
        refine g_put hv 2 rfl rfl rfl rfl rfl rfl (fun h hv => ?_)
        have hv : mj_Vw h0 (wrd (mo th tr wh dr (some p) F9 wd9 ac im lw tk st sh ru rz aw al sd) c p told (va_up D 1 (D 1 + 1)) (va_up (va_up (va_up (va_up MA 0 (va_up (MA 0) (D 1) so)) 1 (va_up (MA 1) (D 1) v7)) 2 (va_up (MA 2) (D 1) v8)) 3 (va_up (MA 3) (D 1) v9)) nm') h := hv
        rw [← hwn] at hv
        subst hT
        refine g_vret hv rfl rfl rfl ⟨rfl, ?_⟩
        rw [hl]
        refine ⟨⟨⟨d0, (show D 1 + 1 ≤ 6 by omega), d3, d4, d5, d6, d7, d8, d2, up_bd a0 hs4, up_bd a1 (by omega), up_bd a2 (by omega), up_bd a3 (by omega), a4, a5⟩, (fun z => by rw [htd] at z; cases z), ?_, ?_⟩, hle j rfl, F9, wd9, hR9, rfl⟩
        · intro k hk'
          have hk' : k < D 1 + 1 := hk'
          show alw (va_up nm (D 1) (wl c n (nxt c n i)) k) ∧ (va_up nm (D 1) (wl c n (nxt c n i)) k).length ≤ 8
          unfold va_up
          by_cases e : k = D 1
          · rw [if_pos e]; exact hwl
          · rw [if_neg e]; exact hP3 k (by omega)
        · intro k hk'
          have := hP4 k hk'
          show MA 5 k < D 1 + 1
          omega
    · have cq : ¬ ¬ F9 9 = 5 := cq
      rw [h99, Decidable.not_not] at cq
      subst hT
      refine g_vret hv rfl rfl rfl ⟨rfl, ?_⟩
      cases x9 with
      | inl j => cases cq
      | inr e =>
        rw [hl.1]
        exact ⟨F9, wd9, told, D, MA, nm, hR9, rfl⟩
  have at25 : ∀ F2 x2 h, RdS c n x2 F2 wd1 → xok c n x2 → (if xnm c n x1 then x1 else xfl 1 x1) = x2 → mj_Vw h0 (wrd (mo th tr wh dr (some p) F2 wd1 ac im lw tk st sh ru rz aw al sd) c p told D MA nm) h → mj_go sta (mj_Cl sta (d + 5)) m_X10_readMan T 25 [some (.ref 151), none, none, none, none, none, none, none] [] h := by
    intro F2 x2 h hR2 hok2 he hv
    repeat (first | refine g_px rfl rfl rfl ?_ | refine g_get hv 0 rfl rfl rfl rfl ?_)
    refine g_callV hv [2, 8] 2 rfl rfl rfl rfl rfl rfl rfl rfl (by decide) (s_Mfind sta (d + 4) p (tkI told D) D (hiI D) (erI D) (seI D) nm wd1 d1) (fun v w' h hp hk2 hv => ?_)
    obtain ⟨rfl, rfl⟩ := hp
    have hv : mj_Vw h0 (wrd (mo th tr wh dr (some p) F2 wd1 ac im lw tk st sh ru rz aw al sd) c p told D MA nm) h := hv
    have hb := frsI_b (p := fun k => decide (lN (pkd (nm k)) = wd1)) (m := D 1)
    have hlv : ∀ j, x1 = .inl j → (lkd c n j = 7 ∧ x2 = .inl j ∧ frs (fun k => decide (lN (pkd (nm k)) = wd1)) (D 1) 0 = fnd nm (wl c n j) (D 1)) ∨ (¬ lkd c n j = 7 ∧ x2 = .inr (1, j)) := by
      intro j hj
      subst hj
      by_cases h7 : lkd c n j = 7
      · left
        rw [show xnm c n (.inl j) = true from decide_eq_true h7, if_pos rfl] at he
        subst he
        have hk1 := lkd_1 c n (i := j) (by omega)
        have hwd := hR1.2.2.2.2.2.2.2.1 hk1
        exact ⟨h7, rfl, by rw [hwd]; exact fnd_I hP3 (wl_al hk1)⟩
      · right
        rw [show xnm c n (.inl j) = false from decide_eq_false h7, if_neg (by decide)] at he
        exact ⟨h7, he.symm⟩
    have hov : ∀ e, x1 = .inr e → x2 = .inr e := by
      intro e hj
      subst hj
      exact he.symm
    repeat (first | refine g_px rfl rfl rfl ?_)
    refine g_ic rfl (fun cq => ?_) (fun cq => ?_)
    · have cq : fdI (frs (fun k => decide (lN (pkd (nm k)) = wd1)) (D 1) 0) = -1 := cq
      rw [fdI_1 (fun q hq => by have := hb q hq; omega)] at cq
      refine at45 F2 x2 h hR2 hok2 ?_ hov hv
      intro j hj
      rcases hlv j hj with ⟨h7, hx, hf⟩ | ⟨h7, hx⟩
      · rw [if_neg (not_not_intro h7), ← hf, cq, if_neg (by decide)]
        exact hx
      · rw [if_pos h7]
        exact hx
    · have cq : ¬ fdI (frs (fun k => decide (lN (pkd (nm k)) = wd1)) (D 1) 0) = -1 := cq
      rw [fdI_1 (fun q hq => by have := hb q hq; omega)] at cq
      repeat (first | refine g_px rfl rfl rfl ?_)
      refine g_callV hv [0] 0 rfl rfl rfl rfl rfl rfl rfl rfl (by decide) (s_Mflaw sta (d + 4) th tr wh dr (some p) F2 wd1 ac im lw tk st sh ru rz aw al sd c n 3 x2 hR2) (fun v w' h hp hk2 hv => ?_)
      obtain ⟨rfl, F3, hR3, rfl⟩ := hp
      have hv : mj_Vw h0 (wrd (mo th tr wh dr (some p) F3 wd1 ac im lw tk st sh ru rz aw al sd) c p told D MA nm) h := hv
      refine at45 F3 _ h hR3 (by cases x2 <;> exact trivial) ?_ (fun e hj => by rw [hov e hj]; rfl) hv
      intro j hj
      rcases hlv j hj with ⟨h7, hx, hf⟩ | ⟨h7, hx⟩
      · rw [if_neg (not_not_intro h7), ← hf, if_pos (by
          cases ho : frs (fun k => decide (lN (pkd (nm k)) = wd1)) (D 1) 0 with
          | none => exact absurd ho cq
          | some y => rfl), hx]
        rfl
      · rw [if_pos h7, hx]
        rfl
  repeat (first | refine g_px rfl rfl rfl ?_)
  refine g_callV hv [0] 0 rfl rfl rfl rfl rfl rfl rfl rfl (by decide) (s_MisName sta (d + 1) th tr wh dr (some p) F1 wd1 ac im lw tk st sh ru rz aw al sd c n x1 hR1) (fun v w' h hp hk2 hv => ?_)
  obtain ⟨rfl, rfl⟩ := hp
  have hv : mj_Vw h0 (wrd (mo th tr wh dr (some p) F1 wd1 ac im lw tk st sh ru rz aw al sd) c p told D MA nm) h := hv
  refine g_if rfl (fun cq => ?_) (fun cq => ?_)
  · have cq : ¬ bl (xnm c n x1) = 0 := cq
    rw [bl_0, Bool.not_eq_false] at cq
    refine at25 F1 x1 h hR1 ?_ (if_pos cq) hv
    cases x1 with
    | inr e => trivial
    | inl j =>
      have h7 : lkd c n j = 7 := of_decide_eq_true cq
      have := lkd_1 c n (i := j) (by omega)
      exact show knd c n j ≠ 4 by omega
  · have cq : ¬ ¬ bl (xnm c n x1) = 0 := cq
    rw [bl_0, Decidable.not_not] at cq
    repeat (first | refine g_px rfl rfl rfl ?_)
    refine g_callV hv [0] 0 rfl rfl rfl rfl rfl rfl rfl rfl (by decide) (s_Mflaw sta (d + 4) th tr wh dr (some p) F1 wd1 ac im lw tk st sh ru rz aw al sd c n 1 x1 hR1) (fun v w' h hp hk2 hv => ?_)
    obtain ⟨rfl, F2, hR2, rfl⟩ := hp
    have hv : mj_Vw h0 (wrd (mo th tr wh dr (some p) F2 wd1 ac im lw tk st sh ru rz aw al sd) c p told D MA nm) h := hv
    exact at25 F2 _ h hR2 (by cases x1 <;> exact trivial) (by rw [cq, if_neg (by decide)]) hv
theorem s_MreadLine (i : Nat) (hP : okP told D MA nm) (hn : n ≤ 800) (hc : bd 256 c) (hR : RdS c n (.inl i) F wd) : mj_Sx sta (d + 7) 187 [.ref 151] (wrd (mo th tr wh dr (some p) F wd ac im lw tk st sh ru rz aw al sd) c p told D MA nm) (fun v w => v = none ∧ mps (fun F wd => (mo th tr wh dr (some p) F wd ac im lw tk st sh ru rz aw al sd)) c n p (lLine c n (i, told, D, MA, nm)) w) := by
  refine mj_Sx.mk m_X10_readLine (by decide) n_X10_readLine rfl (fun h0 hv => ?_)
  generalize hT : mj_rx m_X10_readLine h0 _ _ = T
  obtain ⟨o1, o2, o3, o4, o5, o6, -⟩ := alw_8
  have hl : lLine c n (i, told, D, MA, nm) = if lkd c n i = 0 ∨ lkd c n i = 7 then .inr (1, i) else if lkd c n i = 1 then lTakes c n (i, told, D, MA, nm) else if lkd c n i = 2 then lS2 c n (lMan c n) (i, told, D, MA, nm) else if lkd c n i = 3 then lS2 c n (lKin c n) (i, told, D, MA, nm) else if lkd c n i = 4 then lS2 c n (lSpares c n) (i, told, D, MA, nm) else if lkd c n i = 5 then lS2 c n (lDoctor c n) (i, told, D, MA, nm) else lS2 c n (lWent c n) (i, told, D, MA, nm) := by
    unfold lLine lS2
    show (if lkd c n i = 0 ∨ lkd c n i = 7 then Sum.inr (1, i) else if lkd c n i = 1 then lTakes c n (i, told, D, MA, nm) else if told = false then Sum.inr (6, i) else if lkd c n i = 2 then lMan c n (i, told, D, MA, nm) else if lkd c n i = 3 then lKin c n (i, told, D, MA, nm) else if lkd c n i = 4 then lSpares c n (i, told, D, MA, nm) else if lkd c n i = 5 then lDoctor c n (i, told, D, MA, nm) else lWent c n (i, told, D, MA, nm)) = _
    by_cases h1 : lkd c n i = 0 ∨ lkd c n i = 7
    · rw [if_pos h1, if_pos h1]
    · rw [if_neg h1, if_neg h1]
      by_cases h2 : lkd c n i = 1
      · rw [if_pos h2, if_pos h2]
      · rw [if_neg h2, if_neg h2]
        cases told with
        | true =>
          rw [if_neg (by decide)]
          rfl
        | false =>
          rw [if_pos rfl]
          show _ = if lkd c n i = 2 then Sum.inr (6, i) else if lkd c n i = 3 then Sum.inr (6, i) else if lkd c n i = 4 then Sum.inr (6, i) else if lkd c n i = 5 then Sum.inr (6, i) else Sum.inr (6, i)
          repeat' split
          all_goals rfl
  unfold lkd at hl
  have hx : ∀ ws, xis c n ws (.inl i) = isW c n i ws := fun ws => rfl
  repeat (first | refine g_px rfl rfl rfl ?_)
  refine g_callV hv [0] 0 rfl rfl rfl rfl rfl rfl rfl rfl (by decide) (s_MisWord sta (d + 3) th tr wh dr (some p) F wd ac im lw tk st sh ru rz aw al sd c n (.inl i) 18 _ w_draft rfl rfl o1 (by decide) hR) (fun v w' h hp hk2 hv => ?_)
  obtain ⟨rfl, rfl⟩ := hp
  have hv : mj_Vw h0 (wrd (mo th tr wh dr (some p) F wd ac im lw tk st sh ru rz aw al sd) c p told D MA nm) h := hv
  rw [hx]
  refine g_if rfl (fun cq => ?_) (fun cq => ?_)
  rotate_left
  · have cq : ¬ bl (isW c n i w_draft) = 0 := cq
    rw [bl_0, Bool.not_eq_false] at cq
    have hk1 := isW_1 cq
    rw [if_neg (c := ¬ knd c n i = 1) (not_not_intro hk1)] at hl
    rw [cq] at hl
    repeat (first | refine g_px rfl rfl rfl ?_)
    have hv : mj_Vw h0 (wrd (mo th tr wh dr (some p) F wd ac im lw tk st sh ru rz aw al sd) c p told D MA nm ++ []) h := by rw [List.append_nil]; exact hv
    refine g_callVp hv 0 rfl rfl rfl rfl rfl rfl (s_MreadDraft sta d th tr wh dr F wd ac im lw tk st sh ru rz aw al sd c n p told D MA nm i hk1 hP hn hc hR) (fun v w' h hp hk2 hv => ?_)
    obtain ⟨rfl, hm⟩ := hp
    rw [List.append_nil] at hv
    refine g_run 1 rfl ?_
    subst hT
    refine g_vret (w := w') hv rfl rfl hk2 ⟨rfl, ?_⟩
    rw [hl]
    exact hm
  have cq : bl (isW c n i w_draft) = 0 := cq
  rw [bl_0] at cq
  have q_draft := cq
  repeat (first | refine g_px rfl rfl rfl ?_)
  refine g_callV hv [0] 0 rfl rfl rfl rfl rfl rfl rfl rfl (by decide) (s_MisWord sta (d + 3) th tr wh dr (some p) F wd ac im lw tk st sh ru rz aw al sd c n (.inl i) 20 _ w_man rfl rfl o2 (by decide) hR) (fun v w' h hp hk2 hv => ?_)
  obtain ⟨rfl, rfl⟩ := hp
  have hv : mj_Vw h0 (wrd (mo th tr wh dr (some p) F wd ac im lw tk st sh ru rz aw al sd) c p told D MA nm) h := hv
  rw [hx]
  refine g_if rfl (fun cq => ?_) (fun cq => ?_)
  rotate_left
  · have cq : ¬ bl (isW c n i w_man) = 0 := cq
    rw [bl_0, Bool.not_eq_false] at cq
    have hk1 := isW_1 cq
    rw [if_neg (c := ¬ knd c n i = 1) (not_not_intro hk1)] at hl
    rw [q_draft] at hl
    rw [cq] at hl
    repeat (first | refine g_px rfl rfl rfl ?_)
    have hv : mj_Vw h0 (wrd (mo th tr wh dr (some p) F wd ac im lw tk st sh ru rz aw al sd) c p told D MA nm ++ []) h := by rw [List.append_nil]; exact hv
    refine g_callVp hv 0 rfl rfl rfl rfl rfl rfl (s_MreadMan sta d th tr wh dr F wd ac im lw tk st sh ru rz aw al sd c n p told D MA nm i hk1 hP hn hc hR) (fun v w' h hp hk2 hv => ?_)
    obtain ⟨rfl, hm⟩ := hp
    rw [List.append_nil] at hv
    refine g_run 1 rfl ?_
    subst hT
    refine g_vret (w := w') hv rfl rfl hk2 ⟨rfl, ?_⟩
    rw [hl]
    exact hm
  have cq : bl (isW c n i w_man) = 0 := cq
  rw [bl_0] at cq
  have q_man := cq
  repeat (first | refine g_px rfl rfl rfl ?_)
  refine g_callV hv [0] 0 rfl rfl rfl rfl rfl rfl rfl rfl (by decide) (s_MisWord sta (d + 3) th tr wh dr (some p) F wd ac im lw tk st sh ru rz aw al sd c n (.inl i) 21 _ w_kin rfl rfl o3 (by decide) hR) (fun v w' h hp hk2 hv => ?_)
  obtain ⟨rfl, rfl⟩ := hp
  have hv : mj_Vw h0 (wrd (mo th tr wh dr (some p) F wd ac im lw tk st sh ru rz aw al sd) c p told D MA nm) h := hv
  rw [hx]
  refine g_if rfl (fun cq => ?_) (fun cq => ?_)
  rotate_left
  · have cq : ¬ bl (isW c n i w_kin) = 0 := cq
    rw [bl_0, Bool.not_eq_false] at cq
    have hk1 := isW_1 cq
    rw [if_neg (c := ¬ knd c n i = 1) (not_not_intro hk1)] at hl
    rw [q_draft] at hl
    rw [q_man] at hl
    rw [cq] at hl
    repeat (first | refine g_px rfl rfl rfl ?_)
    have hv : mj_Vw h0 (wrd (mo th tr wh dr (some p) F wd ac im lw tk st sh ru rz aw al sd) c p told D MA nm ++ []) h := by rw [List.append_nil]; exact hv
    refine g_callVp hv 0 rfl rfl rfl rfl rfl rfl (s_MreadKin sta d th tr wh dr F wd ac im lw tk st sh ru rz aw al sd c n p told D MA nm i hk1 hP hn hc hR) (fun v w' h hp hk2 hv => ?_)
    obtain ⟨rfl, hm⟩ := hp
    rw [List.append_nil] at hv
    refine g_run 1 rfl ?_
    subst hT
    refine g_vret (w := w') hv rfl rfl hk2 ⟨rfl, ?_⟩
    rw [hl]
    exact hm
  have cq : bl (isW c n i w_kin) = 0 := cq
  rw [bl_0] at cq
  have q_kin := cq
  repeat (first | refine g_px rfl rfl rfl ?_)
  refine g_callV hv [0] 0 rfl rfl rfl rfl rfl rfl rfl rfl (by decide) (s_MisWord sta (d + 3) th tr wh dr (some p) F wd ac im lw tk st sh ru rz aw al sd c n (.inl i) 22 _ w_spares rfl rfl o4 (by decide) hR) (fun v w' h hp hk2 hv => ?_)
  obtain ⟨rfl, rfl⟩ := hp
  have hv : mj_Vw h0 (wrd (mo th tr wh dr (some p) F wd ac im lw tk st sh ru rz aw al sd) c p told D MA nm) h := hv
  rw [hx]
  refine g_if rfl (fun cq => ?_) (fun cq => ?_)
  rotate_left
  · have cq : ¬ bl (isW c n i w_spares) = 0 := cq
    rw [bl_0, Bool.not_eq_false] at cq
    have hk1 := isW_1 cq
    rw [if_neg (c := ¬ knd c n i = 1) (not_not_intro hk1)] at hl
    rw [q_draft] at hl
    rw [q_man] at hl
    rw [q_kin] at hl
    rw [cq] at hl
    repeat (first | refine g_px rfl rfl rfl ?_)
    have hv : mj_Vw h0 (wrd (mo th tr wh dr (some p) F wd ac im lw tk st sh ru rz aw al sd) c p told D MA nm ++ []) h := by rw [List.append_nil]; exact hv
    refine g_callVp hv 0 rfl rfl rfl rfl rfl rfl (s_MreadSpares sta (d + 1) th tr wh dr F wd ac im lw tk st sh ru rz aw al sd c n p told D MA nm i hk1 hP hn hc hR) (fun v w' h hp hk2 hv => ?_)
    obtain ⟨rfl, hm⟩ := hp
    rw [List.append_nil] at hv
    refine g_run 1 rfl ?_
    subst hT
    refine g_vret (w := w') hv rfl rfl hk2 ⟨rfl, ?_⟩
    rw [hl]
    exact hm
  have cq : bl (isW c n i w_spares) = 0 := cq
  rw [bl_0] at cq
  have q_spares := cq
  repeat (first | refine g_px rfl rfl rfl ?_)
  refine g_callV hv [0] 0 rfl rfl rfl rfl rfl rfl rfl rfl (by decide) (s_MisWord sta (d + 3) th tr wh dr (some p) F wd ac im lw tk st sh ru rz aw al sd c n (.inl i) 23 _ w_doctor rfl rfl o5 (by decide) hR) (fun v w' h hp hk2 hv => ?_)
  obtain ⟨rfl, rfl⟩ := hp
  have hv : mj_Vw h0 (wrd (mo th tr wh dr (some p) F wd ac im lw tk st sh ru rz aw al sd) c p told D MA nm) h := hv
  rw [hx]
  refine g_if rfl (fun cq => ?_) (fun cq => ?_)
  rotate_left
  · have cq : ¬ bl (isW c n i w_doctor) = 0 := cq
    rw [bl_0, Bool.not_eq_false] at cq
    have hk1 := isW_1 cq
    rw [if_neg (c := ¬ knd c n i = 1) (not_not_intro hk1)] at hl
    rw [q_draft] at hl
    rw [q_man] at hl
    rw [q_kin] at hl
    rw [q_spares] at hl
    rw [cq] at hl
    repeat (first | refine g_px rfl rfl rfl ?_)
    have hv : mj_Vw h0 (wrd (mo th tr wh dr (some p) F wd ac im lw tk st sh ru rz aw al sd) c p told D MA nm ++ []) h := by rw [List.append_nil]; exact hv
    refine g_callVp hv 0 rfl rfl rfl rfl rfl rfl (s_MreadDoctor sta d th tr wh dr F wd ac im lw tk st sh ru rz aw al sd c n p told D MA nm i hk1 hP hn hc hR) (fun v w' h hp hk2 hv => ?_)
    obtain ⟨rfl, hm⟩ := hp
    rw [List.append_nil] at hv
    refine g_run 1 rfl ?_
    subst hT
    refine g_vret (w := w') hv rfl rfl hk2 ⟨rfl, ?_⟩
    rw [hl]
    exact hm
  have cq : bl (isW c n i w_doctor) = 0 := cq
  rw [bl_0] at cq
  have q_doctor := cq
  repeat (first | refine g_px rfl rfl rfl ?_)
  refine g_callV hv [0] 0 rfl rfl rfl rfl rfl rfl rfl rfl (by decide) (s_MisWord sta (d + 3) th tr wh dr (some p) F wd ac im lw tk st sh ru rz aw al sd c n (.inl i) 24 _ w_went rfl rfl o6 (by decide) hR) (fun v w' h hp hk2 hv => ?_)
  obtain ⟨rfl, rfl⟩ := hp
  have hv : mj_Vw h0 (wrd (mo th tr wh dr (some p) F wd ac im lw tk st sh ru rz aw al sd) c p told D MA nm) h := hv
  rw [hx]
  refine g_if rfl (fun cq => ?_) (fun cq => ?_)
  rotate_left
  · have cq : ¬ bl (isW c n i w_went) = 0 := cq
    rw [bl_0, Bool.not_eq_false] at cq
    have hk1 := isW_1 cq
    rw [if_neg (c := ¬ knd c n i = 1) (not_not_intro hk1)] at hl
    rw [q_draft] at hl
    rw [q_man] at hl
    rw [q_kin] at hl
    rw [q_spares] at hl
    rw [q_doctor] at hl
    rw [cq] at hl
    repeat (first | refine g_px rfl rfl rfl ?_)
    have hv : mj_Vw h0 (wrd (mo th tr wh dr (some p) F wd ac im lw tk st sh ru rz aw al sd) c p told D MA nm ++ []) h := by rw [List.append_nil]; exact hv
    refine g_callVp hv 0 rfl rfl rfl rfl rfl rfl (s_MreadWent sta d th tr wh dr F wd ac im lw tk st sh ru rz aw al sd c n p told D MA nm i hk1 hP hn hc hR) (fun v w' h hp hk2 hv => ?_)
    obtain ⟨rfl, hm⟩ := hp
    rw [List.append_nil] at hv
    refine g_run 1 rfl ?_
    subst hT
    refine g_vret (w := w') hv rfl rfl hk2 ⟨rfl, ?_⟩
    rw [hl]
    exact hm
  have cq : bl (isW c n i w_went) = 0 := cq
  rw [bl_0] at cq
  have q_went := cq
  repeat (first | refine g_px rfl rfl rfl ?_)
  refine g_callV hv [0] 0 rfl rfl rfl rfl rfl rfl rfl rfl (by decide) (s_Mflaw sta (d + 5) th tr wh dr (some p) F wd ac im lw tk st sh ru rz aw al sd c n 1 (.inl i) hR) (fun v w' h hp hk2 hv => ?_)
  obtain ⟨rfl, F1, hR1, rfl⟩ := hp
  have hv : mj_Vw h0 (wrd (mo th tr wh dr (some p) F1 wd ac im lw tk st sh ru rz aw al sd) c p told D MA nm) h := hv
  subst hT
  refine g_vret hv rfl rfl rfl ⟨rfl, ?_⟩
  have hl2 : lLine c n (i, told, D, MA, nm) = .inr (1, i) := by
    rw [hl]
    refine if_pos ?_
    by_cases hk1 : knd c n i = 1
    · right
      rw [if_neg (not_not_intro hk1), q_draft, if_neg (by decide), q_man, if_neg (by decide), q_kin, if_neg (by decide), q_spares, if_neg (by decide), q_doctor, if_neg (by decide), q_went, if_neg (by decide)]
    · left
      rw [if_pos hk1]
  rw [hl2]
  exact ⟨F1, wd, told, D, MA, nm, hR1, rfl⟩
end Mln4
theorem pP_ge {c : Nat → Nat} {n : Nat} {ws : List Nat} {most i : Nat} {q : Nat × Nat} (hi : i ≤ n) (h : pP c n ws most i = .inl q) : i ≤ q.2 := by
  unfold pP pW at h
  by_cases hw : isW c n i ws = true
  · rw [if_pos hw] at h
    have h1 := nxt_ge c n hi
    have h : pN c n most (nxt c n i) = .inl q := h
    unfold pN at h
    split at h
    · split at h
      · cases h
        have h2 := nxt_ge c n h1.2
        show i ≤ nxt c n (nxt c n i)
        omega
      · cases h
    · cases h
  · rw [if_neg hw] at h
    cases h
