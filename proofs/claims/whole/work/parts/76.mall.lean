/-! the reference: all lines; what is fed -/
section Ge
variable {c : Nat → Nat} {n : Nat}
theorem pP_gb {ws : List Nat} {most i : Nat} {q : Nat × Nat} (hi : i ≤ n) (h : pP c n ws most i = .inl q) : i ≤ q.2 ∧ q.2 ≤ n := ⟨pP_ge hi h, (pP_b hi h).1⟩
theorem lTakes_ge {s t : PS} (hs : s.1 ≤ n) (h : lTakes c n s = .inl t) : s.1 ≤ t.1 := by
  unfold lTakes at h
  have h1 := nxt_ge c n hs
  split at h
  · cases h
  · cases hp : pP c n w_takes 5 (nxt c n s.1) with
    | inr e => rw [hp] at h; cases h
    | inl q =>
      have := pP_gb h1.2 hp
      rw [hp] at h
      cases h
      show s.1 ≤ q.2
      omega
theorem lMan_ge {s t : PS} (hs : s.1 ≤ n) (h : lMan c n s = .inl t) : s.1 ≤ t.1 := by
  unfold lMan at h
  have h1 := nxt_ge c n hs
  have h2 := nxt_ge c n h1.2
  have h3 := nxt_ge c n h2.2
  split at h
  · cases h
  · split at h
    · cases h
    · split at h
      · cases h
      · cases hs2 : srt c n (nxt c n (nxt c n s.1)) with
        | none => rw [hs2] at h; cases h
        | some so =>
          rw [hs2] at h
          dsimp only at h
          cases hp : pP c n w_worth 99 (nxt c n (nxt c n (nxt c n s.1))) with
          | inr e => rw [hp] at h; cases h
          | inl q =>
            have g1 := pP_gb h3.2 hp
            rw [hp] at h
            dsimp only at h
            cases hp2 : pP c n w_coins 200 q.2 with
            | inr e => rw [hp2] at h; cases h
            | inl q2 =>
              have g2 := pP_gb g1.2 hp2
              rw [hp2] at h
              dsimp only at h
              cases hp3 : pP c n w_asks 99 q2.2 with
              | inr e => rw [hp3] at h; cases h
              | inl q3 =>
                have g3 := pP_gb g2.2 hp3
                rw [hp3] at h
                cases h
                show s.1 ≤ q3.2
                omega
theorem lKin_ge {s t : PS} (hs : s.1 ≤ n) (h : lKin c n s = .inl t) : s.1 ≤ t.1 := by
  unfold lKin at h
  have h1 := nxt_ge c n hs
  have h2 := nxt_ge c n h1.2
  have h3 := nxt_ge c n h2.2
  split at h
  · cases h
  · cases hp : pM c n s.2.2.2.2 (s.2.2.1 1) (nxt c n s.1) with
    | inr e => rw [hp] at h; cases h
    | inl q =>
      rw [hp] at h
      dsimp only at h
      cases hp2 : pM c n s.2.2.2.2 (s.2.2.1 1) (nxt c n (nxt c n s.1)) with
      | inr e => rw [hp2] at h; cases h
      | inl q2 =>
        rw [hp2] at h
        dsimp only at h
        split at h
        · cases h
        · cases h
          show s.1 ≤ nxt c n (nxt c n (nxt c n s.1))
          omega
theorem lSpares_ge {s t : PS} (hs : s.1 ≤ n) (h : lSpares c n s = .inl t) : s.1 ≤ t.1 := by
  unfold lSpares at h
  have h1 := nxt_ge c n hs
  have h2 := nxt_ge c n h1.2
  cases hs2 : srt c n (nxt c n s.1) with
  | none => rw [hs2] at h; cases h
  | some so =>
    rw [hs2] at h
    dsimp only at h
    split at h
    · cases h
    · cases h
      show s.1 ≤ nxt c n (nxt c n s.1)
      omega
theorem lDoctor_ge {s t : PS} (hs : s.1 ≤ n) (h : lDoctor c n s = .inl t) : s.1 ≤ t.1 := by
  unfold lDoctor at h
  have h1 := nxt_ge c n hs
  split at h
  · cases h
  · cases hp : pP c n w_hits 100 (nxt c n s.1) with
    | inr e => rw [hp] at h; cases h
    | inl q =>
      have g1 := pP_gb h1.2 hp
      rw [hp] at h
      dsimp only at h
      cases hp2 : pP c n w_errs 100 q.2 with
      | inr e => rw [hp2] at h; cases h
      | inl q2 =>
        have g2 := pP_gb g1.2 hp2
        rw [hp2] at h
        dsimp only at h
        cases hp3 : pP c n w_share 100 q2.2 with
        | inr e => rw [hp3] at h; cases h
        | inl q3 =>
          have g3 := pP_gb g2.2 hp3
          rw [hp3] at h
          cases h
          show s.1 ≤ q3.2
          omega
theorem lWent_ge {s t : PS} (hs : s.1 ≤ n) (h : lWent c n s = .inl t) : s.1 ≤ t.1 := by
  unfold lWent at h
  have h1 := nxt_ge c n hs
  have h2 := nxt_ge c n h1.2
  split at h
  · cases h
  · cases hp : pM c n s.2.2.2.2 (s.2.2.1 1) (nxt c n s.1) with
    | inr e => rw [hp] at h; cases h
    | inl q =>
      rw [hp] at h
      dsimp only at h
      split at h
      · cases h
      · cases h
        show s.1 ≤ nxt c n (nxt c n s.1)
        omega
theorem lLine_ge {s t : PS} (hs : s.1 ≤ n) (h : lLine c n s = .inl t) : s.1 ≤ t.1 := by
  unfold lLine at h
  split at h
  · cases h
  · split at h
    · exact lTakes_ge hs h
    · split at h
      · cases h
      · split at h
        · exact lMan_ge hs h
        · split at h
          · exact lKin_ge hs h
          · split at h
            · exact lSpares_ge hs h
            · split at h
              · exact lDoctor_ge hs h
              · exact lWent_ge hs h
theorem lAll_pos : ∀ {f : Nat} {s t : PS}, lAll c n f s = .inl t → 0 < t.2.2.1 1
  | 0, s, t, h => by cases h
  | f + 1, s, t, h => by
    rw [lAll] at h
    cases hl : lLine c n s with
    | inr e => rw [hl] at h; cases h
    | inl u =>
      rw [hl] at h
      dsimp only at h
      split at h
      · split at h
        · rename_i hp; cases h; exact hp
        · cases h
      · split at h
        · cases h
        · exact lAll_pos h
end Ge
section Mal
variable (sta : mj_S) (d : Nat) (th tr wh : Int32) (dr : Option Nat) (F : Nat → Int32) (wd : Int64) (ac im lw tk st : Int32) (sh ru : Int64) (rz aw al sd : Int32) (c : Nat → Nat) (n p : Nat) (told : Bool) (D : Nat → Nat) (MA : Nat → Nat → Nat) (nm : Nat → List Nat)
theorem s_MreadAll (f i : Nat) (hf : n - i < f) (hP : okP told D MA nm) (hn : n ≤ 800) (hc : bd 256 c) (hR : RdS c n (.inl i) F wd) : mj_Sx sta (d + 8) 186 [.ref 151] (wrd (mo th tr wh dr (some p) F wd ac im lw tk st sh ru rz aw al sd) c p told D MA nm) (fun v w => v = none ∧ mps (fun F wd => (mo th tr wh dr (some p) F wd ac im lw tk st sh ru rz aw al sd)) c n p (lAll c n f (i, told, D, MA, nm)) w) := by
  refine mj_Sx.mk m_X10_readAll (by decide) n_X10_readAll rfl (fun h0 hv => ?_)
  generalize hT : mj_rx m_X10_readAll h0 _ _ = T
  generalize hA : lAll c n f (i, told, D, MA, nm) = A at hT
  have over : ∀ (e : FP) F wd told D MA nm h, RdS c n (.inr e) F wd → A = .inr e → mj_Vw h0 (wrd (mo th tr wh dr (some p) F wd ac im lw tk st sh ru rz aw al sd) c p told D MA nm) h → mj_go sta (mj_Cl sta (d + 7)) m_X10_readAll T 18 [some (.ref 151), some (.int 0)] [] h := by
    intro e F wd told D MA nm h hR he hv
    have h9 : F 9 = 5 := hR.2.2.1
    have fin : ∀ F h, RdS c n (.inr e) F wd → mj_Vw h0 (wrd (mo th tr wh dr (some p) F wd ac im lw tk st sh ru rz aw al sd) c p told D MA nm) h → mj_go sta (mj_Cl sta (d + 7)) m_X10_readAll T 47 [some (.ref 151), some (.int 0)] [] h := by
      intro F h hR hv
      subst hT
      refine g_vret hv rfl rfl rfl ⟨rfl, ?_⟩
      rw [he]
      exact ⟨F, wd, told, D, MA, nm, hR, rfl⟩
    repeat (first | refine g_px rfl rfl rfl ?_ | refine g_get hv 0 rfl rfl rfl rfl ?_)
    rw [h9]
    refine g_ic rfl (fun cq => absurd cq (cpF (by decide))) (fun cq => ?_)
    repeat (first | refine g_px rfl rfl rfl ?_)
    refine g_callV hv [0] 0 rfl rfl rfl rfl rfl rfl rfl rfl (by decide) (s_Mflaw sta (d + 6) th tr wh dr (some p) F wd ac im lw tk st sh ru rz aw al sd c n 1 (.inr e) hR) (fun v w' h hp hk2 hv => ?_)
    obtain ⟨rfl, F1, hR1, rfl⟩ := hp
    have hv : mj_Vw h0 (wrd (mo th tr wh dr (some p) F1 wd ac im lw tk st sh ru rz aw al sd) c p told D MA nm) h := hv
    repeat (first | refine g_px rfl rfl rfl ?_ | refine g_get hv 0 rfl rfl rfl rfl ?_ | refine g_get hv 2 rfl rfl rfl rfl ?_)
    refine g_if rfl (fun cq => ?_) (fun cq => ?_)
    · exact fin F1 h hR1 hv
    · repeat (first | refine g_px rfl rfl rfl ?_)
      refine g_callV hv [0] 0 rfl rfl rfl rfl rfl rfl rfl rfl (by decide) (s_Mflaw sta (d + 6) th tr wh dr (some p) F1 wd ac im lw tk st sh ru rz aw al sd c n 6 (.inr e) hR1) (fun v w' h hp hk2 hv => ?_)
      obtain ⟨rfl, F2, hR2, rfl⟩ := hp
      have hv : mj_Vw h0 (wrd (mo th tr wh dr (some p) F2 wd ac im lw tk st sh ru rz aw al sd) c p told D MA nm) h := hv
      exact fin F2 h hR2 hv
  have live : ∀ (t : PS) F wd h, okP t.2.1 t.2.2.1 t.2.2.2.1 t.2.2.2.2 → RdS c n (.inl t.1) F wd → A = (if knd c n t.1 = 0 then (if 0 < t.2.2.1 1 then .inl t else .inr (6, t.1)) else .inr (1, t.1)) → mj_Vw h0 (wrd (mo th tr wh dr (some p) F wd ac im lw tk st sh ru rz aw al sd) c p t.2.1 t.2.2.1 t.2.2.2.1 t.2.2.2.2) h → mj_go sta (mj_Cl sta (d + 7)) m_X10_readAll T 18 [some (.ref 151), some (.int 0)] [] h := by
    rintro ⟨j, told, D, MA, nm⟩ F wd h hP hR he hv
    dsimp only at hP hR he hv
    have hm6 := hP.1.2.1
    have hR2 := hR
    obtain ⟨r1, r2, b1, b2, b3, b4, b5, b6, b7⟩ := hR2
    repeat (first | refine g_px rfl rfl rfl ?_ | refine g_get hv 0 rfl rfl rfl rfl ?_)
    rw [b2]
    refine g_ic rfl (fun cq => ?_) (fun cq => ?_)
    · have cq : nI (mk_ (knd c n j)) = nI 1 := cq
      rw [mk_eq _ (knd_lt c n j) 1 (by decide) (by decide)] at cq
      have hk0 : knd c n j = 0 := by omega
      rw [if_pos hk0] at he
      repeat (first | refine g_px rfl rfl rfl ?_ | refine g_get hv 0 rfl rfl rfl rfl ?_ | refine g_get hv 2 rfl rfl rfl rfl ?_)
      refine g_if rfl (fun cq => ?_) (fun cq => ?_)
      · have cq : ¬ nI (D 1) = 0 := cq
        rw [nI_eq0 (by omega)] at cq
        rw [if_pos (by omega)] at he
        subst hT
        refine g_vret hv rfl rfl rfl ⟨rfl, ?_⟩
        rw [he]
        exact ⟨hP, b1, F, wd, hR, rfl⟩
      · have cq : ¬ ¬ nI (D 1) = 0 := cq
        rw [nI_eq0 (by omega), Decidable.not_not] at cq
        rw [if_neg (by omega)] at he
        repeat (first | refine g_px rfl rfl rfl ?_)
        refine g_callV hv [0] 0 rfl rfl rfl rfl rfl rfl rfl rfl (by decide) (s_Mflaw sta (d + 6) th tr wh dr (some p) F wd ac im lw tk st sh ru rz aw al sd c n 6 (.inl j) hR) (fun v w' h hp hk2 hv => ?_)
        obtain ⟨rfl, F2, hR2, rfl⟩ := hp
        have hv : mj_Vw h0 (wrd (mo th tr wh dr (some p) F2 wd ac im lw tk st sh ru rz aw al sd) c p told D MA nm) h := hv
        subst hT
        refine g_vret hv rfl rfl rfl ⟨rfl, ?_⟩
        rw [he]
        exact ⟨F2, wd, told, D, MA, nm, hR2, rfl⟩
    · have cq : ¬ nI (mk_ (knd c n j)) = nI 1 := cq
      rw [mk_eq _ (knd_lt c n j) 1 (by decide) (by decide)] at cq
      rw [if_neg (fun z => cq (by omega))] at he
      have fin : ∀ F h, RdS c n (.inr (1, j)) F wd → mj_Vw h0 (wrd (mo th tr wh dr (some p) F wd ac im lw tk st sh ru rz aw al sd) c p told D MA nm) h → mj_go sta (mj_Cl sta (d + 7)) m_X10_readAll T 47 [some (.ref 151), some (.int 0)] [] h := by
        intro F h hR hv
        subst hT
        refine g_vret hv rfl rfl rfl ⟨rfl, ?_⟩
        rw [he]
        exact ⟨F, wd, told, D, MA, nm, hR, rfl⟩
      repeat (first | refine g_px rfl rfl rfl ?_)
      refine g_callV hv [0] 0 rfl rfl rfl rfl rfl rfl rfl rfl (by decide) (s_Mflaw sta (d + 6) th tr wh dr (some p) F wd ac im lw tk st sh ru rz aw al sd c n 1 (.inl j) hR) (fun v w' h hp hk2 hv => ?_)
      obtain ⟨rfl, F1, hR1, rfl⟩ := hp
      have hv : mj_Vw h0 (wrd (mo th tr wh dr (some p) F1 wd ac im lw tk st sh ru rz aw al sd) c p told D MA nm) h := hv
      repeat (first | refine g_px rfl rfl rfl ?_ | refine g_get hv 0 rfl rfl rfl rfl ?_ | refine g_get hv 2 rfl rfl rfl rfl ?_)
      refine g_if rfl (fun cq => ?_) (fun cq => ?_)
      · exact fin F1 h hR1 hv
      · repeat (first | refine g_px rfl rfl rfl ?_)
        refine g_callV hv [0] 0 rfl rfl rfl rfl rfl rfl rfl rfl (by decide) (s_Mflaw sta (d + 6) th tr wh dr (some p) F1 wd ac im lw tk st sh ru rz aw al sd c n 6 (.inr (1, j)) hR1) (fun v w' h hp hk2 hv => ?_)
        obtain ⟨rfl, F2, hR2, rfl⟩ := hp
        have hv : mj_Vw h0 (wrd (mo th tr wh dr (some p) F2 wd ac im lw tk st sh ru rz aw al sd) c p told D MA nm) h := hv
        exact fin F2 h hR2 hv
  have loop : ∀ f i told D MA nm F wd h, n - i < f → okP told D MA nm → RdS c n (.inl i) F wd → lAll c n f (i, told, D, MA, nm) = A → mj_Vw h0 (wrd (mo th tr wh dr (some p) F wd ac im lw tk st sh ru rz aw al sd) c p told D MA nm) h → mj_go sta (mj_Cl sta (d + 7)) m_X10_readAll T 2 [some (.ref 151), some (.int 1)] [] h := by
    intro f
    induction f with
    | zero => intro i told D MA nm F wd h hf; omega
    | succ f ih =>
      intro i told D MA nm F wd h hf hP hR hA hv
      have hin : i ≤ n := hR.2.2.1
      rw [lAll] at hA
      repeat (first | refine g_px rfl rfl rfl ?_)
      refine g_if rfl (fun cq => absurd cq (cpF (by decide))) (fun cq => ?_)
      repeat (first | refine g_px rfl rfl rfl ?_)
      have hv : mj_Vw h0 (wrd (mo th tr wh dr (some p) F wd ac im lw tk st sh ru rz aw al sd) c p told D MA nm ++ []) h := by rw [List.append_nil]; exact hv
      refine g_callVp hv 0 rfl rfl rfl rfl rfl rfl (s_MreadLine sta d th tr wh dr F wd ac im lw tk st sh ru rz aw al sd c n p told D MA nm i hP hn hc hR) (fun v w' h hp hk2 hv => ?_)
      obtain ⟨rfl, hm⟩ := hp
      rw [List.append_nil] at hv
      cases hL : lLine c n (i, told, D, MA, nm) with
      | inr e =>
        rw [hL] at hm hA
        obtain ⟨F1, wd1, told1, D1, MA1, nm1, hR1, rfl⟩ := hm
        repeat (first | refine g_px rfl rfl rfl ?_)
        refine g_callV hv [0, 1] 0 rfl rfl rfl rfl rfl rfl rfl rfl (by decide) (s_MeatsSemicolon sta (d + 4) th tr wh dr (some p) F1 wd1 ac im lw tk st sh ru rz aw al sd c n (.inr e) hn hc hR1) (fun v w' h hp hk2 hv => ?_)
        obtain ⟨rfl, F2, wd2, hR2, rfl⟩ := hp
        have hv : mj_Vw h0 (wrd (mo th tr wh dr (some p) F2 wd2 ac im lw tk st sh ru rz aw al sd) c p told1 D1 MA1 nm1) h := hv
        rw [show xsm c n (.inr e) = false from rfl]
        repeat (first | refine g_px rfl rfl rfl ?_)
        refine g_if rfl (fun cq => ?_) (fun cq => absurd (cpT (by decide)) cq)
        exact over e F2 wd2 told1 D1 MA1 nm1 h hR2 hA.symm hv
      | inl t =>
        have hge : i ≤ t.1 := lLine_ge (c := c) (n := n) (s := (i, told, D, MA, nm)) hin hL
        rw [hL] at hm hA
        dsimp only at hA
        obtain ⟨hP1, htn, F1, wd1, hR1, rfl⟩ := hm
        repeat (first | refine g_px rfl rfl rfl ?_)
        refine g_callV hv [0, 1] 0 rfl rfl rfl rfl rfl rfl rfl rfl (by decide) (s_MeatsSemicolon sta (d + 4) th tr wh dr (some p) F1 wd1 ac im lw tk st sh ru rz aw al sd c n (.inl t.1) hn hc hR1) (fun v w' h hp hk2 hv => ?_)
        obtain ⟨rfl, F2, wd2, hR2, rfl⟩ := hp
        have hv : mj_Vw h0 (wrd (mo th tr wh dr (some p) F2 wd2 ac im lw tk st sh ru rz aw al sd) c p t.2.1 t.2.2.1 t.2.2.2.1 t.2.2.2.2) h := hv
        by_cases h3 : knd c n t.1 = 3
        · have hs : xsm c n (.inl t.1) = true := decide_eq_true h3
          rw [hs] at hR2 ⊢
          rw [if_pos rfl] at hR2
          have htl : t.1 < n := by
            have h0' : ¬ knd c n t.1 = 0 := by omega
            rw [knd_0] at h0'
            omega
          have hgt := nxt_gt c n htl
          have hng := nxt_ge c n htn
          rw [if_neg (by omega), if_neg (by omega)] at hA
          refine g_run 2 rfl ?_
          exact ih (nxt c n t.1) t.2.1 t.2.2.1 t.2.2.2.1 t.2.2.2.2 F2 wd2 h (by omega) hP1 hR2 hA hv
        · have hs : xsm c n (.inl t.1) = false := decide_eq_false h3
          rw [hs] at hR2 ⊢
          rw [if_neg (by decide)] at hR2
          rw [if_pos h3] at hA
          repeat (first | refine g_px rfl rfl rfl ?_)
          refine g_if rfl (fun cq => ?_) (fun cq => absurd (cpT (by decide)) cq)
          exact live t F2 wd2 h hP1 hR2 hA.symm hv
  refine g_run 2 rfl ?_
  exact loop f i told D MA nm F wd h0 hf hP hR hA hv
variable (rd : Option Nat)
theorem s_Mfeed_0 (L : Nat) (x y z u v : Int32) (h6 : F 6 = nI L) (hL : L ≤ 800) (hno : ¬ L + 20 ≤ 800) : mj_Sx sta (d + 1) 194 [.ref 151, .int x, .int y, .int z, .int u, .int v] [(mo th tr wh dr rd F wd ac im lw tk st sh ru rz aw al sd)] (fun v w => v = some (.int (-1)) ∧ w = [(mo 0 tr wh dr rd F wd ac im lw tk st sh ru rz aw al sd)]) := by
  refine mj_Sx.mk m_X10_feed (by decide) n_X10_feed rfl (fun h0 hv => ?_)
  generalize hT : mj_rx m_X10_feed h0 _ _ = T
  repeat (first | refine g_px rfl rfl rfl ?_)
  refine g_put hv 0 rfl rfl rfl rfl rfl rfl (fun h hv => ?_)
  repeat (first | refine g_px rfl rfl rfl ?_ | refine g_get hv 0 rfl rfl rfl rfl ?_)
  show mj_go sta (mj_Cl sta d) m_X10_feed T 15 _ [.int (Int16.ofInt 800).toInt32, .int (F 6 + (Int8.ofInt 20).toInt32)] _
  rw [h6, show nI L + (Int8.ofInt 20).toInt32 = nI (L + 20) from nI_add L 20]
  refine g_ic rfl (fun cq => ?_) (fun cq => ?_)
  · have cq : nI (L + 20) ≤ nI 800 := cq
    rw [nI_leI (by omega) (by decide)] at cq
    omega
  · repeat (first | refine g_px rfl rfl rfl ?_)
    subst hT
    exact g_iret hv rfl rfl rfl rfl ⟨rfl, rfl⟩
def fsl (x y z u v : Int32) (k : Nat) : Int32 := if k < 4 then x else if k < 8 then y else if k < 12 then z else if k < 16 then u else v
def fby (x y z u v : Int32) (k : Nat) : Nat := bsh (fsl x y z u v k) (24 - 8 * (k % 4))
def fdc (c : Nat → Nat) (L : Nat) (x y z u v : Int32) (k : Nat) : Nat → Nat := fun j => if L ≤ j ∧ j < L + k then fby x y z u v (j - L) else c j
theorem fdc_20 {c : Nat → Nat} {L : Nat} {x y z u v : Int32} : fdc c L x y z u v 20 = put20 c L x y z u v := by
  funext j
  unfold fdc
  by_cases h : L ≤ j ∧ j < L + 20
  · rw [if_pos h]
    obtain ⟨k, rfl⟩ : ∃ k, j = L + k := ⟨j - L, by omega⟩
    rw [show L + k - L = k by omega]
    have hk : k < 20 := by omega
    unfold put20 put4 va_up fby fsl
    have h20 : k = 0 ∨ k = 1 ∨ k = 2 ∨ k = 3 ∨ k = 4 ∨ k = 5 ∨ k = 6 ∨ k = 7 ∨ k = 8 ∨ k = 9 ∨ k = 10 ∨ k = 11 ∨ k = 12 ∨ k = 13 ∨ k = 14 ∨ k = 15 ∨ k = 16 ∨ k = 17 ∨ k = 18 ∨ k = 19 := by omega
    rcases h20 with rfl | rfl | rfl | rfl | rfl | rfl | rfl | rfl | rfl | rfl | rfl | rfl | rfl | rfl | rfl | rfl | rfl | rfl | rfl | rfl
    all_goals
      repeat (first | rw [if_pos (by omega)] | rw [if_neg (by omega)])
  · rw [if_neg h]
    unfold put20 put4 va_up
    repeat (rw [if_neg (by omega)])
theorem fdc_s {c : Nat → Nat} {L : Nat} {x y z u v : Int32} {k : Nat} : va_up (fdc c L x y z u v k) (L + k) (fby x y z u v k) = fdc c L x y z u v (k + 1) := by
  funext j
  unfold va_up fdc
  by_cases h : j = L + k
  · rw [if_pos h, if_pos (by omega), show j - L = k by omega]
  · rw [if_neg h]
    by_cases h2 : L ≤ j ∧ j < L + k
    · rw [if_pos h2, if_pos (by omega)]
    · rw [if_neg h2, if_neg (by omega)]
theorem put20_bd {c : Nat → Nat} {L : Nat} {x y z u v : Int32} (hc : bd 256 c) : bd 256 (put20 c L x y z u v) := fun j => by
  rw [← fdc_20]
  unfold fdc
  split
  · exact bnat_lt _
  · exact hc j
theorem s_Mfeed (L : Nat) (x y z u v : Int32) (h6 : F 6 = nI L) (hL : L + 20 ≤ 800) : mj_Sx sta (d + 1) 194 [.ref 151, .int x, .int y, .int z, .int u, .int v] [(mo th tr wh dr rd F wd ac im lw tk st sh ru rz aw al sd), (152, ab c)] (fun q w => q = some (.int (nI (L + 20))) ∧ w = [(mo 0 tr wh dr rd (va_up F 6 (nI (L + 20))) wd ac im lw tk st sh ru rz aw al sd), (152, ab (put20 c L x y z u v))]) := by
  refine mj_Sx.mk m_X10_feed (by decide) n_X10_feed rfl (fun h0 hv => ?_)
  generalize hT : mj_rx m_X10_feed h0 _ _ = T
  have e0 : va_up F 6 (nI L) = F := by
    funext z
    unfold va_up
    by_cases h : z = 6
    · rw [if_pos h, h, h6]
    · rw [if_neg h]
  have loop : ∀ j k o h, k + j = 20 → mj_Vw h0 [(mo 0 tr wh dr rd (va_up F 6 (nI (L + k))) wd ac im lw tk st sh ru rz aw al sd), (152, ab (fdc c L x y z u v k))] h → mj_go sta (mj_Cl sta d) m_X10_feed T 23 [some (.ref 151), some (.int x), some (.int y), some (.int z), some (.int u), some (.int v), some (.int (nI k)), o] [] h := by
    intro j
    induction j with
    | zero =>
      intro k o h hk hv
      have hk : k = 20 := by omega
      subst hk
      rw [fdc_20] at hv
      repeat (first | refine g_px rfl rfl rfl ?_)
      refine g_ic rfl (fun cq => ?_) (fun cq => absurd (cpT (by decide)) cq)
      repeat (first | refine g_px rfl rfl rfl ?_ | refine g_get hv 0 rfl rfl rfl rfl ?_)
      subst hT
      exact g_iret hv rfl rfl rfl rfl ⟨rfl, rfl⟩
    | succ j ih =>
      intro k o h hk hv
      have at76 : ∀ o' y', y' = fsl x y z u v k → mj_go sta (mj_Cl sta d) m_X10_feed T 76 [some (.ref 151), some (.int x), some (.int y), some (.int z), some (.int u), some (.int v), some (.int (nI k)), o'] [.int y'] h := by
        intro o' y' hy
        subst hy
        refine g_run 1 rfl ?_
        show mj_go sta (mj_Cl sta d) m_X10_feed T 78 [some (.ref 151), some (.int x), some (.int y), some (.int z), some (.int u), some (.int v), some (.int (nI k)), some (.int (fsl x y z u v k))] [] h
        refine g_run 1 rfl ?_
        refine g_get hv 0 rfl rfl rfl rfl ?_
        refine g_run 1 rfl ?_
        refine g_get hv 0 rfl rfl rfl rfl ?_
        refine g_run 6 rfl ?_
        rw [show nI k - nI k / Int32.ofInt 4 * Int32.ofInt 4 = nI (k % 4) from pk_rem (d := 4) (by omega) (by decide) (by decide)]
        refine g_run 2 rfl ?_
        rw [show (Int8.ofInt 24).toInt32 - (Int8.ofInt 8).toInt32 * nI (k % 4) = nI (24 - 8 * (k % 4)) by rw [k_24, k_8, pk_mul, pk_sub (by omega)]]
        refine g_run 2 rfl ?_
        refine g_b8s hv 1 (k := L + k) (by omega) rfl rfl (fun h hv => ?_)
        rw [show bnat (fsl x y z u v k >>> (nI (24 - 8 * (k % 4)) &&& 31)) = fby x y z u v k from rfl, fdc_s] at hv
        refine g_run 2 rfl ?_
        refine g_get hv 0 rfl rfl rfl rfl ?_
        refine g_run 2 rfl ?_
        rw [show va_up F 6 (nI (L + k)) 6 + Int32.ofInt 1 = nI (L + (k + 1)) from (nI_succ (L + k)).symm]
        refine g_put hv 0 rfl rfl rfl rfl rfl rfl (fun h hv => ?_)
        have hv : mj_Vw h0 ([(mo 0 tr wh dr rd (va_up F 6 (nI (L + (k + 1)))) wd ac im lw tk st sh ru rz aw al sd), (152, ab (fdc c L x y z u v (k + 1)))]) h := hv
        refine g_run 2 rfl ?_
        have hnx := ih (k + 1) (some (.int (fsl x y z u v k))) h (by omega) hv
        rw [nI_succ] at hnx
        exact hnx
      repeat (first | refine g_px rfl rfl rfl ?_)
      refine g_ic rfl (fun cq => ?_) (fun cq => ?_)
      · simp (disch := omega) only [mj_cp, k_6, k_7, k_8, k_9, k_10, k_12, k_15, k_16, k_18, k_20, k_24, k_25, k_26, k_27, k_28, k_32, k_36, k_48, k_57, k_59, k_63, k_74, k_75, k_84, k_90, k_97, k_99, k_100, k_122, k_200, k_255, k_420, k_448, k_720, k_800, k_999, k_bit, k_shl, fa_and, nI_add, bl_1, bl_0, bl_n1, bl_n0, bl_i1, nI_lt0, nI_0le, nI_eq0, nI_eqT, nI_leI, nI_ltI, nI_eq, Nat.not_le, Nat.not_lt, Bool.not_eq_true, Bool.not_eq_false, not_true_eq_false, not_false_eq_true, Decidable.not_not] at cq
        omega
      · repeat (first | refine g_px rfl rfl rfl ?_)
        refine g_ic rfl (fun cq => ?_) (fun cq => ?_)
        · have cq : nI 4 ≤ nI k := cq
          rw [nI_leI (by decide) (by omega)] at cq
          have k4 := cq
          repeat (first | refine g_px rfl rfl rfl ?_)
          refine g_ic rfl (fun cq => ?_) (fun cq => ?_)
          · have cq : nI 8 ≤ nI k := cq
            rw [nI_leI (by decide) (by omega)] at cq
            have k8 := cq
            repeat (first | refine g_px rfl rfl rfl ?_)
            refine g_ic rfl (fun cq => ?_) (fun cq => ?_)
            · have cq : nI 12 ≤ nI k := cq
              rw [nI_leI (by decide) (by omega)] at cq
              have k12 := cq
              repeat (first | refine g_px rfl rfl rfl ?_)
              refine g_ic rfl (fun cq => ?_) (fun cq => ?_)
              · have cq : nI 16 ≤ nI k := cq
                rw [nI_leI (by decide) (by omega)] at cq
                refine g_run 1 rfl ?_
                exact at76 o v (by unfold fsl; rw [if_neg (by omega), if_neg (by omega), if_neg (by omega), if_neg (by omega)])
              · have cq : ¬ nI 16 ≤ nI k := cq
                rw [nI_leI (by decide) (by omega)] at cq
                refine g_run 2 rfl ?_
                exact at76 o u (by unfold fsl; rw [if_neg (by omega), if_neg (by omega), if_neg (by omega), if_pos (by omega)])
            · have cq : ¬ nI 12 ≤ nI k := cq
              rw [nI_leI (by decide) (by omega)] at cq
              refine g_run 2 rfl ?_
              exact at76 o z (by unfold fsl; rw [if_neg (by omega), if_neg (by omega), if_pos (by omega)])
          · have cq : ¬ nI 8 ≤ nI k := cq
            rw [nI_leI (by decide) (by omega)] at cq
            refine g_run 2 rfl ?_
            exact at76 o y (by unfold fsl; rw [if_neg (by omega), if_pos (by omega)])
        · have cq : ¬ nI 4 ≤ nI k := cq
          rw [nI_leI (by decide) (by omega)] at cq
          refine g_run 2 rfl ?_
          exact at76 o x (by unfold fsl; rw [if_pos (by omega)])
  repeat (first | refine g_px rfl rfl rfl ?_)
  refine g_put hv 0 rfl rfl rfl rfl rfl rfl (fun h hv => ?_)
  have hv : mj_Vw h0 ([(mo 0 tr wh dr rd F wd ac im lw tk st sh ru rz aw al sd), (152, ab c)]) h := hv
  repeat (first | refine g_px rfl rfl rfl ?_ | refine g_get hv 0 rfl rfl rfl rfl ?_)
  rw [h6, show nI L + (Int8.ofInt 20).toInt32 = nI (L + 20) from nI_add L 20]
  refine g_ic rfl (fun cq => ?_) (fun cq => absurd (nI_le hL (by decide)) cq)
  refine g_run 2 rfl ?_
  refine loop 20 0 none h (by omega) ?_
  have e1 : fdc c L x y z u v 0 = c := by
    funext j
    unfold fdc
    rw [if_neg (by omega)]
  rw [e1, Nat.add_zero, e0]
  exact hv
end Mal
