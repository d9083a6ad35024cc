/-! the reference: lines -/
section Xp
variable (c : Nat → Nat) (n : Nat)
def xP (ws : List Nat) (most : Nat) : XP → Nat × XP
  | .inl i => match pP c n ws most i with
    | .inl q => (q.1, .inl q.2)
    | .inr e => (0, .inr e)
  | .inr e => (0, .inr e)
theorem xP_eq (ws : List Nat) (most : Nat) (x : XP) : xvl c n (xwh c n most (xnd c n ws x)) = (xP c n ws most x).1 ∧ xgo c n (xwh c n most (xnd c n ws x)) = (xP c n ws most x).2 := by
  cases x with
  | inr e => exact ⟨rfl, rfl⟩
  | inl i =>
    have e1 : xnd c n ws (.inl i) = xgo c n (if isW c n i ws = true then .inl i else .inr (1, i)) := rfl
    have e2 : xP c n ws most (.inl i) = match pP c n ws most i with
      | .inl q => (q.1, .inl q.2)
      | .inr e => (0, .inr e) := rfl
    rw [e1, e2]
    by_cases h : isW c n i ws = true
    · have hp : pP c n ws most i = pN c n most (nxt c n i) := by
        unfold pP pW
        rw [if_pos h]
      rw [if_pos h, hp]
      show xvl c n (xwh c n most (.inl (nxt c n i))) = _ ∧ xgo c n (xwh c n most (.inl (nxt c n i))) = _
      rw [xwh_i]
      by_cases h2 : knd c n (nxt c n i) = 2
      · by_cases h3 : num c n (nxt c n i) ≤ most
        · have hq : pN c n most (nxt c n i) = .inl (num c n (nxt c n i), nxt c n (nxt c n i)) := by
            unfold pN
            rw [if_pos h2, if_pos h3]
          rw [if_pos h2, if_pos h3, hq]
          exact ⟨rfl, rfl⟩
        · have hq : pN c n most (nxt c n i) = .inr (4, nxt c n i) := by
            unfold pN
            rw [if_pos h2, if_neg h3]
          rw [if_pos h2, if_neg h3, hq]
          exact ⟨rfl, rfl⟩
      · have hq : pN c n most (nxt c n i) = .inr (1, nxt c n i) := by
          unfold pN
          rw [if_neg h2]
        rw [if_neg h2, hq]
        exact ⟨rfl, rfl⟩
    · have hp : pP c n ws most i = .inr (1, i) := by
        unfold pP pW
        rw [if_neg h]
      rw [if_neg h, hp]
      exact ⟨rfl, rfl⟩
end Xp
def tkI (told : Bool) (D : Nat → Nat) : Int32 := if told then nI (D 0) else -1
def hiI (D : Nat → Nat) : Int32 := if D 4 = 0 then -1 else nI (D 5)
def erI (D : Nat → Nat) : Int32 := if D 4 = 0 then 0 else nI (D 6)
def seI (D : Nat → Nat) : Int32 := if D 4 = 0 then 0 else nI (D 7)
abbrev wrd (o : Nat × va_E) (c : Nat → Nat) (p : Nat) (told : Bool) (D : Nat → Nat) (MA : Nat → Nat → Nat) (nm : Nat → List Nat) : mj_W := [o, (152, ab c), mdg p (tkI told D) D (hiI D) (erI D) (seI D), (p + 1, an (MA 0)), (p + 2, an (MA 1)), (p + 3, an (MA 2)), (p + 4, an (MA 3)), (p + 5, an (MA 4)), (p + 6, aL 6 (fun k => pkd (nm k))), (p + 7, a3 (MA 5))]
def okP (told : Bool) (D : Nat → Nat) (MA : Nat → Nat → Nat) (nm : Nat → List Nat) : Prop := okD D MA ∧ (told = false → D 1 = 0 ∧ D 2 = 0 ∧ D 4 = 0 ∧ D 8 = 0) ∧ (∀ k, k < D 1 → alw (nm k) ∧ (nm k).length ≤ 8) ∧ ∀ k, k < D 8 → MA 5 k < D 1
def mps (o : (Nat → Int32) → Int64 → Nat × va_E) (c : Nat → Nat) (n p : Nat) (R : PS ⊕ FP) (w : mj_W) : Prop := match R with
  | .inl t => okP t.2.1 t.2.2.1 t.2.2.2.1 t.2.2.2.2 ∧ t.1 ≤ n ∧ ∃ F wd, RdS c n (.inl t.1) F wd ∧ w = wrd (o F wd) c p t.2.1 t.2.2.1 t.2.2.2.1 t.2.2.2.2
  | .inr e => ∃ F wd told D MA nm, RdS c n (.inr e) F wd ∧ w = wrd (o F wd) c p told D MA nm
theorem n1_ne {k : Nat} (h : k < 1000) : ¬ nI k = -1 := fun e => by
  have := (fdI_1 (o := some k) (fun q hq => by cases hq; omega)).mp e
  cases this
theorem tkI_1 {told : Bool} {D : Nat → Nat} (h : D 0 ≤ 5) : (tkI told D = -1 ↔ told = false) := by
  cases told with
  | false => exact ⟨fun _ => rfl, fun _ => rfl⟩
  | true => exact ⟨fun z => absurd z (n1_ne (by omega)), fun z => by cases z⟩
theorem hiI_1 {D : Nat → Nat} (h : D 5 ≤ 100) : (hiI D = -1 ↔ D 4 = 0) := by
  unfold hiI
  by_cases h4 : D 4 = 0
  · rw [if_pos h4]; exact ⟨fun _ => h4, fun _ => rfl⟩
  · rw [if_neg h4]; exact ⟨fun z => absurd z (n1_ne (by omega)), fun z => absurd z h4⟩
theorem pP_b {c : Nat → Nat} {n : Nat} {ws : List Nat} {most i : Nat} {q : Nat × Nat} (hi : i ≤ n) (h : pP c n ws most i = .inl q) : q.2 ≤ n ∧ q.1 ≤ most := by
  unfold pP at h
  cases hw : pW c n ws i with
  | inr e => rw [hw] at h; cases h
  | inl j => rw [hw] at h; exact pN_le c n j (pW_le c n i hi hw) h
theorem xP_b {c : Nat → Nat} {n : Nat} {ws : List Nat} {most : Nat} {x : XP} (hx : ∀ y, x = .inl y → y ≤ n) : ∀ j, (xP c n ws most x).2 = .inl j → j ≤ n ∧ (xP c n ws most x).1 ≤ most := by
  intro j hj
  cases x with
  | inr e => cases hj
  | inl y =>
    have hyn := hx y rfl
    have e2 : xP c n ws most (.inl y) = match pP c n ws most y with
      | .inl q => (q.1, .inl q.2)
      | .inr e => (0, .inr e) := rfl
    rw [e2] at hj ⊢
    cases hp : pP c n ws most y with
    | inr e => rw [hp] at hj; cases hj
    | inl q =>
      rw [hp] at hj
      cases hj
      exact pP_b hyn hp
theorem RdS.le {c : Nat → Nat} {n : Nat} {x : XP} {F : Nat → Int32} {wd : Int64} (h : RdS c n x F wd) : ∀ y, x = .inl y → y ≤ n := fun y e => by
  subst e
  exact h.2.2.1
section Mln
variable (sta : mj_S) (d : Nat) (th tr wh : Int32) (dr : Option Nat) (F : Nat → Int32) (wd : Int64) (ac im lw tk st : Int32) (sh ru : Int64) (rz aw al sd : Int32) (c : Nat → Nat) (n p : Nat) (told : Bool) (D : Nat → Nat) (MA : Nat → Nat → Nat) (nm : Nat → List Nat)
theorem s_MreadDraft (i : Nat) (hk : knd c n i = 1) (hP : okP told D MA nm) (hn : n ≤ 800) (hc : bd 256 c) (hR : RdS c n (.inl i) F wd) : mj_Sx sta (d + 6) 188 [.ref 151] (wrd (mo th tr wh dr (some p) F wd ac im lw tk st sh ru rz aw al sd) c p told D MA nm) (fun v w => v = none ∧ mps (fun F wd => (mo th tr wh dr (some p) F wd ac im lw tk st sh ru rz aw al sd)) c n p (lTakes c n (i, told, D, MA, nm)) w) := by
  refine mj_Sx.mk m_X10_readDraft (by decide) n_X10_readDraft rfl (fun h0 hv => ?_)
  generalize hT : mj_rx m_X10_readDraft h0 _ _ = T
  obtain ⟨-, -, -, -, -, -, o1, -⟩ := alw_8
  have hD := hP.1
  have hin : i ≤ n := hR.2.2.1
  have htk := tkI_1 (told := told) (D := D) hD.1
  have at16 : ∀ F1 x1 h, RdS c n x1 F1 wd → xok c n x1 → (if told then xfl 3 (.inl i) else .inl i) = x1 → mj_Vw h0 (wrd (mo th tr wh dr (some p) F1 wd ac im lw tk st sh ru rz aw al sd) c p told D MA nm) h → mj_go sta (mj_Cl sta (d + 5)) m_X10_readDraft T 16 [some (.ref 151), none] [] h := by
    intro F1 x1 h hR1 hok he hv
    repeat (first | refine g_px rfl rfl rfl ?_)
    refine g_callV hv [0, 1] 0 rfl rfl rfl rfl rfl rfl rfl rfl (by decide) (s_MgoesOn sta (d + 3) th tr wh dr (some p) F1 wd ac im lw tk st sh ru rz aw al sd c n _ hok hn hc hR1) (fun v w' h hp hk2 hv => ?_)
    obtain ⟨rfl, F2, wd2, hR2, rfl⟩ := hp
    have hv : mj_Vw h0 (wrd (mo th tr wh dr (some p) F2 wd2 ac im lw tk st sh ru rz aw al sd) c p told D MA nm) h := hv
    repeat (first | refine g_px rfl rfl rfl ?_)
    refine g_callV hv [0, 1] 0 rfl rfl rfl rfl rfl rfl rfl rfl (by decide) (s_MreadPart sta d th tr wh dr (some p) F2 wd2 ac im lw tk st sh ru rz aw al sd c n _ 19 _ w_takes 5 rfl rfl o1 (by decide) (by decide) hn hc hR2) (fun v w' h hp hk2 hv => ?_)
    obtain ⟨rfl, F3, wd3, hR3, rfl⟩ := hp
    have hxe := xP_eq c n w_takes 5 (xgo c n x1)
    rw [hxe.1]
    rw [hxe.2] at hR3
    have hv : mj_Vw h0 (wrd (mo th tr wh dr (some p) F3 wd3 ac im lw tk st sh ru rz aw al sd) c p told D MA nm) h := hv
    have h9 := hR3.over
    refine g_run 2 rfl ?_
    refine g_get hv 0 rfl rfl rfl rfl ?_
    refine g_run 1 rfl ?_
    have hl : lTakes c n (i, told, D, MA, nm) = match (xP c n w_takes 5 (xgo c n x1)).2 with
      | .inr e => .inr e
      | .inl j => .inl (j, true, va_up D 0 (xP c n w_takes 5 (xgo c n x1)).1, MA, nm) := by
      subst he
      unfold lTakes
      cases told with
      | true => rfl
      | false =>
        show (match pP c n w_takes 5 (nxt c n i) with | .inr e => Sum.inr e | .inl (v, j) => Sum.inl (j, true, va_up D 0 v, MA, nm)) = _
        have e2 : xP c n w_takes 5 (xgo c n (if false = true then xfl 3 (.inl i) else .inl i)) = match pP c n w_takes 5 (nxt c n i) with
          | .inl q => (q.1, .inl q.2)
          | .inr e => (0, .inr e) := rfl
        rw [e2]
        cases pP c n w_takes 5 (nxt c n i) <;> rfl
    have hbd := xP_b (c := c) (ws := w_takes) (most := 5) hR2.le
    generalize xP c n w_takes 5 (xgo c n x1) = y3 at *
    obtain ⟨v3, x3⟩ := y3
    dsimp only at hl hbd hR3 h9 ⊢
    refine g_ic rfl (fun cq => ?_) (fun cq => ?_)
    · have cq : F3 9 = 5 := cq
      rw [h9] at cq
      subst hT
      refine g_vret hv rfl rfl rfl ⟨rfl, ?_⟩
      cases x3 with
      | inl j => cases cq
      | inr e =>
        rw [hl]
        exact ⟨F3, wd3, told, D, MA, nm, hR3, rfl⟩
    · have cq : ¬ F3 9 = 5 := cq
      rw [h9] at cq
      cases x3 with
      | inr e => exact absurd rfl cq
      | inl j =>
        obtain ⟨hj1, hj2⟩ := hbd j rfl
        refine g_run 1 rfl ?_
        refine g_get hv 0 rfl rfl rfl rfl ?_
        refine g_run 1 rfl ?_
        refine g_put hv 2 rfl rfl rfl rfl rfl rfl (fun h hv => ?_)
        have hv : mj_Vw h0 (wrd (mo th tr wh dr (some p) F3 wd3 ac im lw tk st sh ru rz aw al sd) c p true (va_up D 0 v3) MA nm) h := hv
        subst hT
        refine g_vret hv rfl rfl rfl ⟨rfl, ?_⟩
        rw [hl]
        obtain ⟨⟨d0, d1, d3, d4, d5, d6, d7, d8, d2, a0, a1, a2, a3, a4, a5⟩, hP2, hP3, hP4⟩ := hP
        exact ⟨⟨⟨hj2, d1, d3, d4, d5, d6, d7, d8, d2, a0, a1, a2, a3, a4, a5⟩, (fun z => by cases z), hP3, hP4⟩, hj1, F3, wd3, hR3, rfl⟩
  repeat (first | refine g_px rfl rfl rfl ?_ | refine g_get hv 0 rfl rfl rfl rfl ?_ | refine g_get hv 2 rfl rfl rfl rfl ?_)
  refine g_ic rfl (fun cq => ?_) (fun cq => ?_)
  · have cq : tkI told D = -1 := cq
    rw [htk] at cq
    exact at16 F (.inl i) h0 hR (show knd c n i ≠ 4 by omega) (by rw [cq]; rfl) hv
  · have cq : ¬ tkI told D = -1 := cq
    rw [htk, Bool.not_eq_false] at cq
    repeat (first | refine g_px rfl rfl rfl ?_)
    refine g_callV hv [0] 0 rfl rfl rfl rfl rfl rfl rfl rfl (by decide) (s_Mflaw sta (d + 4) th tr wh dr (some p) F wd ac im lw tk st sh ru rz aw al sd c n 3 (.inl i) hR) (fun v w' h hp hk2 hv => ?_)
    obtain ⟨rfl, F1, hR1, rfl⟩ := hp
    have hv : mj_Vw h0 (wrd (mo th tr wh dr (some p) F1 wd ac im lw tk st sh ru rz aw al sd) c p told D MA nm) h := hv
    exact at16 F1 _ h hR1 trivial (by rw [cq]; rfl) hv
end Mln
