/-! the reference's words, wholes, names: where it reads, or the fault -/
def xfl (k : Nat) : XP → XP
  | .inl i => .inr (k, i)
  | .inr e => .inr e
section Xs
variable (c : Nat → Nat) (n : Nat)
def xgo : XP → XP
  | .inl i => .inl (nxt c n i)
  | .inr e => .inr e
def xok : XP → Prop
  | .inl i => knd c n i ≠ 4
  | .inr _ => True
def xis (ws : List Nat) : XP → Bool
  | .inl i => isW c n i ws
  | .inr _ => false
def xnd (ws : List Nat) (x : XP) : XP := xgo c n (if xis c n ws x then x else xfl 1 x)
def xwh (most : Nat) : XP → XP
  | .inl i => if knd c n i = 2 then (if num c n i ≤ most then .inl i else .inr (4, i)) else .inr (1, i)
  | .inr e => .inr e
def xvl : XP → Nat
  | .inl i => num c n i
  | .inr _ => 0
def xnm : XP → Bool
  | .inl i => decide (lkd c n i = 7)
  | .inr _ => false
def xsr : XP → Nat × XP
  | .inl i => match srt c n i with
    | some s => (s, .inl i)
    | none => (0, .inr (1, i))
  | .inr e => (0, .inr e)
def xsm : XP → Bool
  | .inl i => decide (knd c n i = 3)
  | .inr _ => false
def xkm (nm : Nat → List Nat) (m : Nat) : XP → Nat × XP
  | .inl i => match pM c n nm m i with
    | .inl k => (k, .inl i)
    | .inr e => (0, .inr e)
  | .inr e => (0, .inr e)
def xov : XP → Bool
  | .inl _ => false
  | .inr _ => true
end Xs
theorem isW_1 {c : Nat → Nat} {n i : Nat} {ws : List Nat} (h : isW c n i ws = true) : knd c n i = 1 := by
  unfold isW at h
  simp only [Bool.and_eq_true, decide_eq_true_eq] at h
  exact h.1
theorem RdS.over {c : Nat → Nat} {n : Nat} {x : XP} {F : Nat → Int32} {wd : Int64} (h : RdS c n x F wd) : (F 9 = 5 ↔ xov x = true) := by
  obtain ⟨-, -, h3⟩ := h
  cases x with
  | inl i =>
    have := mk_5 (knd c n i) (knd_lt c n i)
    rw [← h3.2.1] at this
    exact ⟨fun z => absurd z this, fun z => by cases z⟩
  | inr e => exact ⟨fun _ => rfl, fun _ => h3.1⟩
theorem mk_eq (k : Nat) (h : k ≤ 4) (y : Nat) (hy : 1 ≤ y) (hy2 : y ≤ 4) : (nI (mk_ k) = nI y ↔ k + 1 = y ∧ k ≠ 4) := by
  have : ∀ k, k < 5 → ∀ y, y < 5 → 1 ≤ y → (nI (mk_ k) = nI y ↔ k + 1 = y ∧ k ≠ 4) := by decide
  exact this k (by omega) y (by omega) hy
theorem xnd_ok {c : Nat → Nat} {n : Nat} {ws : List Nat} {x : XP} : xok c n (if xis c n ws x then x else xfl 1 x) := by
  cases x with
  | inl i =>
    show xok c n (if isW c n i ws = true then .inl i else xfl 1 (.inl i))
    by_cases h : isW c n i ws = true
    · rw [if_pos h]
      show knd c n i ≠ 4
      rw [isW_1 h]
      decide
    · rw [if_neg h]
      exact trivial
  | inr e => exact trivial
theorem xwh_i {c : Nat → Nat} {n most i : Nat} : xwh c n most (.inl i) = (if knd c n i = 2 then (if num c n i ≤ most then .inl i else .inr (4, i)) else .inr (1, i)) := rfl
theorem xwh_ok {c : Nat → Nat} {n most : Nat} {x : XP} : xok c n (xwh c n most x) := by
  cases x with
  | inl i =>
    show xok c n (if knd c n i = 2 then (if num c n i ≤ most then .inl i else .inr (4, i)) else .inr (1, i))
    by_cases h : knd c n i = 2
    · rw [if_pos h]
      by_cases h2 : num c n i ≤ most
      · rw [if_pos h2]
        show knd c n i ≠ 4
        omega
      · rw [if_neg h2]
        exact trivial
    · rw [if_neg h]
      exact trivial
  | inr e => exact trivial
theorem pkd_snoc (l : List Nat) (x : Nat) : pkd (l ++ [x]) = 32 * pkd l + (x - 96) := by
  unfold pkd
  rw [List.reverse_append, List.reverse_singleton, List.singleton_append, pkr]
theorem s_Mpacked (sta : mj_S) (d j : Nat) (r : String × Nat × String) (ws : List Nat) (hr : mj_nth mj_str j = some r) (hw : r.2.2.toList.map Char.toNat = ws) (hal : alw ws) (hl : ws.length ≤ 8) : mj_Sx sta (d + 2) 174 [.ref (mj_SB + j)] [] (fun v w => v = some (.long (lN (pkd ws))) ∧ w = []) := by
  refine mj_Sx.mk m_X10_packed (by decide) n_X10_packed rfl (fun h0 hv => ?_)
  generalize hT : mj_rx m_X10_packed h0 _ _ = T
  have loop : ∀ y k h, k + y = ws.length → mj_Vw h0 [] h → mj_go sta (mj_Cl sta (d + 1)) m_X10_packed T 4 [some (.ref (mj_SB + j)), some (.long (lN (pkd (ws.take k)))), none, some (.int (nI k))] [] h := by
    intro y
    induction y with
    | zero =>
      intro k h hk hv
      have hk : k = ws.length := by omega
      subst hk
      rw [List.take_length]
      repeat (first | refine g_px rfl rfl rfl ?_)
      refine g_callB hv rfl rfl rfl rfl rfl rfl (mj_Sx.str hr hw) (fun h hv => ?_)
      refine g_ic rfl (fun cq => ?_) (fun cq => absurd (nI_le (Nat.le_refl _) (by omega)) cq)
      repeat (first | refine g_px rfl rfl rfl ?_)
      subst hT
      exact g_lret hv rfl rfl rfl ⟨rfl, rfl⟩
    | succ y ih =>
      intro k h hk hv
      obtain ⟨x, hx1, hx2, hx3⟩ := nth_drop (ws := ws) (k := k) (by omega)
      have hxb := ltr_b (hal x hx3)
      have htk : ws.take (k + 1) = ws.take k ++ [x] := by
        rw [List.take_add_one]
        rw [mj_nth_eq] at hx1
        rw [hx1]
        rfl
      have hnx := fun h hv => ih (k + 1) h (by omega) hv
      rw [htk, pkd_snoc, nI_succ] at hnx
      repeat (first | refine g_px rfl rfl rfl ?_)
      refine g_callB hv rfl rfl rfl rfl rfl rfl (mj_Sx.str hr hw) (fun h hv => ?_)
      refine g_ic rfl (fun cq => ?_) (fun cq => ?_)
      · simp (disch := omega) only [mj_cp, k_6, k_7, k_8, k_9, k_10, k_12, k_15, k_16, k_18, k_20, k_24, k_25, k_26, k_27, k_28, k_32, k_36, k_48, k_57, k_59, k_63, k_74, k_75, k_84, k_90, k_97, k_99, k_100, k_122, k_200, k_255, k_420, k_448, k_720, k_800, k_999, k_bit, k_shl, fa_and, nI_add, bl_1, bl_0, bl_n1, bl_n0, bl_i1, nI_lt0, nI_0le, nI_eq0, nI_eqT, nI_leI, nI_ltI, nI_eq, Nat.not_le, Nat.not_lt, Bool.not_eq_true, Bool.not_eq_false, not_true_eq_false, not_false_eq_true, Decidable.not_not] at cq
        omega
      · repeat (first | refine g_px rfl rfl rfl ?_)
        refine g_callB hv rfl rfl rfl rfl rfl rfl (mj_Sx.chr hr hw hx1) (fun h hv => ?_)
        refine g_run 4 rfl ?_
        rw [show nI x - (Int8.ofInt 97).toInt32 + Int32.ofInt 1 = nI (x - 96) by
          rw [k_97, pk_sub (by omega), show Int32.ofInt 1 = nI 1 from rfl, nI_add]
          congr 1
          omega]
        refine g_run 2 rfl ?_
        rw [nI_l (by omega), show Int64.ofNat 32 = lN 32 from rfl, lN_mul, lN_add]
        refine g_run 3 rfl ?_
        exact hnx h hv
  refine g_run 4 rfl ?_
  exact loop ws.length 0 h0 (by omega) hv
theorem frsI_b {p : Nat → Bool} {m : Nat} : ∀ q, frs p m 0 = some q → q < m := fun q h => by have := frs_lt h; omega
section Mw
variable (sta : mj_S) (d : Nat) (th tr wh : Int32) (dr rd : Option Nat) (F : Nat → Int32) (wd : Int64) (ac im lw tk st : Int32) (sh ru : Int64) (rz aw al sd : Int32) (c : Nat → Nat) (n : Nat)
theorem s_Mflaw (k : Nat) (x : XP) (hR : RdS c n x F wd) : mj_Sx sta (d + 1) 176 [.ref 151, (.int (nI k))] [(mo th tr wh dr rd F wd ac im lw tk st sh ru rz aw al sd)] (fun v w => v = none ∧ ∃ F', RdS c n (xfl k x) F' wd ∧ w = [(mo th tr wh dr rd F' wd ac im lw tk st sh ru rz aw al sd)]) := by
  have h9 := hR.over
  obtain ⟨r1, r2, r3⟩ := hR
  cases x with
  | inl i =>
    have h9' : ¬ F 9 = 5 := fun z => by have := h9.mp z; cases this
    refine mj_Sx.post (s_Mflaw_l sta d th tr wh dr rd F wd ac im lw tk st sh ru rz aw al sd (nI k) h9') (fun v w' hp hk => ?_)
    obtain ⟨rfl, rfl⟩ := hp
    exact ⟨rfl, va_up (va_up (va_up F 12 (nI k)) 13 (F 10)) 9 5, ⟨r1, r2, rfl, rfl, r3.2.2.1⟩, rfl⟩
  | inr e =>
    refine mj_Sx.post (s_Mflaw_o sta d th tr wh dr rd F wd ac im lw tk st sh ru rz aw al sd (nI k) (h9.mpr rfl)) (fun v w' hp hk => ?_)
    obtain ⟨rfl, rfl⟩ := hp
    exact ⟨rfl, F, ⟨r1, r2, r3⟩, rfl⟩
theorem s_MgoesOn (x : XP) (hx : xok c n x) (hn : n ≤ 800) (hc : bd 256 c) (hR : RdS c n x F wd) : mj_Sx sta (d + 2) 175 [.ref 151] [(mo th tr wh dr rd F wd ac im lw tk st sh ru rz aw al sd), (152, ab c)] (fun v w => v = none ∧ ∃ F' wd', RdS c n (xgo c n x) F' wd' ∧ w = [(mo th tr wh dr rd F' wd' ac im lw tk st sh ru rz aw al sd), (152, ab c)]) := by
  have h9 := hR.over
  obtain ⟨r1, r2, r3⟩ := hR
  cases x with
  | inl i =>
    have h9' : ¬ F 9 = 5 := fun z => by have := h9.mp z; cases this
    obtain ⟨a1, a2, a3, a4, a5, a6, a7⟩ := r3
    exact s_MgoesOn_j sta d th tr wh dr rd F wd ac im lw tk st sh ru rz aw al sd c n (bhd c n i) (bhd_ge c n a1).2 hn r1 r2 (a5 hx) h9' a4 hc
  | inr e =>
    refine mj_Sx.post (s_MgoesOn_o sta d th tr wh dr rd F wd ac im lw tk st sh ru rz aw al sd c (h9.mpr rfl)) (fun v w' hp hk => ?_)
    obtain ⟨rfl, rfl⟩ := hp
    exact ⟨rfl, F, wd, ⟨r1, r2, r3⟩, rfl⟩
theorem s_MisWord (x : XP) (j : Nat) (r : String × Nat × String) (ws : List Nat) (hr : mj_nth mj_str j = some r) (hw : r.2.2.toList.map Char.toNat = ws) (hal : alw ws) (hl : ws.length ≤ 8) (hR : RdS c n x F wd) : mj_Sx sta (d + 3) 177 [.ref 151, .ref (mj_SB + j)] [(mo th tr wh dr rd F wd ac im lw tk st sh ru rz aw al sd)] (fun v w => v = some (.int (bl (xis c n ws x))) ∧ w = [(mo th tr wh dr rd F wd ac im lw tk st sh ru rz aw al sd)]) := by
  refine mj_Sx.mk m_X10_isWord (by decide) n_X10_isWord rfl (fun h0 hv => ?_)
  generalize hT : mj_rx m_X10_isWord h0 _ _ = T
  obtain ⟨r1, r2, r3⟩ := hR
  have no : ∀ h, xis c n ws x = false → mj_Vw h0 [(mo th tr wh dr rd F wd ac im lw tk st sh ru rz aw al sd)] h → mj_go sta (mj_Cl sta (d + 2)) m_X10_isWord T 24 [some (.ref 151), some (.ref (mj_SB + j))] [] h := by
    intro h hno hv
    repeat (first | refine g_px rfl rfl rfl ?_)
    subst hT
    refine g_iret hv rfl rfl rfl rfl ?_
    exact ⟨by rw [hno]; rfl, rfl⟩
  repeat (first | refine g_px rfl rfl rfl ?_ | refine g_get hv 0 rfl rfl rfl rfl ?_)
  cases x with
  | inr e =>
    rw [r3.1]
    refine g_ic rfl (fun cq => ?_) (fun cq => absurd (cpT (by decide)) cq)
    exact no h0 rfl hv
  | inl i =>
    obtain ⟨a1, a2, a3, a4, a5, a6, a7⟩ := r3
    rw [a2]
    refine g_ic rfl (fun cq => ?_) (fun cq => ?_)
    · have cq : ¬ nI (mk_ (knd c n i)) = nI 2 := cq
      rw [mk_eq _ (knd_lt c n i) 2 (by decide) (by decide)] at cq
      refine no h0 ?_ hv
      show isW c n i ws = false
      unfold isW
      rw [decide_eq_false (fun z => cq (by omega)), Bool.false_and]
    · have cq : ¬ ¬ nI (mk_ (knd c n i)) = nI 2 := cq
      rw [mk_eq _ (knd_lt c n i) 2 (by decide) (by decide), Decidable.not_not] at cq
      have hk1 : knd c n i = 1 := by omega
      have hwl := wl_al hk1
      have hb1 := pkd_lt hwl.1 hwl.2
      have hb2 := pkd_lt hal hl
      repeat (first | refine g_px rfl rfl rfl ?_ | refine g_get hv 0 rfl rfl rfl rfl ?_)
      rw [a6 hk1]
      refine g_callS hv [] rfl rfl rfl rfl rfl rfl rfl (by decide) (s_Mpacked sta d j r ws hr hw hal hl) (fun v w' h hp hk2 hv => ?_)
      obtain ⟨rfl, rfl⟩ := hp
      have hv : mj_Vw h0 ([(mo th tr wh dr rd F wd ac im lw tk st sh ru rz aw al sd)]) h := hv
      repeat (first | refine g_px rfl rfl rfl ?_)
      refine g_if rfl (fun cq => ?_) (fun cq => ?_)
      · have cq : ¬ lg_cmp (lN (pkd (wl c n i))) (lN (pkd ws)) = 0 := cq
        rw [lg_cmp_eq, pk_lEQ (by omega) (by omega), pkd_inj hwl.1 hal] at cq
        refine no h ?_ hv
        show isW c n i ws = false
        unfold isW
        rw [decide_eq_false cq, Bool.and_false]
      · have cq : ¬ ¬ lg_cmp (lN (pkd (wl c n i))) (lN (pkd ws)) = 0 := cq
        rw [lg_cmp_eq, pk_lEQ (by omega) (by omega), pkd_inj hwl.1 hal, Decidable.not_not] at cq
        repeat (first | refine g_px rfl rfl rfl ?_)
        subst hT
        refine g_iret hv rfl rfl rfl rfl ?_
        refine ⟨?_, rfl⟩
        rw [show xis c n ws (.inl i) = isW c n i ws from rfl]
        unfold isW
        rw [decide_eq_true hk1, decide_eq_true cq]
        rfl
theorem s_Mneeds (x : XP) (j : Nat) (r : String × Nat × String) (ws : List Nat) (hr : mj_nth mj_str j = some r) (hw : r.2.2.toList.map Char.toNat = ws) (hal : alw ws) (hl : ws.length ≤ 8) (hn : n ≤ 800) (hc : bd 256 c) (hR : RdS c n x F wd) : mj_Sx sta (d + 4) 179 [.ref 151, .ref (mj_SB + j)] [(mo th tr wh dr rd F wd ac im lw tk st sh ru rz aw al sd), (152, ab c)] (fun v w => v = none ∧ ∃ F' wd', RdS c n (xnd c n ws x) F' wd' ∧ w = [(mo th tr wh dr rd F' wd' ac im lw tk st sh ru rz aw al sd), (152, ab c)]) := by
  refine mj_Sx.mk m_X10_needs (by decide) n_X10_needs rfl (fun h0 hv => ?_)
  generalize hT : mj_rx m_X10_needs h0 _ _ = T
  have hok := xnd_ok (c := c) (n := n) (ws := ws) (x := x)
  have fin : ∀ F' wd' h, RdS c n (if xis c n ws x then x else xfl 1 x) F' wd' → mj_Vw h0 [(mo th tr wh dr rd F' wd' ac im lw tk st sh ru rz aw al sd), (152, ab c)] h → mj_go sta (mj_Cl sta (d + 3)) m_X10_needs T 13 [some (.ref 151), some (.ref (mj_SB + j))] [] h := by
    intro F' wd' h hR' hv
    repeat (first | refine g_px rfl rfl rfl ?_)
    refine g_callV hv [0, 1] 0 rfl rfl rfl rfl rfl rfl rfl rfl (by decide) (s_MgoesOn sta (d + 1) th tr wh dr rd F' wd' ac im lw tk st sh ru rz aw al sd c n _ hok hn hc hR') (fun v w' h hp hk2 hv => ?_)
    obtain ⟨rfl, F2, wd2, hR2, rfl⟩ := hp
    subst hT
    exact g_vret hv rfl rfl rfl ⟨rfl, F2, wd2, hR2, rfl⟩
  repeat (first | refine g_px rfl rfl rfl ?_)
  refine g_callV hv [0] 0 rfl rfl rfl rfl rfl rfl rfl rfl (by decide) (s_MisWord sta d th tr wh dr rd F wd ac im lw tk st sh ru rz aw al sd c n x j r ws hr hw hal hl hR) (fun v w' h hp hk2 hv => ?_)
  obtain ⟨rfl, rfl⟩ := hp
  have hv : mj_Vw h0 ([(mo th tr wh dr rd F wd ac im lw tk st sh ru rz aw al sd), (152, ab c)]) h := hv
  refine g_if rfl (fun cq => ?_) (fun cq => ?_)
  · have cq : ¬ bl (xis c n ws x) = 0 := cq
    rw [bl_0, Bool.not_eq_false] at cq
    exact fin F wd h (by rw [if_pos cq]; exact hR) hv
  · have cq : ¬ ¬ bl (xis c n ws x) = 0 := cq
    rw [bl_0, Decidable.not_not] at cq
    repeat (first | refine g_px rfl rfl rfl ?_)
    refine g_callV hv [0] 0 rfl rfl rfl rfl rfl rfl rfl rfl (by decide) (s_Mflaw sta (d + 2) th tr wh dr rd F wd ac im lw tk st sh ru rz aw al sd c n 1 x hR) (fun v w' h hp hk2 hv => ?_)
    obtain ⟨rfl, F1, hR1, rfl⟩ := hp
    exact fin F1 wd h (by rw [cq, if_neg (by decide)]; exact hR1) hv
theorem s_MreadWhole (x : XP) (most : Nat) (hm : most ≤ 1000) (hn : n ≤ 800) (hc : bd 256 c) (hR : RdS c n x F wd) : mj_Sx sta (d + 3) 180 [.ref 151, (.int (nI 0)), (.int (nI most))] [(mo th tr wh dr rd F wd ac im lw tk st sh ru rz aw al sd), (152, ab c)] (fun v w => v = some (.int (nI (xvl c n (xwh c n most x)))) ∧ ∃ F' wd', RdS c n (xgo c n (xwh c n most x)) F' wd' ∧ w = [(mo th tr wh dr rd F' wd' ac im lw tk st sh ru rz aw al sd), (152, ab c)]) := by
  refine mj_Sx.mk m_X10_readWhole (by decide) n_X10_readWhole rfl (fun h0 hv => ?_)
  generalize hT : mj_rx m_X10_readWhole h0 _ _ = T
  have hok := xwh_ok (c := c) (n := n) (most := most) (x := x)
  have at49 : ∀ F' wd' y h, RdS c n (xwh c n most x) F' wd' → y = xvl c n (xwh c n most x) → mj_Vw h0 [(mo th tr wh dr rd F' wd' ac im lw tk st sh ru rz aw al sd), (152, ab c)] h → mj_go sta (mj_Cl sta (d + 2)) m_X10_readWhole T 49 [some (.ref 151), some (.int (nI 0)), some (.int (nI most)), none] [(.int (nI y))] h := by
    intro F' wd' y h hR' hy hv
    subst hy
    repeat (first | refine g_px rfl rfl rfl ?_)
    refine g_callV hv [0, 1] 0 rfl rfl rfl rfl rfl rfl rfl rfl (by decide) (s_MgoesOn sta d th tr wh dr rd F' wd' ac im lw tk st sh ru rz aw al sd c n _ hok hn hc hR') (fun v w' h hp hk2 hv => ?_)
    obtain ⟨rfl, F2, wd2, hR2, rfl⟩ := hp
    repeat (first | refine g_px rfl rfl rfl ?_)
    subst hT
    exact g_iret hv rfl rfl rfl rfl ⟨rfl, F2, wd2, hR2, rfl⟩
  have at33 : ∀ F' wd' h, RdS c n (xwh c n most x) F' wd' → mj_Vw h0 [(mo th tr wh dr rd F' wd' ac im lw tk st sh ru rz aw al sd), (152, ab c)] h → mj_go sta (mj_Cl sta (d + 2)) m_X10_readWhole T 33 [some (.ref 151), some (.int (nI 0)), some (.int (nI most)), none] [] h := by
    intro F' wd' h hR' hv
    have h9 := hR'.over
    repeat (first | refine g_px rfl rfl rfl ?_ | refine g_get hv 0 rfl rfl rfl rfl ?_)
    refine g_ic rfl (fun cq => ?_) (fun cq => ?_)
    · have cq : ¬ F' 9 = 5 := cq
      rw [h9] at cq
      have key : F' 11 = nI (xvl c n (xwh c n most x)) := by
        cases hx : xwh c n most x with
        | inr e => rw [hx] at cq; exact absurd rfl cq
        | inl i =>
          have hR2 := hR'
          rw [hx] at hR2
          obtain ⟨-, -, b1, b2, b3, b4, b5, b6, b7⟩ := hR2
          refine b7 ?_
          cases x with
          | inr e => cases hx
          | inl i' =>
            have hx : (if knd c n i' = 2 then (if num c n i' ≤ most then Sum.inl i' else Sum.inr (4, i')) else Sum.inr (1, i')) = (Sum.inl i : XP) := hx
            by_cases q1 : knd c n i' = 2
            · rw [if_pos q1] at hx
              by_cases q2 : num c n i' ≤ most
              · rw [if_pos q2] at hx; cases hx; exact q1
              · rw [if_neg q2] at hx; cases hx
            · rw [if_neg q1] at hx; cases hx
      refine g_run 1 rfl ?_
      refine g_get hv 0 rfl rfl rfl rfl ?_
      rw [key]
      exact at49 F' wd' _ h hR' rfl hv
    · have cq : ¬ ¬ F' 9 = 5 := cq
      rw [h9, Decidable.not_not] at cq
      refine g_run 2 rfl ?_
      refine at49 F' wd' 0 h hR' ?_ hv
      cases hx : xwh c n most x with
      | inl i => rw [hx] at cq; cases cq
      | inr e => rfl
  obtain ⟨r1, r2, r3⟩ := hR
  have hR : RdS c n x F wd := ⟨r1, r2, r3⟩
  have at8 : ∀ h, xwh c n most x = xfl 1 x → mj_Vw h0 [(mo th tr wh dr rd F wd ac im lw tk st sh ru rz aw al sd), (152, ab c)] h → mj_go sta (mj_Cl sta (d + 2)) m_X10_readWhole T 8 [some (.ref 151), some (.int (nI 0)), some (.int (nI most)), none] [] h := by
    intro h he hv
    repeat (first | refine g_px rfl rfl rfl ?_)
    refine g_callV hv [0] 0 rfl rfl rfl rfl rfl rfl rfl rfl (by decide) (s_Mflaw sta (d + 1) th tr wh dr rd F wd ac im lw tk st sh ru rz aw al sd c n 1 x hR) (fun v w' h hp hk2 hv => ?_)
    obtain ⟨rfl, F1, hR1, rfl⟩ := hp
    refine g_run 1 rfl ?_
    exact at33 F1 wd h (by rw [he]; exact hR1) hv
  repeat (first | refine g_px rfl rfl rfl ?_ | refine g_get hv 0 rfl rfl rfl rfl ?_)
  cases x with
  | inr e =>
    rw [r3.1]
    refine g_ic rfl (fun cq => absurd cq (cpF (by decide))) (fun cq => ?_)
    exact at8 h0 rfl hv
  | inl i =>
    obtain ⟨a1, a2, a3, a4, a5, a6, a7⟩ := r3
    rw [a2]
    refine g_ic rfl (fun cq => ?_) (fun cq => ?_)
    · have cq : nI (mk_ (knd c n i)) = nI 3 := cq
      rw [mk_eq _ (knd_lt c n i) 3 (by decide) (by decide)] at cq
      have hkk : knd c n i = 2 := by omega
      have hk3 := knd_2 c n hkk
      have hnl : num c n i ≤ 30000 := nvl_lt c i hc _ (by omega)
      repeat (first | refine g_px rfl rfl rfl ?_ | refine g_get hv 0 rfl rfl rfl rfl ?_)
      rw [a7 hkk]
      refine g_callS hv [] rfl rfl rfl rfl rfl rfl rfl (by decide) (s_Min sta (d + 1) (nI (num c n i)) _ _) (fun v w' h hp hk2 hv => ?_)
      obtain ⟨rfl, rfl⟩ := hp
      rw [show (decide (nI 0 ≤ nI (num c n i)) && decide (nI (num c n i) ≤ nI most)) = decide (num c n i ≤ most) by
        rw [decide_eq_true (nI_le (Nat.zero_le _) (by omega)), Bool.true_and]
        exact decide_eq_decide.mpr (nI_leI (by omega) (by omega))]
      have hv : mj_Vw h0 ([(mo th tr wh dr rd F wd ac im lw tk st sh ru rz aw al sd), (152, ab c)]) h := hv
      refine g_if rfl (fun cq => ?_) (fun cq => ?_)
      · have cq : ¬ bl (decide (num c n i ≤ most)) = 0 := cq
        rw [bl_0, Bool.not_eq_false, decide_eq_true_eq] at cq
        refine at33 F wd h ?_ hv
        rw [xwh_i, if_pos hkk, if_pos cq]
        exact hR
      · have cq : ¬ ¬ bl (decide (num c n i ≤ most)) = 0 := cq
        rw [bl_0, Decidable.not_not, decide_eq_false_iff_not] at cq
        repeat (first | refine g_px rfl rfl rfl ?_)
        refine g_callV hv [0] 0 rfl rfl rfl rfl rfl rfl rfl rfl (by decide) (s_Mflaw sta (d + 1) th tr wh dr rd F wd ac im lw tk st sh ru rz aw al sd c n 4 (.inl i) hR) (fun v w' h hp hk2 hv => ?_)
        obtain ⟨rfl, F1, hR1, rfl⟩ := hp
        refine at33 F1 wd h ?_ hv
        rw [xwh_i, if_pos hkk, if_neg cq]
        exact hR1
    · have cq : ¬ nI (mk_ (knd c n i)) = nI 3 := cq
      rw [mk_eq _ (knd_lt c n i) 3 (by decide) (by decide)] at cq
      refine at8 h0 ?_ hv
      exact if_neg (fun z => cq (by omega))
theorem s_MreadPart (x : XP) (j : Nat) (r : String × Nat × String) (ws : List Nat) (most : Nat) (hr : mj_nth mj_str j = some r) (hw : r.2.2.toList.map Char.toNat = ws) (hal : alw ws) (hl : ws.length ≤ 8) (hm : most ≤ 1000) (hn : n ≤ 800) (hc : bd 256 c) (hR : RdS c n x F wd) : mj_Sx sta (d + 5) 181 [.ref 151, .ref (mj_SB + j), (.int (nI 0)), (.int (nI most))] [(mo th tr wh dr rd F wd ac im lw tk st sh ru rz aw al sd), (152, ab c)] (fun v w => v = some (.int (nI (xvl c n (xwh c n most (xnd c n ws x))))) ∧ ∃ F' wd', RdS c n (xgo c n (xwh c n most (xnd c n ws x))) F' wd' ∧ w = [(mo th tr wh dr rd F' wd' ac im lw tk st sh ru rz aw al sd), (152, ab c)]) := by
  refine mj_Sx.mk m_X10_readPart (by decide) n_X10_readPart rfl (fun h0 hv => ?_)
  generalize hT : mj_rx m_X10_readPart h0 _ _ = T
  repeat (first | refine g_px rfl rfl rfl ?_)
  refine g_callV hv [0, 1] 0 rfl rfl rfl rfl rfl rfl rfl rfl (by decide) (s_Mneeds sta d th tr wh dr rd F wd ac im lw tk st sh ru rz aw al sd c n x j r ws hr hw hal hl hn hc hR) (fun v w' h hp hk2 hv => ?_)
  obtain ⟨rfl, F1, wd1, hR1, rfl⟩ := hp
  have hv : mj_Vw h0 ([(mo th tr wh dr rd F1 wd1 ac im lw tk st sh ru rz aw al sd), (152, ab c)]) h := hv
  repeat (first | refine g_px rfl rfl rfl ?_)
  refine g_callV hv [0, 1] 0 rfl rfl rfl rfl rfl rfl rfl rfl (by decide) (s_MreadWhole sta (d + 1) th tr wh dr rd F1 wd1 ac im lw tk st sh ru rz aw al sd c n _ most hm hn hc hR1) (fun v w' h hp hk2 hv => ?_)
  obtain ⟨rfl, F2, wd2, hR2, rfl⟩ := hp
  subst hT
  exact g_iret hv rfl rfl rfl rfl ⟨rfl, F2, wd2, hR2, rfl⟩
end Mw
