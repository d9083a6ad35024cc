/-! the reference's tokens -/
/-- words as numbers -/
def pkw (c : Nat → Nat) (i : Nat) : Nat → Nat
  | 0 => 0
  | l + 1 => 32 * pkw c i l + (c (i + l) - 96)
def pkr : List Nat → Nat
  | [] => 0
  | x :: t => 32 * pkr t + (x - 96)
def pkd (l : List Nat) : Nat := pkr l.reverse
theorem lsub_s {c : Nat → Nat} : ∀ l i, lsub c (l + 1) i = lsub c l i ++ [c (i + l)]
  | 0, i => rfl
  | l + 1, i => by
    show c i :: lsub c (l + 1) (i + 1) = (c i :: lsub c l (i + 1)) ++ [c (i + (l + 1))]
    rw [lsub_s l (i + 1), List.cons_append, show i + 1 + l = i + (l + 1) by omega]
theorem pkd_lsub {c : Nat → Nat} {i : Nat} : ∀ l, pkd (lsub c l i) = pkw c i l
  | 0 => rfl
  | l + 1 => by
    have ih := pkd_lsub (c := c) (i := i) l
    unfold pkd at ih ⊢
    rw [lsub_s, List.reverse_append, List.reverse_singleton, List.singleton_append, pkr, pkw, ih]
/-- letters alone -/
def alw (l : List Nat) : Prop := ∀ x ∈ l, ltr x = true
theorem ltr_b {x : Nat} (h : ltr x = true) : 97 ≤ x ∧ x ≤ 122 := by
  unfold ltr at h
  simpa using h
theorem pkr_inj : ∀ {a b : List Nat}, alw a → alw b → pkr a = pkr b → a = b
  | [], [], _, _, _ => rfl
  | [], y :: b, _, hb, h => by
    have := ltr_b (hb y (List.mem_cons_self ..))
    rw [pkr, pkr] at h
    omega
  | x :: a, [], ha, _, h => by
    have := ltr_b (ha x (List.mem_cons_self ..))
    rw [pkr, pkr] at h
    omega
  | x :: a, y :: b, ha, hb, h => by
    have h1 := ltr_b (ha x (List.mem_cons_self ..))
    have h2 := ltr_b (hb y (List.mem_cons_self ..))
    rw [pkr, pkr] at h
    have e1 : x = y := by omega
    have e2 : pkr a = pkr b := by omega
    rw [e1, pkr_inj (fun z hz => ha z (List.mem_cons_of_mem _ hz)) (fun z hz => hb z (List.mem_cons_of_mem _ hz)) e2]
theorem pkd_inj {a b : List Nat} (ha : alw a) (hb : alw b) : pkd a = pkd b ↔ a = b :=
  ⟨fun h => List.reverse_inj.mp (pkr_inj (fun z hz => ha z (List.mem_reverse.mp hz)) (fun z hz => hb z (List.mem_reverse.mp hz)) h), fun h => by rw [h]⟩
theorem pkr_lt : ∀ {a : List Nat}, alw a → pkr a < 32 ^ a.length
  | [], _ => by decide
  | x :: a, h => by
    have h1 := ltr_b (h x (List.mem_cons_self ..))
    have ih := pkr_lt (fun z hz => h z (List.mem_cons_of_mem _ hz))
    rw [pkr, List.length_cons, Nat.pow_succ]
    omega
theorem pkd_lt {a : List Nat} (h : alw a) (h8 : a.length ≤ 8) : pkd a < 2 ^ 40 := by
  have h1 := pkr_lt (a := a.reverse) (fun z hz => h z (List.mem_reverse.mp hz))
  rw [List.length_reverse] at h1
  have h2 : 32 ^ a.length ≤ 32 ^ 8 := Nat.pow_le_pow_right (by decide) h8
  have h3 : (32 : Nat) ^ 8 = 2 ^ 40 := by decide
  unfold pkd
  omega
theorem lsub_mem {c : Nat → Nat} : ∀ l i x, x ∈ lsub c l i → ∃ k, i ≤ k ∧ k < i + l ∧ x = c k
  | 0, i, x, h => by cases h
  | l + 1, i, x, h => by
    rw [lsub] at h
    rcases List.mem_cons.mp h with e | e
    · exact ⟨i, by omega, by omega, e⟩
    · obtain ⟨k, h1, h2, h3⟩ := lsub_mem l (i + 1) x e
      exact ⟨k, by omega, by omega, h3⟩
theorem wl_al {c : Nat → Nat} {n i : Nat} (h : knd c n i = 1) : alw (wl c n i) ∧ (wl c n i).length ≤ 8 := by
  have hb := (knd_1 c n h).2.2.2
  refine ⟨fun x hx => ?_, by rw [wl, lsub_len]; exact hb.1⟩
  obtain ⟨k, h1, h2, rfl⟩ := lsub_mem _ _ _ hx
  exact word_in c n h h1 (by omega)
abbrev XP : Type := Nat ⊕ FP
/-- the reference's kinds -/
def mk_ (k : Nat) : Nat := if k = 4 then 0 else k + 1
section Rs
variable (c : Nat → Nat) (n : Nat)
/-- where it reads, or the fault -/
def RdS (x : XP) (F : Nat → Int32) (wd : Int64) : Prop := F 6 = 0 ∧ F 7 = nI n ∧ match x with
  | .inl i => i ≤ n ∧ F 9 = nI (mk_ (knd c n i)) ∧ F 10 = nI i ∧ F 12 = 0 ∧ (knd c n i ≠ 4 → F 8 = nI (bhd c n i)) ∧ (knd c n i = 1 → wd = lN (pkd (wl c n i))) ∧ (knd c n i = 2 → F 11 = nI (num c n i))
  | .inr e => F 9 = 5 ∧ F 12 = nI e.1 ∧ F 13 = nI e.2
end Rs
theorem s_MisLetter (sta : mj_S) (d : Nat) (x : Int32) : mj_Sx sta (d + 1) 172 [.int x] [] (fun v w => v = some (.int (bl (decide ((97 : Int32) ≤ x) && decide (x ≤ (122 : Int32))))) ∧ w = []) := by
  refine mj_Sx.mk m_X10_isLetter (by decide) n_X10_isLetter rfl (fun h0 hv => ?_)
  generalize hT : mj_rx m_X10_isLetter h0 _ _ = T
  repeat (first | refine g_px rfl rfl rfl ?_)
  refine g_ic rfl (fun cq => ?_) (fun cq => ?_)
  · have cq : x < 97 := cq
    repeat (first | refine g_px rfl rfl rfl ?_)
    subst hT
    refine g_iret hv rfl rfl rfl rfl ?_
    exact ⟨by rw [decide_eq_false (Int32.not_le.mpr cq)]; rfl, rfl⟩
  · have cq : ¬ x < 97 := cq
    repeat (first | refine g_px rfl rfl rfl ?_)
    refine g_ic rfl (fun cq2 => ?_) (fun cq2 => ?_)
    · have cq2 : 122 < x := cq2
      repeat (first | refine g_px rfl rfl rfl ?_)
      subst hT
      refine g_iret hv rfl rfl rfl rfl ?_
      exact ⟨by rw [decide_eq_false (p := x ≤ 122) (Int32.not_le.mpr cq2), Bool.and_false]; rfl, rfl⟩
    · have cq2 : ¬ 122 < x := cq2
      repeat (first | refine g_px rfl rfl rfl ?_)
      subst hT
      refine g_iret hv rfl rfl rfl rfl ?_
      exact ⟨by rw [decide_eq_true (Int32.not_lt.mp cq), decide_eq_true (Int32.not_lt.mp cq2)]; rfl, rfl⟩
theorem s_MisDigit (sta : mj_S) (d : Nat) (x : Int32) : mj_Sx sta (d + 1) 173 [.int x] [] (fun v w => v = some (.int (bl (decide ((48 : Int32) ≤ x) && decide (x ≤ (57 : Int32))))) ∧ w = []) := by
  refine mj_Sx.mk m_X10_isDigit (by decide) n_X10_isDigit rfl (fun h0 hv => ?_)
  generalize hT : mj_rx m_X10_isDigit h0 _ _ = T
  repeat (first | refine g_px rfl rfl rfl ?_)
  refine g_ic rfl (fun cq => ?_) (fun cq => ?_)
  · have cq : x < 48 := cq
    repeat (first | refine g_px rfl rfl rfl ?_)
    subst hT
    refine g_iret hv rfl rfl rfl rfl ?_
    exact ⟨by rw [decide_eq_false (Int32.not_le.mpr cq)]; rfl, rfl⟩
  · have cq : ¬ x < 48 := cq
    repeat (first | refine g_px rfl rfl rfl ?_)
    refine g_ic rfl (fun cq2 => ?_) (fun cq2 => ?_)
    · have cq2 : 57 < x := cq2
      repeat (first | refine g_px rfl rfl rfl ?_)
      subst hT
      refine g_iret hv rfl rfl rfl rfl ?_
      exact ⟨by rw [decide_eq_false (p := x ≤ 57) (Int32.not_le.mpr cq2), Bool.and_false]; rfl, rfl⟩
    · have cq2 : ¬ 57 < x := cq2
      repeat (first | refine g_px rfl rfl rfl ?_)
      subst hT
      refine g_iret hv rfl rfl rfl rfl ?_
      exact ⟨by rw [decide_eq_true (Int32.not_lt.mp cq), decide_eq_true (Int32.not_lt.mp cq2)]; rfl, rfl⟩
/-- a byte, or the end -/
def btA (c : Nat → Nat) (n k : Nat) : Int32 := if k < n then nI (c k) else -1
theorem ltr_I : ∀ k, k < 256 → (decide ((97 : Int32) ≤ nI k) && decide (nI k ≤ (122 : Int32))) = ltr k := by decide +kernel
theorem dgt_I : ∀ k, k < 256 → (decide ((48 : Int32) ≤ nI k) && decide (nI k ≤ (57 : Int32))) = dgt k := by decide +kernel
theorem bt_ltr {c : Nat → Nat} {n k : Nat} (hc : bd 256 c) : (decide ((97 : Int32) ≤ btA c n k) && decide (btA c n k ≤ (122 : Int32))) = (decide (k < n) && ltr (c k)) := by
  unfold btA
  by_cases h : k < n
  · rw [if_pos h, ltr_I _ (hc k), decide_eq_true h, Bool.true_and]
  · rw [if_neg h, decide_eq_false h, Bool.false_and]
    decide
theorem bt_dgt {c : Nat → Nat} {n k : Nat} (hc : bd 256 c) : (decide ((48 : Int32) ≤ btA c n k) && decide (btA c n k ≤ (57 : Int32))) = (decide (k < n) && dgt (c k)) := by
  unfold btA
  by_cases h : k < n
  · rw [if_pos h, dgt_I _ (hc k), decide_eq_true h, Bool.true_and]
  · rw [if_neg h, decide_eq_false h, Bool.false_and]
    decide
theorem bt_32 {c : Nat → Nat} {n k : Nat} (hc : bd 256 c) : (btA c n k = nI 32 ↔ k < n ∧ c k = 32) := by
  unfold btA
  by_cases h : k < n
  · have := hc k
    rw [if_pos h, nI_eq (by omega) (by decide)]
    exact ⟨fun e => ⟨h, e⟩, fun e => e.2⟩
  · rw [if_neg h]
    exact ⟨fun e => absurd e (by decide), fun e => absurd e.1 h⟩
section Mt
variable (sta : mj_S) (d : Nat) (th tr wh : Int32) (dr rd : Option Nat) (F : Nat → Int32) (wd : Int64) (ac im lw tk st : Int32) (sh ru : Int64) (rz aw al sd : Int32) (c : Nat → Nat) (n : Nat)
theorem s_MbyteAt (k : Nat) (hk : k ≤ 800) (hn : n ≤ 800) (h7 : F 7 = nI n) (hc : bd 256 c) : mj_Sx sta (d + 1) 171 [.ref 151, (.int (nI k))] [(mo th tr wh dr rd F wd ac im lw tk st sh ru rz aw al sd), (152, ab c)] (fun v w => v = some (.int (btA c n k)) ∧ w = [(mo th tr wh dr rd F wd ac im lw tk st sh ru rz aw al sd), (152, ab c)]) := by
  refine mj_Sx.mk m_X10_byteAt (by decide) n_X10_byteAt rfl (fun h0 hv => ?_)
  generalize hT : mj_rx m_X10_byteAt h0 _ _ = T
  repeat (first | refine g_px rfl rfl rfl ?_ | refine g_get hv 0 rfl rfl rfl rfl ?_)
  rw [h7]
  refine g_ic rfl (fun cq => ?_) (fun cq => ?_)
  · have cq : nI n ≤ nI k := cq
    rw [nI_leI (by omega) (by omega)] at cq
    repeat (first | refine g_px rfl rfl rfl ?_)
    subst hT
    refine g_iret hv rfl rfl rfl rfl ?_
    exact ⟨by rw [btA, if_neg (by omega)]; rfl, rfl⟩
  · have cq : ¬ nI n ≤ nI k := cq
    rw [nI_leI (by omega) (by omega)] at cq
    repeat (first | refine g_px rfl rfl rfl ?_ | refine g_get hv 0 rfl rfl rfl rfl ?_)
    refine g_b8 hv 1 (k := k) (by omega) rfl rfl ?_
    refine g_run 2 rfl ?_
    rw [sb_255 _ (hc k)]
    repeat (first | refine g_px rfl rfl rfl ?_)
    subst hT
    refine g_iret hv rfl rfl rfl rfl ?_
    exact ⟨by rw [btA, if_pos (by omega)], rfl⟩
theorem s_Mflaw_o (y : Int32) (h9 : F 9 = 5) : mj_Sx sta (d + 1) 176 [.ref 151, .int y] [(mo th tr wh dr rd F wd ac im lw tk st sh ru rz aw al sd)] (fun v w => v = none ∧ w = [(mo th tr wh dr rd F wd ac im lw tk st sh ru rz aw al sd)]) := by
  refine mj_Sx.mk m_X10_flaw (by decide) n_X10_flaw rfl (fun h0 hv => ?_)
  generalize hT : mj_rx m_X10_flaw h0 _ _ = T
  repeat (first | refine g_px rfl rfl rfl ?_ | refine g_get hv 0 rfl rfl rfl rfl ?_)
  rw [h9]
  refine g_ic rfl (fun cq => absurd cq (cpF (by decide))) (fun cq => ?_)
  subst hT
  exact g_vret hv rfl rfl rfl ⟨rfl, rfl⟩
theorem s_Mflaw_l (y : Int32) (h9 : ¬ F 9 = 5) : mj_Sx sta (d + 1) 176 [.ref 151, .int y] [(mo th tr wh dr rd F wd ac im lw tk st sh ru rz aw al sd)] (fun v w => v = none ∧ w = [(mo th tr wh dr rd (va_up (va_up (va_up F 12 y) 13 (F 10)) 9 5) wd ac im lw tk st sh ru rz aw al sd)]) := by
  refine mj_Sx.mk m_X10_flaw (by decide) n_X10_flaw rfl (fun h0 hv => ?_)
  generalize hT : mj_rx m_X10_flaw h0 _ _ = T
  repeat (first | refine g_px rfl rfl rfl ?_ | refine g_get hv 0 rfl rfl rfl rfl ?_)
  refine g_ic rfl (fun cq => ?_) (fun cq => absurd h9 cq)
  repeat (first | refine g_px rfl rfl rfl ?_)
  refine g_put hv 0 rfl rfl rfl rfl rfl rfl (fun h hv => ?_)
  repeat (first | refine g_px rfl rfl rfl ?_ | refine g_get hv 0 rfl rfl rfl rfl ?_)
  refine g_put hv 0 rfl rfl rfl rfl rfl rfl (fun h hv => ?_)
  repeat (first | refine g_px rfl rfl rfl ?_)
  refine g_put hv 0 rfl rfl rfl rfl rfl rfl (fun h hv => ?_)
  subst hT
  exact g_vret hv rfl rfl rfl ⟨rfl, rfl⟩
theorem s_MgoesOn_o (h9 : F 9 = 5) : mj_Sx sta (d + 2) 175 [.ref 151] [(mo th tr wh dr rd F wd ac im lw tk st sh ru rz aw al sd), (152, ab c)] (fun v w => v = none ∧ w = [(mo th tr wh dr rd F wd ac im lw tk st sh ru rz aw al sd), (152, ab c)]) := by
  refine mj_Sx.mk m_X10_goesOn (by decide) n_X10_goesOn rfl (fun h0 hv => ?_)
  generalize hT : mj_rx m_X10_goesOn h0 _ _ = T
  repeat (first | refine g_px rfl rfl rfl ?_ | refine g_get hv 0 rfl rfl rfl rfl ?_)
  rw [h9]
  refine g_ic rfl (fun cq => absurd cq (cpF (by decide))) (fun cq => ?_)
  subst hT
  exact g_vret hv rfl rfl rfl ⟨rfl, rfl⟩
theorem mk_5 (k : Nat) (h : k ≤ 4) : ¬ nI (mk_ k) = 5 := by
  have : ∀ k, k < 5 → ¬ nI (mk_ k) = 5 := by decide
  exact this k (by omega)
theorem s_MgoesOn_j (j0 : Nat) (hj0 : j0 ≤ n) (hn : n ≤ 800) (h6 : F 6 = 0) (h7 : F 7 = nI n) (h8 : F 8 = nI j0) (h9 : ¬ F 9 = 5) (h12 : F 12 = 0) (hc : bd 256 c) : mj_Sx sta (d + 2) 175 [.ref 151] [(mo th tr wh dr rd F wd ac im lw tk st sh ru rz aw al sd), (152, ab c)] (fun v w => v = none ∧ ∃ F' wd', RdS c n (.inl (rn blk_ c n j0)) F' wd' ∧ w = [(mo th tr wh dr rd F' wd' ac im lw tk st sh ru rz aw al sd), (152, ab c)]) := by
  refine mj_Sx.mk m_X10_goesOn (by decide) n_X10_goesOn rfl (fun h0 hv => ?_)
  generalize hT : mj_rx m_X10_goesOn h0 _ _ = T
  have hin := rn_ge (p := blk_) (c := c) hj0
  generalize hie : rn blk_ c n j0 = i at hT hin
  have h256 := hc i
  -- the end: the return
  have fin : ∀ (pc' : Nat) lv F' wd' h, pc' = 265 → mj_Vw h0 [(mo th tr wh dr rd F' wd' ac im lw tk st sh ru rz aw al sd), (152, ab c)] h → RdS c n (.inl i) F' wd' → mj_go sta (mj_Cl sta (d + 1)) m_X10_goesOn T pc' lv [] h := by
    intro pc' lv F' wd' h hp hv hR
    subst hp
    subst hT
    exact g_vret hv rfl rfl rfl ⟨rfl, F', wd', hR, rfl⟩
  have at35 : ∀ h, mj_Vw h0 [(mo th tr wh dr rd (va_up F 8 (nI i)) wd ac im lw tk st sh ru rz aw al sd), (152, ab c)] h → mj_go sta (mj_Cl sta (d + 1)) m_X10_goesOn T 35 [some (.ref 151), none, none] [] h := by
    intro h hv
    refine g_run 2 rfl ?_
    refine g_get hv 0 rfl rfl rfl rfl ?_
    refine g_put hv 0 rfl rfl rfl rfl rfl rfl (fun h hv => ?_)
    have hv : mj_Vw h0 ([(mo th tr wh dr rd (va_up (va_up F 8 (nI i)) 10 (nI i)) wd ac im lw tk st sh ru rz aw al sd), (152, ab c)]) h := hv
    refine g_run 2 rfl ?_
    refine g_put hv 0 rfl rfl rfl rfl rfl rfl (fun h hv => ?_)
    have hv : mj_Vw h0 ([(mo th tr wh dr rd (va_up (va_up (va_up F 8 (nI i)) 10 (nI i)) 9 0) wd ac im lw tk st sh ru rz aw al sd), (152, ab c)]) h := hv
    generalize hF1 : va_up (va_up (va_up F 8 (nI i)) 10 (nI i)) 9 0 = F1 at hv
    have f6 : F1 6 = 0 := by rw [← hF1]; exact h6
    have f7 : F1 7 = nI n := by rw [← hF1]; exact h7
    have f8 : F1 8 = nI i := by rw [← hF1]; rfl
    have f9 : F1 9 = 0 := by rw [← hF1]; rfl
    have f10 : F1 10 = nI i := by rw [← hF1]; rfl
    have f12 : F1 12 = 0 := by rw [← hF1]; exact h12
    refine g_run 2 rfl ?_
    refine g_get hv 0 rfl rfl rfl rfl ?_
    rw [f8]
    refine g_callV hv [0, 1] 0 rfl rfl rfl rfl rfl rfl rfl rfl (by decide) (s_MbyteAt sta d th tr wh dr rd F1 wd ac im lw tk st sh ru rz aw al sd c n i (by omega) hn f7 hc) (fun v w' h hp hk2 hv => ?_)
    obtain ⟨rfl, rfl⟩ := hp
    have hv : mj_Vw h0 ([(mo th tr wh dr rd F1 wd ac im lw tk st sh ru rz aw al sd), (152, ab c)]) h := hv
    repeat (first | refine g_px rfl rfl rfl ?_)
    refine g_ic rfl (fun cq => ?_) (fun cq => ?_)
    · have cq : ¬ btA c n i = -1 := cq
      have hlt : i < n := by
        by_cases h : i < n
        · exact h
        · exact absurd (by rw [btA, if_neg h]) cq
      have eb : btA c n i = nI (c i) := by rw [btA, if_pos hlt]
      have hni : ¬ n ≤ i := by omega
      repeat (first | refine g_px rfl rfl rfl ?_)
      refine g_callS hv [] rfl rfl rfl rfl rfl rfl rfl (by decide) (s_MisLetter sta d _) (fun v w' h hp hk2 hv => ?_)
      obtain ⟨rfl, rfl⟩ := hp
      rw [bt_ltr hc, decide_eq_true hlt, Bool.true_and]
      have hv : mj_Vw h0 ([(mo th tr wh dr rd F1 wd ac im lw tk st sh ru rz aw al sd), (152, ab c)]) h := hv
      refine g_if rfl (fun cq => ?_) (fun cq => ?_)
      · have cq : bl (ltr (c i)) = 0 := cq
        rw [bl_0] at cq
        have hl := cq
        repeat (first | refine g_px rfl rfl rfl ?_)
        refine g_callS hv [] rfl rfl rfl rfl rfl rfl rfl (by decide) (s_MisDigit sta d _) (fun v w' h hp hk2 hv => ?_)
        obtain ⟨rfl, rfl⟩ := hp
        rw [bt_dgt hc, decide_eq_true hlt, Bool.true_and]
        have hv : mj_Vw h0 ([(mo th tr wh dr rd F1 wd ac im lw tk st sh ru rz aw al sd), (152, ab c)]) h := hv
        refine g_if rfl (fun cq => ?_) (fun cq => ?_)
        · have cq : bl (dgt (c i)) = 0 := cq
          rw [bl_0] at cq
          have hd := cq
          rw [eb]
          repeat (first | refine g_px rfl rfl rfl ?_)
          refine g_ic rfl (fun cq => ?_) (fun cq => ?_)
          · have cq : ¬ nI (c i) = nI 59 := cq
            rw [nI_eq (by omega) (by decide)] at cq
            have hk : knd c n i = 4 := by unfold knd; rw [if_neg hni, if_neg cq, hl, if_neg (by decide), hd, if_neg (by decide)]
            refine fin _ _ F1 wd h rfl hv ⟨f6, f7, by omega, by rw [hk, f9]; rfl, f10, f12, (fun z => absurd hk z), (fun z => by rw [hk] at z; cases z), (fun z => by rw [hk] at z; cases z)⟩
          · have cq : ¬ ¬ nI (c i) = nI 59 := cq
            rw [nI_eq (by omega) (by decide), Decidable.not_not] at cq
            have hk : knd c n i = 3 := by unfold knd; rw [if_neg hni, if_pos cq]
            have hb : bhd c n i = i + 1 := by unfold bhd; rw [if_neg hni, if_pos cq]
            repeat (first | refine g_px rfl rfl rfl ?_)
            refine g_put hv 0 rfl rfl rfl rfl rfl rfl (fun h hv => ?_)
            refine g_run 2 rfl ?_
            refine g_get hv 0 rfl rfl rfl rfl ?_
            rw [f8]
            refine g_run 2 rfl ?_
            rw [show nI i + Int32.ofInt 1 = nI (i + 1) from (nI_succ i).symm]
            refine g_put hv 0 rfl rfl rfl rfl rfl rfl (fun h hv => ?_)
            have hv : mj_Vw h0 ([(mo th tr wh dr rd (va_up (va_up F1 9 4) 8 (nI (i + 1))) wd ac im lw tk st sh ru rz aw al sd), (152, ab c)]) h := hv
            refine fin _ _ _ wd h rfl hv ⟨f6, f7, by omega, by rw [hk]; rfl, f10, f12, (fun z => by rw [hb]; rfl), (fun z => by rw [hk] at z; cases z), (fun z => by rw [hk] at z; cases z)⟩
        · have cq : ¬ bl (dgt (c i)) = 0 := cq
          rw [bl_0, Bool.not_eq_false] at cq
          have hd := cq
          have h59 : ¬ c i = 59 := fun z => by rw [z] at hd; exact absurd hd (by decide)
          have hb : bhd c n i = rn dgt c n i := by unfold bhd; rw [if_neg hni, if_neg h59, hl, if_neg (by decide), hd, if_pos rfl]
          have he := rn_ge (p := dgt) (c := c) (n := n) (i := i) (by omega)
          have loop : ∀ y k h, i + k + y = n → rn dgt c n (i + k) = rn dgt c n i → (∀ x, i ≤ x → x < i + k → dgt (c x) = true) → mj_Vw h0 [(mo th tr wh dr rd (va_up (va_up F1 8 (nI (i + k))) 11 (nI (nvl c i (min k 3)))) wd ac im lw tk st sh ru rz aw al sd), (152, ab c)] h → mj_go sta (mj_Cl sta (d + 1)) m_X10_goesOn T 173 [some (.ref 151), some (.int (btA c n i)), some (.int (nI k))] [] h := by
            intro y
            have done : ∀ k h, i + k ≤ n → rn dgt c n i = i + k → mj_Vw h0 [(mo th tr wh dr rd (va_up (va_up F1 8 (nI (i + k))) 11 (nI (nvl c i (min k 3)))) wd ac im lw tk st sh ru rz aw al sd), (152, ab c)] h → mj_go sta (mj_Cl sta (d + 1)) m_X10_goesOn T 231 [some (.ref 151), some (.int (btA c n i)), some (.int (nI k))] [] h := by
              intro k h hk hr hv
              repeat (first | refine g_px rfl rfl rfl ?_)
              refine g_ic rfl (fun cq => ?_) (fun cq => ?_)
              · have cq : nI 3 < nI k := cq
                rw [nI_ltI (by decide) (by omega)] at cq
                have hk : knd c n i = 4 := by unfold knd; rw [if_neg hni, if_neg h59, hl, if_neg (by decide), hd, if_pos rfl, if_neg (by omega)]
                refine fin _ _ _ wd h rfl hv ⟨f6, f7, by omega, by rw [hk]; exact f9, f10, f12, (fun z => absurd hk z), (fun z => by rw [hk] at z; cases z), (fun z => by rw [hk] at z; cases z)⟩
              · have cq : ¬ nI 3 < nI k := cq
                rw [nI_ltI (by decide) (by omega)] at cq
                have hk : knd c n i = 2 := by unfold knd; rw [if_neg hni, if_neg h59, hl, if_neg (by decide), hd, if_pos rfl, if_pos (by omega)]
                repeat (first | refine g_px rfl rfl rfl ?_)
                refine g_put hv 0 rfl rfl rfl rfl rfl rfl (fun h hv => ?_)
                have hv : mj_Vw h0 ([(mo th tr wh dr rd (va_up (va_up (va_up F1 8 (nI (i + k))) 11 (nI (nvl c i (min k 3)))) 9 3) wd ac im lw tk st sh ru rz aw al sd), (152, ab c)]) h := hv
                refine g_run 1 rfl ?_
                refine fin _ _ _ wd h rfl hv ⟨f6, f7, by omega, by rw [hk]; rfl, f10, f12, (fun z => by rw [hb, hr]; rfl), (fun z => by rw [hk] at z; cases z), (fun z => by rw [num, hb, hr, show i + k - i = k by omega]; show nI (nvl c i (min k 3)) = _; rw [Nat.min_eq_left (show k ≤ 3 by omega)])⟩
            induction y with
            | zero =>
              intro k h hk hr hal hv
              refine g_run 2 rfl ?_
              refine g_get hv 0 rfl rfl rfl rfl ?_
              show mj_go sta (mj_Cl sta (d + 1)) m_X10_goesOn T 178 _ [(.int (nI (i + k))), .ref 151] h
              refine g_callV hv [0, 1] 0 rfl rfl rfl rfl rfl rfl rfl rfl (by decide) (s_MbyteAt sta d th tr wh dr rd (va_up (va_up F1 8 (nI (i + k))) 11 (nI (nvl c i (min k 3)))) wd ac im lw tk st sh ru rz aw al sd c n (i + k) (by omega) hn f7 hc) (fun v w' h hp hk2 hv => ?_)
              obtain ⟨rfl, rfl⟩ := hp
              have hv : mj_Vw h0 ([(mo th tr wh dr rd (va_up (va_up F1 8 (nI (i + k))) 11 (nI (nvl c i (min k 3)))) wd ac im lw tk st sh ru rz aw al sd), (152, ab c)]) h := hv
              refine g_callS hv [] rfl rfl rfl rfl rfl rfl rfl (by decide) (s_MisDigit sta d _) (fun v w' h hp hk2 hv => ?_)
              obtain ⟨rfl, rfl⟩ := hp
              rw [bt_dgt hc, decide_eq_false (show ¬ i + k < n by omega), Bool.false_and]
              have hv : mj_Vw h0 ([(mo th tr wh dr rd (va_up (va_up F1 8 (nI (i + k))) 11 (nI (nvl c i (min k 3)))) wd ac im lw tk st sh ru rz aw al sd), (152, ab c)]) h := hv
              refine g_if rfl (fun cq => ?_) (fun cq => absurd rfl cq)
              exact done k h (by omega) (by rw [← hr, rn_end (by omega)]) hv
            | succ y ih =>
              intro k h hk hr hal hv
              have h256k := hc (i + k)
              refine g_run 2 rfl ?_
              refine g_get hv 0 rfl rfl rfl rfl ?_
              show mj_go sta (mj_Cl sta (d + 1)) m_X10_goesOn T 178 _ [(.int (nI (i + k))), .ref 151] h
              refine g_callV hv [0, 1] 0 rfl rfl rfl rfl rfl rfl rfl rfl (by decide) (s_MbyteAt sta d th tr wh dr rd (va_up (va_up F1 8 (nI (i + k))) 11 (nI (nvl c i (min k 3)))) wd ac im lw tk st sh ru rz aw al sd c n (i + k) (by omega) hn f7 hc) (fun v w' h hp hk2 hv => ?_)
              obtain ⟨rfl, rfl⟩ := hp
              have hv : mj_Vw h0 ([(mo th tr wh dr rd (va_up (va_up F1 8 (nI (i + k))) 11 (nI (nvl c i (min k 3)))) wd ac im lw tk st sh ru rz aw al sd), (152, ab c)]) h := hv
              refine g_callS hv [] rfl rfl rfl rfl rfl rfl rfl (by decide) (s_MisDigit sta d _) (fun v w' h hp hk2 hv => ?_)
              obtain ⟨rfl, rfl⟩ := hp
              rw [bt_dgt hc, decide_eq_true (show i + k < n by omega), Bool.true_and]
              have hv : mj_Vw h0 ([(mo th tr wh dr rd (va_up (va_up F1 8 (nI (i + k))) 11 (nI (nvl c i (min k 3)))) wd ac im lw tk st sh ru rz aw al sd), (152, ab c)]) h := hv
              refine g_if rfl (fun cq => ?_) (fun cq => ?_)
              · have cq : bl (dgt (c (i + k))) = 0 := cq
                rw [bl_0] at cq
                exact done k h (by omega) (by rw [← hr, rn_no (by omega) cq]) hv
              · have cq : ¬ bl (dgt (c (i + k))) = 0 := cq
                rw [bl_0, Bool.not_eq_false] at cq
                have hdk := cq
                have hdb : 48 ≤ c (i + k) ∧ c (i + k) ≤ 57 := by unfold dgt at hdk; simpa using hdk
                have next : ∀ h, mj_Vw h0 [(mo th tr wh dr rd (va_up (va_up F1 8 (nI (i + k))) 11 (nI (nvl c i (min (k + 1) 3)))) wd ac im lw tk st sh ru rz aw al sd), (152, ab c)] h → mj_go sta (mj_Cl sta (d + 1)) m_X10_goesOn T 215 [some (.ref 151), some (.int (btA c n i)), some (.int (nI k))] [] h := by
                  intro h hv
                  refine g_run 3 rfl ?_
                  refine g_get hv 0 rfl rfl rfl rfl ?_
                  refine g_run 2 rfl ?_
                  rw [show va_up (va_up F1 8 (nI (i + k))) 11 (nI (nvl c i (min (k + 1) 3))) 8 + Int32.ofInt 1 = nI (i + (k + 1)) from (nI_succ (i + k)).symm]
                  refine g_put hv 0 rfl rfl rfl rfl rfl rfl (fun h hv => ?_)
                  have hv : mj_Vw h0 ([(mo th tr wh dr rd (va_up (va_up F1 8 (nI (i + (k + 1)))) 11 (nI (nvl c i (min (k + 1) 3)))) wd ac im lw tk st sh ru rz aw al sd), (152, ab c)]) h := hv
                  refine g_run 1 rfl ?_
                  have hnx := ih (k + 1) h (by omega) (by rw [← hr, rn_yes (by omega) hdk]; rfl) (fun x h1 h2 => by
                    by_cases e : x = i + k
                    · rw [e]; exact hdk
                    · exact hal x h1 (by omega)) hv
                  rw [nI_succ] at hnx
                  exact hnx
                repeat (first | refine g_px rfl rfl rfl ?_)
                refine g_ic rfl (fun cq => ?_) (fun cq => ?_)
                · have cq : nI 3 ≤ nI k := cq
                  rw [nI_leI (by decide) (by omega)] at cq
                  refine next h ?_
                  rw [show min (k + 1) 3 = min k 3 by omega]
                  exact hv
                · have cq : ¬ nI 3 ≤ nI k := cq
                  rw [nI_leI (by decide) (by omega)] at cq
                  have em : min k 3 = k := by omega
                  have em2 : min (k + 1) 3 = k + 1 := by omega
                  refine g_run 3 rfl ?_
                  refine g_get hv 0 rfl rfl rfl rfl ?_
                  refine g_run 3 rfl ?_
                  refine g_get hv 0 rfl rfl rfl rfl ?_
                  show mj_go sta (mj_Cl sta (d + 1)) m_X10_goesOn T 205 _ [(.int (nI (i + k))), .ref 151, .int ((Int8.ofInt 10).toInt32 * nI (nvl c i (min k 3))), .ref 151] h
                  refine g_callV hv [0, 1] 0 rfl rfl rfl rfl rfl rfl rfl rfl (by decide) (s_MbyteAt sta d th tr wh dr rd (va_up (va_up F1 8 (nI (i + k))) 11 (nI (nvl c i (min k 3)))) wd ac im lw tk st sh ru rz aw al sd c n (i + k) (by omega) hn f7 hc) (fun v w' h hp hk2 hv => ?_)
                  obtain ⟨rfl, rfl⟩ := hp
                  have hv : mj_Vw h0 ([(mo th tr wh dr rd (va_up (va_up F1 8 (nI (i + k))) 11 (nI (nvl c i (min k 3)))) wd ac im lw tk st sh ru rz aw al sd), (152, ab c)]) h := hv
                  rw [show btA c n (i + k) = nI (c (i + k)) from if_pos (by omega)]
                  refine g_run 3 rfl ?_
                  rw [show (Int8.ofInt 10).toInt32 * nI (nvl c i (min k 3)) + nI (c (i + k)) - (Int8.ofInt 48).toInt32 = nI (nvl c i (min (k + 1) 3)) by
                    rw [k_10, k_48, pk_mul, nI_add, pk_sub (by omega), em, em2, nvl]
                    congr 1
                    omega]
                  refine g_put hv 0 rfl rfl rfl rfl rfl rfl (fun h hv => ?_)
                  exact next h hv
          repeat (first | refine g_px rfl rfl rfl ?_)
          refine g_put hv 0 rfl rfl rfl rfl rfl rfl (fun h hv => ?_)
          have hv : mj_Vw h0 ([(mo th tr wh dr rd (va_up F1 11 0) wd ac im lw tk st sh ru rz aw al sd), (152, ab c)]) h := hv
          refine loop (n - i) 0 h (by omega) rfl (fun x h1 h2 => by omega) ?_
          have e8 : va_up (va_up F1 8 (nI (i + 0))) 11 (nI (nvl c i (min 0 3))) = va_up F1 11 0 := by
            funext z
            unfold va_up
            by_cases z1 : z = 11
            · rw [if_pos z1, if_pos z1]; rfl
            · rw [if_neg z1, if_neg z1]
              by_cases z2 : z = 8
              · rw [if_pos z2, z2, f8]; rfl
              · rw [if_neg z2]
          rw [e8]
          exact hv
      · have cq : ¬ bl (ltr (c i)) = 0 := cq
        rw [bl_0, Bool.not_eq_false] at cq
        have hl := cq
        have h59 : ¬ c i = 59 := fun z => by rw [z] at hl; exact absurd hl (by decide)
        have hb : bhd c n i = rn ltr c n i := by unfold bhd; rw [if_neg hni, if_neg h59, hl, if_pos rfl]
        have loop : ∀ y k h, i + k + y = n → rn ltr c n (i + k) = rn ltr c n i → mj_Vw h0 [(mo th tr wh dr rd (va_up F1 8 (nI (i + k))) (lN (pkw c i (min k 8))) ac im lw tk st sh ru rz aw al sd), (152, ab c)] h → mj_go sta (mj_Cl sta (d + 1)) m_X10_goesOn T 84 [some (.ref 151), some (.int (btA c n i)), some (.int (nI k))] [] h := by
          intro y
          have done : ∀ k h, i + k ≤ n → rn ltr c n i = i + k → mj_Vw h0 [(mo th tr wh dr rd (va_up F1 8 (nI (i + k))) (lN (pkw c i (min k 8))) ac im lw tk st sh ru rz aw al sd), (152, ab c)] h → mj_go sta (mj_Cl sta (d + 1)) m_X10_goesOn T 147 [some (.ref 151), some (.int (btA c n i)), some (.int (nI k))] [] h := by
            intro k h hk hr hv
            repeat (first | refine g_px rfl rfl rfl ?_)
            refine g_ic rfl (fun cq => ?_) (fun cq => ?_)
            · have cq : nI 8 < nI k := cq
              rw [nI_ltI (by decide) (by omega)] at cq
              have hk : knd c n i = 4 := by unfold knd; rw [if_neg hni, if_neg h59, hl, if_pos rfl, if_neg (by omega)]
              refine fin _ _ _ _ h rfl hv ⟨f6, f7, by omega, by rw [hk]; exact f9, f10, f12, (fun z => absurd hk z), (fun z => by rw [hk] at z; cases z), (fun z => by rw [hk] at z; cases z)⟩
            · have cq : ¬ nI 8 < nI k := cq
              rw [nI_ltI (by decide) (by omega)] at cq
              have hk : knd c n i = 1 := by unfold knd; rw [if_neg hni, if_neg h59, hl, if_pos rfl, if_pos (by omega)]
              repeat (first | refine g_px rfl rfl rfl ?_)
              refine g_put hv 0 rfl rfl rfl rfl rfl rfl (fun h hv => ?_)
              have hv : mj_Vw h0 ([(mo th tr wh dr rd (va_up (va_up F1 8 (nI (i + k))) 9 2) (lN (pkw c i (min k 8))) ac im lw tk st sh ru rz aw al sd), (152, ab c)]) h := hv
              refine g_run 1 rfl ?_
              refine fin _ _ _ _ h rfl hv ⟨f6, f7, by omega, by rw [hk]; rfl, f10, f12, (fun z => by rw [hb, hr]; rfl), (fun z => by rw [wl, hb, hr, show i + k - i = k by omega, pkd_lsub, Nat.min_eq_left (show k ≤ 8 by omega)]), (fun z => by rw [hk] at z; cases z)⟩
          induction y with
          | zero =>
            intro k h hk hr hv
            refine g_run 2 rfl ?_
            refine g_get hv 0 rfl rfl rfl rfl ?_
            show mj_go sta (mj_Cl sta (d + 1)) m_X10_goesOn T 89 _ [(.int (nI (i + k))), .ref 151] h
            refine g_callV hv [0, 1] 0 rfl rfl rfl rfl rfl rfl rfl rfl (by decide) (s_MbyteAt sta d th tr wh dr rd (va_up F1 8 (nI (i + k))) (lN (pkw c i (min k 8))) ac im lw tk st sh ru rz aw al sd c n (i + k) (by omega) hn f7 hc) (fun v w' h hp hk2 hv => ?_)
            obtain ⟨rfl, rfl⟩ := hp
            have hv : mj_Vw h0 ([(mo th tr wh dr rd (va_up F1 8 (nI (i + k))) (lN (pkw c i (min k 8))) ac im lw tk st sh ru rz aw al sd), (152, ab c)]) h := hv
            refine g_callS hv [] rfl rfl rfl rfl rfl rfl rfl (by decide) (s_MisLetter sta d _) (fun v w' h hp hk2 hv => ?_)
            obtain ⟨rfl, rfl⟩ := hp
            rw [bt_ltr hc, decide_eq_false (show ¬ i + k < n by omega), Bool.false_and]
            have hv : mj_Vw h0 ([(mo th tr wh dr rd (va_up F1 8 (nI (i + k))) (lN (pkw c i (min k 8))) ac im lw tk st sh ru rz aw al sd), (152, ab c)]) h := hv
            refine g_if rfl (fun cq => ?_) (fun cq => absurd rfl cq)
            exact done k h (by omega) (by rw [← hr, rn_end (by omega)]) hv
          | succ y ih =>
            intro k h hk hr hv
            have h256k := hc (i + k)
            refine g_run 2 rfl ?_
            refine g_get hv 0 rfl rfl rfl rfl ?_
            show mj_go sta (mj_Cl sta (d + 1)) m_X10_goesOn T 89 _ [(.int (nI (i + k))), .ref 151] h
            refine g_callV hv [0, 1] 0 rfl rfl rfl rfl rfl rfl rfl rfl (by decide) (s_MbyteAt sta d th tr wh dr rd (va_up F1 8 (nI (i + k))) (lN (pkw c i (min k 8))) ac im lw tk st sh ru rz aw al sd c n (i + k) (by omega) hn f7 hc) (fun v w' h hp hk2 hv => ?_)
            obtain ⟨rfl, rfl⟩ := hp
            have hv : mj_Vw h0 ([(mo th tr wh dr rd (va_up F1 8 (nI (i + k))) (lN (pkw c i (min k 8))) ac im lw tk st sh ru rz aw al sd), (152, ab c)]) h := hv
            refine g_callS hv [] rfl rfl rfl rfl rfl rfl rfl (by decide) (s_MisLetter sta d _) (fun v w' h hp hk2 hv => ?_)
            obtain ⟨rfl, rfl⟩ := hp
            rw [bt_ltr hc, decide_eq_true (show i + k < n by omega), Bool.true_and]
            have hv : mj_Vw h0 ([(mo th tr wh dr rd (va_up F1 8 (nI (i + k))) (lN (pkw c i (min k 8))) ac im lw tk st sh ru rz aw al sd), (152, ab c)]) h := hv
            refine g_if rfl (fun cq => ?_) (fun cq => ?_)
            · have cq : bl (ltr (c (i + k))) = 0 := cq
              rw [bl_0] at cq
              exact done k h (by omega) (by rw [← hr, rn_no (by omega) cq]) hv
            · have cq : ¬ bl (ltr (c (i + k))) = 0 := cq
              rw [bl_0, Bool.not_eq_false] at cq
              have hdk := cq
              have hdb := ltr_b hdk
              have next : ∀ h, mj_Vw h0 [(mo th tr wh dr rd (va_up F1 8 (nI (i + k))) (lN (pkw c i (min (k + 1) 8))) ac im lw tk st sh ru rz aw al sd), (152, ab c)] h → mj_go sta (mj_Cl sta (d + 1)) m_X10_goesOn T 131 [some (.ref 151), some (.int (btA c n i)), some (.int (nI k))] [] h := by
                intro h hv
                refine g_run 3 rfl ?_
                refine g_get hv 0 rfl rfl rfl rfl ?_
                refine g_run 2 rfl ?_
                rw [show va_up F1 8 (nI (i + k)) 8 + Int32.ofInt 1 = nI (i + (k + 1)) from (nI_succ (i + k)).symm]
                refine g_put hv 0 rfl rfl rfl rfl rfl rfl (fun h hv => ?_)
                have hv : mj_Vw h0 ([(mo th tr wh dr rd (va_up F1 8 (nI (i + (k + 1)))) (lN (pkw c i (min (k + 1) 8))) ac im lw tk st sh ru rz aw al sd), (152, ab c)]) h := hv
                refine g_run 1 rfl ?_
                have hnx := ih (k + 1) h (by omega) (by rw [← hr, rn_yes (by omega) hdk]; rfl) hv
                rw [nI_succ] at hnx
                exact hnx
              repeat (first | refine g_px rfl rfl rfl ?_)
              refine g_ic rfl (fun cq => ?_) (fun cq => ?_)
              · have cq : nI 8 ≤ nI k := cq
                rw [nI_leI (by decide) (by omega)] at cq
                refine next h ?_
                rw [show min (k + 1) 8 = min k 8 by omega]
                exact hv
              · have cq : ¬ nI 8 ≤ nI k := cq
                rw [nI_leI (by decide) (by omega)] at cq
                have em : min k 8 = k := by omega
                have em2 : min (k + 1) 8 = k + 1 := by omega
                refine g_run 3 rfl ?_
                refine g_get hv 0 rfl rfl rfl rfl ?_
                refine g_run 3 rfl ?_
                refine g_get hv 0 rfl rfl rfl rfl ?_
                show mj_go sta (mj_Cl sta (d + 1)) m_X10_goesOn T 118 _ [(.int (nI (i + k))), .ref 151, .long (Int64.ofNat 32 * lN (pkw c i (min k 8))), .ref 151] h
                refine g_callV hv [0, 1] 0 rfl rfl rfl rfl rfl rfl rfl rfl (by decide) (s_MbyteAt sta d th tr wh dr rd (va_up F1 8 (nI (i + k))) (lN (pkw c i (min k 8))) ac im lw tk st sh ru rz aw al sd c n (i + k) (by omega) hn f7 hc) (fun v w' h hp hk2 hv => ?_)
                obtain ⟨rfl, rfl⟩ := hp
                have hv : mj_Vw h0 ([(mo th tr wh dr rd (va_up F1 8 (nI (i + k))) (lN (pkw c i (min k 8))) ac im lw tk st sh ru rz aw al sd), (152, ab c)]) h := hv
                rw [show btA c n (i + k) = nI (c (i + k)) from if_pos (by omega)]
                refine g_run 4 rfl ?_
                rw [show nI (c (i + k)) - (Int8.ofInt 97).toInt32 + Int32.ofInt 1 = nI (c (i + k) - 96) by
                  rw [k_97, pk_sub (by omega), show Int32.ofInt 1 = nI 1 from rfl, nI_add]
                  congr 1
                  omega]
                refine g_run 2 rfl ?_
                rw [nI_l (by omega), show Int64.ofNat 32 = lN 32 from rfl, lN_mul, lN_add, show 32 * pkw c i (min k 8) + (c (i + k) - 96) = pkw c i (min (k + 1) 8) by rw [em, em2, pkw]]
                refine g_put hv 0 rfl rfl rfl rfl rfl rfl (fun h hv => ?_)
                exact next h hv
        repeat (first | refine g_px rfl rfl rfl ?_)
        refine g_put hv 0 rfl rfl rfl rfl rfl rfl (fun h hv => ?_)
        have hv : mj_Vw h0 ([(mo th tr wh dr rd F1 (lN 0) ac im lw tk st sh ru rz aw al sd), (152, ab c)]) h := hv
        refine loop (n - i) 0 h (by omega) rfl ?_
        have e8 : va_up F1 8 (nI (i + 0)) = F1 := by
          funext z
          unfold va_up
          by_cases z2 : z = 8
          · rw [if_pos z2, z2, f8]; rfl
          · rw [if_neg z2]
        rw [e8]
        exact hv
    · have cq : ¬ ¬ btA c n i = -1 := cq
      rw [Decidable.not_not] at cq
      have hni : n ≤ i := by
        by_cases h : i < n
        · rw [btA, if_pos h] at cq
          have h1 : (nI (c i)).toInt = (-1 : Int32).toInt := by rw [cq]
          rw [nI_toInt (by omega), show (-1 : Int32).toInt = -1 by decide] at h1
          omega
        · omega
      have hk : knd c n i = 0 := (knd_0 c n).mpr hni
      have hb : bhd c n i = i := by unfold bhd; rw [if_pos hni]
      repeat (first | refine g_px rfl rfl rfl ?_)
      refine g_put hv 0 rfl rfl rfl rfl rfl rfl (fun h hv => ?_)
      have hv : mj_Vw h0 ([(mo th tr wh dr rd (va_up F1 9 1) wd ac im lw tk st sh ru rz aw al sd), (152, ab c)]) h := hv
      refine g_run 1 rfl ?_
      refine fin _ _ _ wd h rfl hv ⟨f6, f7, by omega, by rw [hk]; rfl, f10, f12, (fun z => by rw [hb]; exact f8), (fun z => by rw [hk] at z; cases z), (fun z => by rw [hk] at z; cases z)⟩
  have blanks : ∀ f j h, j + f = n → rn blk_ c n j = i → mj_Vw h0 [(mo th tr wh dr rd (va_up F 8 (nI j)) wd ac im lw tk st sh ru rz aw al sd), (152, ab c)] h → mj_go sta (mj_Cl sta (d + 1)) m_X10_goesOn T 9 [some (.ref 151), none, none] [] h := by
    intro f
    induction f with
    | zero =>
      intro j h hj hr hv
      rw [rn_end (by omega)] at hr
      subst hr
      refine g_run 2 rfl ?_
      refine g_get hv 0 rfl rfl rfl rfl ?_
      show mj_go sta (mj_Cl sta (d + 1)) m_X10_goesOn T 14 _ [(.int (nI j)), .ref 151] h
      refine g_callV hv [0, 1] 0 rfl rfl rfl rfl rfl rfl rfl rfl (by decide) (s_MbyteAt sta d th tr wh dr rd (va_up F 8 (nI j)) wd ac im lw tk st sh ru rz aw al sd c n j (by omega) hn h7 hc) (fun v w' h hp hk2 hv => ?_)
      obtain ⟨rfl, rfl⟩ := hp
      have hv : mj_Vw h0 ([(mo th tr wh dr rd (va_up F 8 (nI j)) wd ac im lw tk st sh ru rz aw al sd), (152, ab c)]) h := hv
      repeat (first | refine g_px rfl rfl rfl ?_)
      refine g_ic rfl (fun cq => ?_) (fun cq => ?_)
      · exact at35 h hv
      · have cq : ¬ ¬ btA c n j = nI 32 := cq
        rw [bt_32 hc, Decidable.not_not] at cq
        omega
    | succ f ih =>
      intro j h hj hr hv
      refine g_run 2 rfl ?_
      refine g_get hv 0 rfl rfl rfl rfl ?_
      show mj_go sta (mj_Cl sta (d + 1)) m_X10_goesOn T 14 _ [(.int (nI j)), .ref 151] h
      refine g_callV hv [0, 1] 0 rfl rfl rfl rfl rfl rfl rfl rfl (by decide) (s_MbyteAt sta d th tr wh dr rd (va_up F 8 (nI j)) wd ac im lw tk st sh ru rz aw al sd c n j (by omega) hn h7 hc) (fun v w' h hp hk2 hv => ?_)
      obtain ⟨rfl, rfl⟩ := hp
      have hv : mj_Vw h0 ([(mo th tr wh dr rd (va_up F 8 (nI j)) wd ac im lw tk st sh ru rz aw al sd), (152, ab c)]) h := hv
      repeat (first | refine g_px rfl rfl rfl ?_)
      refine g_ic rfl (fun cq => ?_) (fun cq => ?_)
      · have cq : ¬ btA c n j = nI 32 := cq
        rw [bt_32 hc] at cq
        rw [rn_no (by omega) (by unfold blk_; exact decide_eq_false (fun z => cq ⟨by omega, z⟩))] at hr
        subst hr
        exact at35 h hv
      · have cq : ¬ ¬ btA c n j = nI 32 := cq
        rw [bt_32 hc, Decidable.not_not] at cq
        rw [rn_yes (by omega) (by unfold blk_; exact decide_eq_true cq.2)] at hr
        refine g_run 2 rfl ?_
        refine g_get hv 0 rfl rfl rfl rfl ?_
        refine g_run 2 rfl ?_
        rw [show va_up F 8 (nI j) 8 + Int32.ofInt 1 = nI (j + 1) from (nI_succ j).symm]
        refine g_put hv 0 rfl rfl rfl rfl rfl rfl (fun h hv => ?_)
        have hv : mj_Vw h0 ([(mo th tr wh dr rd (va_up F 8 (nI (j + 1))) wd ac im lw tk st sh ru rz aw al sd), (152, ab c)]) h := hv
        refine g_run 1 rfl ?_
        exact ih (j + 1) h (by omega) hr hv
  repeat (first | refine g_px rfl rfl rfl ?_ | refine g_get hv 0 rfl rfl rfl rfl ?_)
  refine g_ic rfl (fun cq => ?_) (fun cq => absurd h9 cq)
  refine blanks (n - j0) j0 h0 (by omega) hie ?_
  have e8 : va_up F 8 (nI j0) = F := by
    funext z
    unfold va_up
    by_cases z2 : z = 8
    · rw [if_pos z2, z2, h8]
    · rw [if_neg z2]
  rw [e8]
  exact hv
end Mt
