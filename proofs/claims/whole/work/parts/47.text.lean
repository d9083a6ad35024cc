/-! the tape's bytes, the text: one reading for both -/
def sb (k : Nat) : Int32 := (nI k).toInt8.toInt32
abbrev ab (c : Nat → Nat) : va_E := .inl (2, 800, .inl (fun i => if i < 800 then sb (c i) else 0))
def ltr (k : Nat) : Bool := decide (97 ≤ k) && decide (k ≤ 122)
def dgt (k : Nat) : Bool := decide (48 ≤ k) && decide (k ≤ 57)
def blk_ (k : Nat) : Bool := decide (k = 32)
theorem sb_32 : ∀ k, k < 256 → (sb k = (Int8.ofInt 32).toInt32 ↔ k = 32) := by decide +kernel
theorem sb_59 : ∀ k, k < 256 → (sb k = (Int8.ofInt 59).toInt32 ↔ k = 59) := by decide +kernel
theorem sb_ltr : ∀ k, k < 256 → (decide ((Int8.ofInt 97).toInt32 ≤ sb k) && decide (sb k ≤ (Int8.ofInt 122).toInt32)) = ltr k := by decide +kernel
theorem sb_dgt : ∀ k, k < 256 → (decide ((Int8.ofInt 48).toInt32 ≤ sb k) && decide (sb k ≤ (Int8.ofInt 57).toInt32)) = dgt k := by decide +kernel
theorem sb_255 : ∀ k, k < 256 → sb k &&& (Int16.ofInt 255).toInt32 = nI k := by decide +kernel
theorem sb_eq : ∀ k, k < 256 → ∀ j, j < 128 → (sb k = nI j ↔ k = j) := by decide +kernel
theorem sb_sml : ∀ k, k < 128 → sb k = nI k := by decide +kernel
theorem sb_inj : ∀ k, k < 256 → ∀ j, j < 256 → (sb k = sb j ↔ k = j) := by decide +kernel
def bnat (x : Int32) : Nat := x.toUInt32.toNat % 256
theorem bnat_lt (x : Int32) : bnat x < 256 := Nat.mod_lt _ (by decide)
theorem nI_ofU (x : Int32) : nI x.toUInt32.toNat = x := by
  apply Int32.toBitVec_inj.mp
  apply BitVec.eq_of_toNat_eq
  have h : x.toUInt32.toNat = x.toBitVec.toNat := rfl
  show (BitVec.ofNat 32 x.toUInt32.toNat).toNat = x.toBitVec.toNat
  rw [h, BitVec.toNat_ofNat]
  exact Nat.mod_eq_of_lt x.toBitVec.isLt
theorem sb_bnat (x : Int32) : x.toInt8.toInt32 = sb (bnat x) := by
  unfold sb bnat
  have h := fa_mask x.toUInt32.toNat 8
  rw [show (256 : Nat) = 2 ^ 8 from rfl, ← h, nI_ofU, show nI (2 ^ 8 - 1) = 255 from rfl, fa_byte_low]
theorem nar_b (x : Int32) : vp_nar .byte x.toInt8.toInt32 = sb (bnat x) := by
  rw [← sb_bnat]
  show x.toInt8.toInt32.toInt8.toInt32 = _
  exact fb_byte_twice x
/-- as far as p goes -/
def run_ (p : Nat → Bool) (c : Nat → Nat) : Nat → Nat → Nat
  | 0, i => i
  | j + 1, i => if p (c i) then run_ p c j (i + 1) else i
def rn (p : Nat → Bool) (c : Nat → Nat) (n i : Nat) : Nat := run_ p c (n - i) i
theorem run_ge {p : Nat → Bool} {c : Nat → Nat} : ∀ j i, i ≤ run_ p c j i ∧ run_ p c j i ≤ i + j
  | 0, i => ⟨Nat.le_refl _, Nat.le_refl _⟩
  | j + 1, i => by
    rw [run_]
    split
    · have := run_ge (p := p) (c := c) j (i + 1); omega
    · omega
theorem run_in {p : Nat → Bool} {c : Nat → Nat} : ∀ j i k, i ≤ k → k < run_ p c j i → p (c k) = true
  | 0, i, k, h1, h2 => by rw [run_] at h2; omega
  | j + 1, i, k, h1, h2 => by
    rw [run_] at h2
    split at h2
    · rename_i hp
      by_cases h : k = i
      · subst h; exact hp
      · exact run_in j (i + 1) k (by omega) h2
    · omega
theorem rn_ge {p : Nat → Bool} {c : Nat → Nat} {n i : Nat} (h : i ≤ n) : i ≤ rn p c n i ∧ rn p c n i ≤ n := by
  have := run_ge (p := p) (c := c) (n - i) i
  unfold rn
  omega
theorem rn_yes {p : Nat → Bool} {c : Nat → Nat} {n i : Nat} (h : i < n) (hp : p (c i) = true) : rn p c n i = rn p c n (i + 1) := by
  unfold rn
  rw [show n - i = (n - (i + 1)) + 1 by omega, run_, if_pos hp]
theorem rn_no {p : Nat → Bool} {c : Nat → Nat} {n i : Nat} (h : i < n) (hp : p (c i) = false) : rn p c n i = i := by
  unfold rn
  rw [show n - i = (n - (i + 1)) + 1 by omega, run_, if_neg (by rw [hp]; decide)]
theorem rn_end {p : Nat → Bool} {c : Nat → Nat} {n i : Nat} (h : n ≤ i) : rn p c n i = i := by
  unfold rn
  rw [show n - i = 0 by omega, run_]
theorem rn_in {p : Nat → Bool} {c : Nat → Nat} {n i k : Nat} (h1 : i ≤ k) (h2 : k < rn p c n i) : p (c k) = true := run_in _ _ _ h1 h2
section Tok
variable (c : Nat → Nat) (n : Nat)
/-- kinds: 0 the end, 1 a word, 2 a whole, 3 a semicolon, 4 broken -/
def knd (i : Nat) : Nat := if n ≤ i then 0 else if c i = 59 then 3 else if ltr (c i) then (if rn ltr c n i - i ≤ 8 then 1 else 4) else if dgt (c i) then (if rn dgt c n i - i ≤ 3 then 2 else 4) else 4
def bhd (i : Nat) : Nat := if n ≤ i then i else if c i = 59 then i + 1 else if ltr (c i) then rn ltr c n i else if dgt (c i) then rn dgt c n i else i + 1
def nxt (i : Nat) : Nat := rn blk_ c n (bhd c n i)
def lsub (c : Nat → Nat) : Nat → Nat → List Nat
  | 0, _ => []
  | l + 1, i => c i :: lsub c l (i + 1)
def wl (i : Nat) : List Nat := lsub c (bhd c n i - i) i
def nvl (c : Nat → Nat) (i : Nat) : Nat → Nat
  | 0 => 0
  | l + 1 => 10 * nvl c i l + (c (i + l) - 48)
def num (i : Nat) : Nat := nvl c i (bhd c n i - i)
theorem bhd_ge {i : Nat} (h : i ≤ n) : i ≤ bhd c n i ∧ bhd c n i ≤ n := by
  unfold bhd
  split
  · omega
  · split
    · omega
    · split
      · exact rn_ge h
      · split
        · exact rn_ge h
        · omega
theorem bhd_gt {i : Nat} (h : i < n) : i < bhd c n i := by
  unfold bhd
  rw [if_neg (by omega)]
  split
  · omega
  · split
    · rename_i hl
      rw [rn_yes h hl]
      have := rn_ge (p := ltr) (c := c) (n := n) (i := i + 1) (by omega)
      omega
    · split
      · rename_i hl
        rw [rn_yes h hl]
        have := rn_ge (p := dgt) (c := c) (n := n) (i := i + 1) (by omega)
        omega
      · omega
theorem nxt_ge {i : Nat} (h : i ≤ n) : i ≤ nxt c n i ∧ nxt c n i ≤ n := by
  have h1 := bhd_ge c n h
  have h2 := rn_ge (p := blk_) (c := c) h1.2
  unfold nxt
  omega
theorem nxt_gt {i : Nat} (h : i < n) : i < nxt c n i := by
  have h1 := bhd_ge c n (Nat.le_of_lt h)
  have h3 := bhd_gt c n h
  have h2 := rn_ge (p := blk_) (c := c) h1.2
  unfold nxt
  omega
theorem knd_lt (i : Nat) : knd c n i ≤ 4 := by
  unfold knd
  repeat' split
  all_goals omega
/-- a word: letters, up to eight -/
theorem knd_1 {i : Nat} (h : knd c n i = 1) : i < n ∧ ltr (c i) = true ∧ bhd c n i = rn ltr c n i ∧ bhd c n i - i ≤ 8 ∧ 1 ≤ bhd c n i - i := by
  unfold knd at h
  split at h
  · cases h
  · rename_i hi
    split at h
    · cases h
    · rename_i h59
      split at h
      · rename_i hl
        have e : bhd c n i = rn ltr c n i := by unfold bhd; rw [if_neg hi, if_neg h59, if_pos hl]
        have := bhd_gt c n (i := i) (by omega)
        split at h
        · rename_i h8
          exact ⟨by omega, hl, e, by rw [e]; exact h8, by omega⟩
        · cases h
      · split at h
        · split at h <;> cases h
        · cases h
theorem knd_2 {i : Nat} (h : knd c n i = 2) : i < n ∧ dgt (c i) = true ∧ bhd c n i = rn dgt c n i ∧ bhd c n i - i ≤ 3 ∧ 1 ≤ bhd c n i - i := by
  unfold knd at h
  split at h
  · cases h
  · rename_i hi
    split at h
    · cases h
    · rename_i h59
      split at h
      · split at h <;> cases h
      · rename_i hl
        split at h
        · rename_i hd
          have e : bhd c n i = rn dgt c n i := by unfold bhd; rw [if_neg hi, if_neg h59, if_neg hl, if_pos hd]
          have := bhd_gt c n (i := i) (by omega)
          split at h
          · rename_i h3
            exact ⟨by omega, hd, e, by rw [e]; exact h3, by omega⟩
          · cases h
        · cases h
theorem knd_0 {i : Nat} : knd c n i = 0 ↔ n ≤ i := by
  unfold knd
  constructor
  · intro h
    split at h
    · assumption
    · repeat' split at h
      all_goals cases h
  · intro h; rw [if_pos h]
theorem word_in {i k : Nat} (h : knd c n i = 1) (h1 : i ≤ k) (h2 : k < bhd c n i) : ltr (c k) = true := by
  rw [(knd_1 c n h).2.2.1] at h2
  exact rn_in h1 h2
theorem num_in {i k : Nat} (h : knd c n i = 2) (h1 : i ≤ k) (h2 : k < bhd c n i) : dgt (c k) = true := by
  rw [(knd_2 c n h).2.2.1] at h2
  exact rn_in h1 h2
def w_draft : List Nat := [100, 114, 97, 102, 116]
def w_man : List Nat := [109, 97, 110]
def w_kin : List Nat := [107, 105, 110]
def w_spares : List Nat := [115, 112, 97, 114, 101, 115]
def w_doctor : List Nat := [100, 111, 99, 116, 111, 114]
def w_went : List Nat := [119, 101, 110, 116]
def w_takes : List Nat := [116, 97, 107, 101, 115]
def w_plain : List Nat := [112, 108, 97, 105, 110]
def w_married : List Nat := [109, 97, 114, 114, 105, 101, 100]
def w_short : List Nat := [115, 104, 111, 114, 116]
def w_lame : List Nat := [108, 97, 109, 101]
def w_worth : List Nat := [119, 111, 114, 116, 104]
def w_coins : List Nat := [99, 111, 105, 110, 115]
def w_asks : List Nat := [97, 115, 107, 115]
def w_hits : List Nat := [104, 105, 116, 115]
def w_errs : List Nat := [101, 114, 114, 115]
def w_share : List Nat := [115, 104, 97, 114, 101]
def isW (i : Nat) (w : List Nat) : Bool := decide (knd c n i = 1) && decide (wl c n i = w)
/-- a line's kind: 0 none, 1 draft .. 6 went, 7 a name -/
def lkd (i : Nat) : Nat := if ¬ knd c n i = 1 then 0 else if isW c n i w_draft then 1 else if isW c n i w_man then 2 else if isW c n i w_kin then 3 else if isW c n i w_spares then 4 else if isW c n i w_doctor then 5 else if isW c n i w_went then 6 else 7
def srt (i : Nat) : Option Nat := if isW c n i w_plain then some 0 else if isW c n i w_married then some 1 else if isW c n i w_short then some 2 else if isW c n i w_lame then some 3 else none
theorem lkd_1 {i : Nat} (h : lkd c n i ≠ 0) : knd c n i = 1 := by
  unfold lkd at h
  split at h
  · exact absurd rfl h
  · rename_i q; exact Decidable.not_not.mp q
theorem srt_lt {i s : Nat} (h : srt c n i = some s) : s < 4 ∧ knd c n i = 1 := by
  unfold srt isW at h
  repeat' split at h
  all_goals first
    | (cases h; rename_i q; simp only [Bool.and_eq_true, decide_eq_true_eq] at q; exact ⟨by omega, q.1⟩)
    | cases h
/-- faults and places -/
abbrev FP : Type := Nat × Nat
def pW (w : List Nat) (i : Nat) : Nat ⊕ FP := if isW c n i w then .inl (nxt c n i) else .inr (1, i)
def pN (most i : Nat) : (Nat × Nat) ⊕ FP := if knd c n i = 2 then (if num c n i ≤ most then .inl (num c n i, nxt c n i) else .inr (4, i)) else .inr (1, i)
def pP (w : List Nat) (most i : Nat) : (Nat × Nat) ⊕ FP := match pW c n w i with
  | .inl j => pN c n most j
  | .inr e => .inr e
def fnd (nm : Nat → List Nat) (w : List Nat) (m : Nat) : Option Nat := frs (fun k => decide (nm k = w)) m 0
/-- a man told -/
def pM (nm : Nat → List Nat) (m i : Nat) : Nat ⊕ FP := if lkd c n i = 7 then (match fnd nm (wl c n i) m with
  | some k => .inl k
  | none => .inr (2, i)) else .inr (1, i)
/-- where, told, the draft, the names -/
abbrev PS : Type := Nat × Bool × (Nat → Nat) × (Nat → Nat → Nat) × (Nat → List Nat)
def lTakes (s : PS) : PS ⊕ FP := if s.2.1 then .inr (3, s.1) else match pP c n w_takes 5 (nxt c n s.1) with
  | .inr e => .inr e
  | .inl (v, j) => .inl (j, true, va_up s.2.2.1 0 v, s.2.2.2.1, s.2.2.2.2)
def lMan3 (s : PS) (a1 so wo co as j : Nat) : PS := (j, s.2.1, va_up s.2.2.1 1 (s.2.2.1 1 + 1), va_up (va_up (va_up (va_up s.2.2.2.1 0 (va_up (s.2.2.2.1 0) (s.2.2.1 1) so)) 1 (va_up (s.2.2.2.1 1) (s.2.2.1 1) wo)) 2 (va_up (s.2.2.2.1 2) (s.2.2.1 1) co)) 3 (va_up (s.2.2.2.1 3) (s.2.2.1 1) as), va_up s.2.2.2.2 (s.2.2.1 1) (wl c n a1))
def lMan (s : PS) : PS ⊕ FP := if 6 ≤ s.2.2.1 1 then .inr (5, s.1) else if ¬ lkd c n (nxt c n s.1) = 7 then .inr (1, nxt c n s.1) else if (fnd s.2.2.2.2 (wl c n (nxt c n s.1)) (s.2.2.1 1)).isSome then .inr (3, nxt c n s.1) else match srt c n (nxt c n (nxt c n s.1)) with
  | none => .inr (1, nxt c n (nxt c n s.1))
  | some so => match pP c n w_worth 99 (nxt c n (nxt c n (nxt c n s.1))) with
    | .inr e => .inr e
    | .inl (wo, j1) => match pP c n w_coins 200 j1 with
      | .inr e => .inr e
      | .inl (co, j2) => match pP c n w_asks 99 j2 with
        | .inr e => .inr e
        | .inl (as, j3) => .inl (lMan3 c n s (nxt c n s.1) so wo co as j3)
def lKin (s : PS) : PS ⊕ FP := if 6 ≤ s.2.2.1 2 then .inr (5, s.1) else match pM c n s.2.2.2.2 (s.2.2.1 1) (nxt c n s.1) with
  | .inr e => .inr e
  | .inl x => match pM c n s.2.2.2.2 (s.2.2.1 1) (nxt c n (nxt c n s.1)) with
    | .inr e => .inr e
    | .inl y => if x = y ∨ (s.2.2.2.1 4 x).testBit y = true then .inr (3, nxt c n (nxt c n s.1)) else .inl (nxt c n (nxt c n (nxt c n s.1)), s.2.1, va_up s.2.2.1 2 (s.2.2.1 2 + 1), va_up s.2.2.2.1 4 (va_up (va_up (s.2.2.2.1 4) x (s.2.2.2.1 4 x ||| 2 ^ y)) y (va_up (s.2.2.2.1 4) x (s.2.2.2.1 4 x ||| 2 ^ y) y ||| 2 ^ x)), s.2.2.2.2)
def lSpares (s : PS) : PS ⊕ FP := match srt c n (nxt c n s.1) with
  | none => .inr (1, nxt c n s.1)
  | some so => if (s.2.2.1 3).testBit so then .inr (3, nxt c n s.1) else .inl (nxt c n (nxt c n s.1), s.2.1, va_up s.2.2.1 3 (s.2.2.1 3 ||| 2 ^ so), s.2.2.2.1, s.2.2.2.2)
def lDoctor (s : PS) : PS ⊕ FP := if ¬ s.2.2.1 4 = 0 then .inr (3, s.1) else match pP c n w_hits 100 (nxt c n s.1) with
  | .inr e => .inr e
  | .inl (x, j1) => match pP c n w_errs 100 j1 with
    | .inr e => .inr e
    | .inl (y, j2) => match pP c n w_share 100 j2 with
      | .inr e => .inr e
      | .inl (z, j3) => .inl (j3, s.2.1, va_up (va_up (va_up (va_up s.2.2.1 4 1) 5 x) 6 y) 7 z, s.2.2.2.1, s.2.2.2.2)
def lWent (s : PS) : PS ⊕ FP := if 3 ≤ s.2.2.1 8 then .inr (5, s.1) else match pM c n s.2.2.2.2 (s.2.2.1 1) (nxt c n s.1) with
  | .inr e => .inr e
  | .inl x => if (frs (fun k => decide (s.2.2.2.1 5 k = x)) (s.2.2.1 8) 0).isSome then .inr (3, nxt c n s.1) else .inl (nxt c n (nxt c n s.1), s.2.1, va_up s.2.2.1 8 (s.2.2.1 8 + 1), va_up s.2.2.2.1 5 (va_up (s.2.2.2.1 5) (s.2.2.1 8) x), s.2.2.2.2)
def lLine (s : PS) : PS ⊕ FP := if lkd c n s.1 = 0 ∨ lkd c n s.1 = 7 then .inr (1, s.1) else if lkd c n s.1 = 1 then lTakes c n s else if s.2.1 = false then .inr (6, s.1) else if lkd c n s.1 = 2 then lMan c n s else if lkd c n s.1 = 3 then lKin c n s else if lkd c n s.1 = 4 then lSpares c n s else if lkd c n s.1 = 5 then lDoctor c n s else lWent c n s
def lAll : Nat → PS → PS ⊕ FP
  | 0, s => .inr (1, s.1)
  | f + 1, s => match lLine c n s with
    | .inr e => .inr e
    | .inl t => if knd c n t.1 = 0 then (if 0 < t.2.2.1 1 then .inl t else .inr (6, t.1)) else if ¬ knd c n t.1 = 3 then .inr (1, t.1) else lAll f (nxt c n t.1, t.2)
end Tok
