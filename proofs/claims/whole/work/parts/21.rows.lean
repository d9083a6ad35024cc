/-! rows: swap, turn, nextRow, byNumbers, numberOf, goers -/
def swp (r : Nat → Nat) (i j : Nat) : Nat → Nat := va_up (va_up r i (r j)) j (r i)
def trn : Nat → (Nat → Nat) → Nat → Nat → (Nat → Nat)
  | 0, r, _, _ => r
  | f + 1, r, i, j => if i < j then trn f (swp r i j) (i + 1) (j - 1) else r
theorem swp_bd {c : Nat} {r : Nat → Nat} {i j : Nat} (h : bd c r) : bd c (swp r i j) := by
  intro x
  unfold swp va_up
  split
  · exact h i
  · split
    · exact h j
    · exact h x
theorem trn_bd {c : Nat} : ∀ (f : Nat) {r : Nat → Nat} {i j : Nat}, bd c r → bd c (trn f r i j)
  | 0, r, i, j, h => h
  | f + 1, r, i, j, h => by
    rw [trn]
    split
    · exact trn_bd f (swp_bd h)
    · exact h
theorem s_swap (sta : mj_S) (d ro i j : Nat) (r : Nat → Nat) (hi : i < 6) (hj : j < 6) : mj_Sx sta (d + 1) 153 [.ref ro, .int (nI i), .int (nI j)] [(ro, an r)] (fun v w => v = none ∧ w = [(ro, an (swp r i j))]) := by
  refine mj_Sx.mk m_X8_swap (by decide) n_X8_swap rfl (fun h hv => ?_)
  repeat (first | refine g_px rfl rfl rfl ?_ | refine g_get hv 0 rfl rfl rfl rfl ?_)
  refine g_n6 hv 0 hi rfl rfl ?_
  repeat (first | refine g_px rfl rfl rfl ?_ | refine g_get hv 0 rfl rfl rfl rfl ?_)
  refine g_n6 hv 0 hj rfl rfl ?_
  refine g_nst hv 0 hi rfl rfl (fun h hv => ?_)
  repeat (first | refine g_px rfl rfl rfl ?_ | refine g_get hv 0 rfl rfl rfl rfl ?_)
  refine g_nst hv 0 hj rfl rfl (fun h hv => ?_)
  exact g_vret hv rfl rfl rfl ⟨rfl, rfl⟩
theorem nI_m1 {j : Nat} (h : 0 < j) : nI j + Int32.ofInt (-1) = nI (j - 1) := sb_m1 h
theorem sub1 (x : Int32) : x - 1 = x + Int32.ofInt (-1) := by
  rw [Int32.sub_eq_add_neg]
  rfl
theorem l_turn (sta : mj_S) (d ro fr to : Nat) {h0 : mj_H} (Post : Option Value → mj_W → Prop) :
    ∀ (f : Nat) (r : Nat → Nat) (i j : Nat) (h : mj_H), i ≤ 6 → j < 6 → j < i + 2 * f → Post none [(ro, an (trn f r i j))] → mj_Vw h0 [(ro, an r)] h → mj_go sta (mj_Cl sta (d + 1)) m_X8_turn (mj_rx m_X8_turn h0 [ro] Post) 5 [some (.ref ro), some (.int (nI fr)), some (.int (nI to)), some (.int (nI i)), some (.int (nI j))] [] h := by
  intro f
  induction f with
  | zero =>
    intro r i j h hi hj hf hp hv
    repeat (first | refine g_px rfl rfl rfl ?_ | refine g_get hv 0 rfl rfl rfl rfl ?_)
    refine g_ic rfl (fun cq => ?_) (fun cq => absurd (nI_le (a := j) (b := i) (by omega) (by omega)) cq)
    exact g_vret hv rfl rfl rfl hp
  | succ f ih =>
    intro r i j h hi hj hf hp hv
    rw [trn] at hp
    repeat (first | refine g_px rfl rfl rfl ?_ | refine g_get hv 0 rfl rfl rfl rfl ?_)
    refine g_ic rfl (fun cq => ?_) (fun cq => ?_)
    · have cq : nI j ≤ nI i := cq
      have hle := (nI_leI (by omega) (by omega)).mp cq
      rw [if_neg (by omega)] at hp
      exact g_vret hv rfl rfl rfl hp
    · have cq : ¬ nI j ≤ nI i := cq
      have hlt : i < j := Nat.not_le.mp fun q => cq (nI_le q (by omega))
      rw [if_pos hlt] at hp
      repeat (first | refine g_px rfl rfl rfl ?_ | refine g_get hv 0 rfl rfl rfl rfl ?_)
      refine g_callS hv [0] rfl rfl rfl rfl rfl rfl rfl (by decide) (s_swap sta d ro i j r (by omega) (by omega)) (fun v w' h hq hk hv => ?_)
      obtain ⟨rfl, rfl⟩ := hq
      refine g_run 3 rfl ?_
      have := ih (swp r i j) (i + 1) (j - 1) h (by omega) (by omega) (by omega) hp hv
      rw [nI_succ, ← nI_m1 (by omega)] at this
      exact this
theorem s_turn (sta : mj_S) (d ro i j : Nat) (r : Nat → Nat) (hi : i ≤ 6) (hj : j < 6) : mj_Sx sta (d + 2) 154 [.ref ro, .int (nI i), .int (nI j)] [(ro, an r)] (fun v w => v = none ∧ w = [(ro, an (trn 3 r i j))]) := by
  refine mj_Sx.mk m_X8_turn (by decide) n_X8_turn rfl (fun h hv => ?_)
  refine g_run 4 rfl ?_
  exact l_turn sta d ro i j _ 3 r i j h hi hj (by omega) ⟨rfl, rfl⟩ hv
/-- the place behind which a row falls no more -/
def fdi (r : Nat → Nat) : Nat → Nat
  | 0 => 0
  | k + 1 => if r (k + 1) < r k then fdi r k else k + 1
def fdj (r : Nat → Nat) (i : Nat) : Nat → Nat
  | 0 => 0
  | j + 1 => if i < j + 1 ∧ r (j + 1) < r i then fdj r i j else j + 1
theorem fdi_le {r : Nat → Nat} : ∀ k, fdi r k ≤ k
  | 0 => Nat.le_refl _
  | k + 1 => by
    rw [fdi]
    split
    · have := fdi_le (r := r) k; omega
    · omega
theorem fdj_le {r : Nat → Nat} {i : Nat} : ∀ k, fdj r i k ≤ k
  | 0 => Nat.le_refl _
  | k + 1 => by
    rw [fdj]
    split
    · have := fdj_le (r := r) (i := i) k; omega
    · omega
/-- the row that is left, and whether there was a next -/
def nxr (men alike : Nat) (r : Nat → Nat) : (Nat → Nat) × Bool := match fdi (trn 3 r alike (men - 1)) (men - 1) with
  | 0 => (trn 3 r alike (men - 1), false)
  | i + 1 => (trn 3 (swp (trn 3 r alike (men - 1)) i (fdj (trn 3 r alike (men - 1)) i (men - 1))) (i + 1) (men - 1), true)
def bl (b : Bool) : Int32 := if b then 1 else 0
section NR
variable (sta : mj_S) (d ro men alike : Nat)
theorem l_next2 {h0 h : mj_H} (r : Nat → Nat) (hr : bd 6 r) (i : Nat) (hm : 1 ≤ men ∧ men ≤ 6) (hi : i + 1 < men) (hv : mj_Vw h0 [(ro, an r)] h) (Post : Option Value → mj_W → Prop) (hp : Post (some (.int 1)) [(ro, an (trn 3 (swp r i (fdj r i (men - 1))) (i + 1) (men - 1)))]) :
    ∀ j, j < men → fdj r i j = fdj r i (men - 1) → mj_go sta (mj_Cl sta (d + 2)) m_X8_nextRow (mj_rx m_X8_nextRow h0 [ro] Post) 44 [some (.ref ro), some (.int (nI men)), some (.int (nI alike)), some (.int (nI i)), some (.int (nI j))] [] h := by
  have fin : ∀ j, j < men → fdj r i j = j → fdj r i j = fdj r i (men - 1) → mj_go sta (mj_Cl sta (d + 2)) m_X8_nextRow (mj_rx m_X8_nextRow h0 [ro] Post) 66 [some (.ref ro), some (.int (nI men)), some (.int (nI alike)), some (.int (nI i)), some (.int (nI j))] [] h := by
    intro j hj hjj hje
    rw [← hje, hjj] at hp
    repeat (first | refine g_px rfl rfl rfl ?_ | refine g_get hv 0 rfl rfl rfl rfl ?_)
    refine g_callS hv [0] rfl rfl rfl rfl rfl rfl rfl (by decide) (s_swap sta (d + 1) ro i j r (by omega) (by omega)) (fun v w' h hq hk hv => ?_)
    obtain ⟨rfl, rfl⟩ := hq
    repeat (first | refine g_px rfl rfl rfl ?_ | refine g_get hv 0 rfl rfl rfl rfl ?_)
    rw [show nI i + Int32.ofInt 1 = nI (i + 1) from (nI_succ i).symm, show nI men - Int32.ofInt 1 = nI (men - 1) from pk_sub (b := 1) hm.1]
    refine g_callS hv [0] rfl rfl rfl rfl rfl rfl rfl (by decide) (s_turn sta d ro (i + 1) (men - 1) _ (by omega) (by omega)) (fun v w' h hq hk hv => ?_)
    obtain ⟨rfl, rfl⟩ := hq
    repeat (first | refine g_px rfl rfl rfl ?_ | refine g_get hv 0 rfl rfl rfl rfl ?_)
    exact g_iret hv rfl rfl rfl rfl hp
  intro j
  induction j with
  | zero =>
    intro hj hje
    repeat (first | refine g_px rfl rfl rfl ?_ | refine g_get hv 0 rfl rfl rfl rfl ?_)
    refine g_ic rfl (fun cq => ?_) (fun cq => absurd (nI_le (a := 0) (b := i) (by omega) (by omega)) cq)
    exact fin 0 hj rfl hje
  | succ j ih =>
    intro hj hje
    repeat (first | refine g_px rfl rfl rfl ?_ | refine g_get hv 0 rfl rfl rfl rfl ?_)
    refine g_ic rfl (fun cq => ?_) (fun cq => ?_)
    · have cq : nI (j + 1) ≤ nI i := cq
      have hle := (nI_leI (by omega) (by omega)).mp cq
      exact fin (j + 1) hj (by rw [fdj, if_neg (by omega)]) hje
    · have cq : ¬ nI (j + 1) ≤ nI i := cq
      have hlt : i < j + 1 := Nat.not_le.mp fun q => cq (nI_le q (by omega))
      repeat (first | refine g_px rfl rfl rfl ?_ | refine g_get hv 0 rfl rfl rfl rfl ?_)
      refine g_n6 hv 0 (k := j + 1) (by omega) rfl rfl ?_
      repeat (first | refine g_px rfl rfl rfl ?_ | refine g_get hv 0 rfl rfl rfl rfl ?_)
      refine g_n6 hv 0 (k := i) (by omega) rfl rfl ?_
      have r1 := hr (j + 1)
      have r2 := hr i
      refine g_ic rfl (fun cq => ?_) (fun cq => ?_)
      · have cq : nI (r i) ≤ nI (r (j + 1)) := cq
        have hle := (nI_leI (by omega) (by omega)).mp cq
        exact fin (j + 1) hj (by rw [fdj, if_neg (by omega)]) hje
      · have cq : ¬ nI (r i) ≤ nI (r (j + 1)) := cq
        have hle : r (j + 1) < r i := Nat.not_le.mp fun q => cq (nI_le q (by omega))
        refine g_run 2 rfl ?_
        have := ih (by omega) (by rw [← hje, fdj, if_pos ⟨hlt, hle⟩])
        rw [show nI j = nI (j + 1) + Int32.ofInt (-1) from (nI_m1 (j := j + 1) (by omega)).symm] at this
        exact this
theorem l_next1 {h0 h : mj_H} (r : Nat → Nat) (hr : bd 6 r) (hm : 1 ≤ men ∧ men ≤ 6) (hv : mj_Vw h0 [(ro, an r)] h) (Post : Option Value → mj_W → Prop) (hp : match fdi r (men - 1) with
      | 0 => Post (some (.int 0)) [(ro, an r)]
      | i + 1 => Post (some (.int 1)) [(ro, an (trn 3 (swp r i (fdj r i (men - 1))) (i + 1) (men - 1)))]) :
    ∀ k, k < men → fdi r k = fdi r (men - 1) → mj_go sta (mj_Cl sta (d + 2)) m_X8_nextRow (mj_rx m_X8_nextRow h0 [ro] Post) 12 [some (.ref ro), some (.int (nI men)), some (.int (nI alike)), some (.int (nI k - 1)), none] [] h := by
  intro k
  induction k with
  | zero =>
    intro hk hf
    repeat (first | refine g_px rfl rfl rfl ?_ | refine g_get hv 0 rfl rfl rfl rfl ?_)
    refine g_if rfl (fun cq => ?_) (fun cq => absurd (show nI 0 - 1 < 0 by decide) cq)
    repeat (first | refine g_px rfl rfl rfl ?_ | refine g_get hv 0 rfl rfl rfl rfl ?_)
    refine g_if rfl (fun cq => absurd cq (show ¬ 0 ≤ nI 0 - 1 by decide)) (fun cq => ?_)
    repeat (first | refine g_px rfl rfl rfl ?_ | refine g_get hv 0 rfl rfl rfl rfl ?_)
    rw [← hf] at hp
    exact g_iret hv rfl rfl rfl rfl hp
  | succ k ih =>
    intro hk hf
    rw [nI_pred]
    repeat (first | refine g_px rfl rfl rfl ?_ | refine g_get hv 0 rfl rfl rfl rfl ?_)
    refine g_if rfl (fun cq => absurd cq (nI_pos (by omega))) (fun cq => ?_)
    repeat (first | refine g_px rfl rfl rfl ?_ | refine g_get hv 0 rfl rfl rfl rfl ?_)
    refine g_n6 hv 0 (k := k) (by omega) rfl rfl ?_
    repeat (first | refine g_px rfl rfl rfl ?_ | refine g_get hv 0 rfl rfl rfl rfl ?_)
    rw [show nI k + Int32.ofInt 1 = nI (k + 1) from (nI_succ k).symm]
    refine g_n6 hv 0 (k := k + 1) (by omega) rfl rfl ?_
    have r1 := hr (k + 1)
    have r2 := hr k
    refine g_ic rfl (fun cq => ?_) (fun cq => ?_)
    · have cq : nI (r k) ≤ nI (r (k + 1)) := cq
      have hle := (nI_leI (by omega) (by omega)).mp cq
      have e : fdi r (men - 1) = k + 1 := by rw [← hf, fdi, if_neg (by omega)]
      rw [e] at hp
      repeat (first | refine g_px rfl rfl rfl ?_ | refine g_get hv 0 rfl rfl rfl rfl ?_)
      refine g_if rfl (fun cq => ?_) (fun cq => absurd (nI_pos' (by omega)) cq)
      refine g_run 4 rfl ?_
      rw [show nI men - Int32.ofInt 1 = nI (men - 1) from pk_sub (b := 1) hm.1]
      exact l_next2 sta d ro men alike r hr k hm hk hv Post hp (men - 1) (by omega) rfl
    · have cq : ¬ nI (r k) ≤ nI (r (k + 1)) := cq
      have hlt : r (k + 1) < r k := Nat.not_le.mp fun q => cq (nI_le q (by omega))
      refine g_run 2 rfl ?_
      have := ih (by omega) (by rw [← hf, fdi, if_pos hlt])
      rw [sub1 (nI k)] at this
      exact this
theorem s_nextRow (r : Nat → Nat) (hr : bd 6 r) (hm : 1 ≤ men ∧ men ≤ 6) (ha : alike ≤ 6) : mj_Sx sta (d + 3) 155 [.ref ro, .int (nI men), .int (nI alike)] [(ro, an r)] (fun v w => v = some (.int (bl (nxr men alike r).2)) ∧ w = [(ro, an (nxr men alike r).1)]) := by
  refine mj_Sx.mk m_X8_nextRow (by decide) n_X8_nextRow rfl (fun h hv => ?_)
  repeat (first | refine g_px rfl rfl rfl ?_ | refine g_get hv 0 rfl rfl rfl rfl ?_)
  rw [show nI men - Int32.ofInt 1 = nI (men - 1) from pk_sub (b := 1) hm.1]
  refine g_callS hv [0] rfl rfl rfl rfl rfl rfl rfl (by decide) (s_turn sta d ro alike (men - 1) r ha (by omega)) (fun v w' h hq hk hv => ?_)
  obtain ⟨rfl, rfl⟩ := hq
  refine g_run 4 rfl ?_
  have e2 : nI men - Int32.ofInt 2 = nI (men - 1) - 1 := by
    rw [show nI (men - 1) = nI men - 1 from (pk_sub (b := 1) hm.1).symm, Int32.sub_sub]
    rfl
  rw [e2]
  refine l_next1 sta d ro men alike (trn 3 r alike (men - 1)) (trn_bd 3 hr) hm hv _ ?_ (men - 1) (by omega) rfl
  unfold nxr
  cases fdi (trn 3 r alike (men - 1)) (men - 1) with
  | zero => exact ⟨rfl, rfl⟩
  | succ i => exact ⟨rfl, rfl⟩
end NR
/-- the first n by their numbers, the rest as it was -/
def idn (n : Nat) (r : Nat → Nat) : Nat → Nat := fun x => if x < n then x else r x
theorem idn_bd {n : Nat} {r : Nat → Nat} (hn : n ≤ 6) (h : bd 6 r) : bd 6 (idn n r) := by
  intro x
  unfold idn
  split
  · omega
  · exact h x
theorem s_byNumbers (sta : mj_S) (d ro n : Nat) (r : Nat → Nat) (hn : n ≤ 6) : mj_Sx sta (d + 1) 151 [.ref ro, .int (nI n)] [(ro, an r)] (fun v w => v = none ∧ w = [(ro, an (idn n r))]) := by
  refine mj_Sx.mk m_X8_byNumbers (by decide) n_X8_byNumbers rfl (fun h0 hv => ?_)
  have loop : ∀ j k h, k + j = n → mj_Vw h0 [(ro, an (idn k r))] h → mj_go sta (mj_Cl sta d) m_X8_byNumbers (mj_rx m_X8_byNumbers h0 [ro] (fun v w => v = none ∧ w = [(ro, an (idn n r))])) 2 [some (.ref ro), some (.int (nI n)), some (.int (nI k))] [] h := by
    intro j
    induction j with
    | zero =>
      intro k h hk hv
      have hk : k = n := by omega
      subst hk
      repeat (first | refine g_px rfl rfl rfl ?_ | refine g_get hv 0 rfl rfl rfl rfl ?_)
      refine g_ic rfl (fun cq => ?_) (fun cq => absurd (nI_le (Nat.le_refl k) (by omega)) cq)
      exact g_vret hv rfl rfl rfl ⟨rfl, rfl⟩
    | succ j ih =>
      intro k h hk hv
      repeat (first | refine g_px rfl rfl rfl ?_ | refine g_get hv 0 rfl rfl rfl rfl ?_)
      refine g_ic rfl (fun cq => absurd cq (nI_ge (a := k) (b := n) (by omega) (by omega))) (fun cq => ?_)
      repeat (first | refine g_px rfl rfl rfl ?_ | refine g_get hv 0 rfl rfl rfl rfl ?_)
      refine g_nst hv 0 (by omega) rfl rfl (fun h hv => ?_)
      refine g_run 2 rfl ?_
      have e : va_up (idn k r) k k = idn (k + 1) r := by
        funext x
        unfold va_up idn
        by_cases h1 : x = k
        · subst h1; simp
        · by_cases h2 : x < k
          · simp [h1, h2, Nat.lt_succ_of_lt h2]
          · simp [h1, h2, show ¬ x < k + 1 by omega]
      rw [e] at hv
      have := ih (k + 1) h (by omega) hv
      rw [nI_succ] at this
      exact this
  refine g_run 2 rfl ?_
  have e : idn 0 r = r := by funext x; simp [idn]
  exact loop n 0 h0 (by omega) (by rw [e]; exact hv)
/-- a row as a number -/
def rno (r : Nat → Nat) : Nat → Nat
  | 0 => 0
  | k + 1 => 10 * rno r k + r k
theorem s_numberOf (sta : mj_S) (d ro n : Nat) (r : Nat → Nat) (hn : n ≤ 6) : mj_Sx sta (d + 1) 152 [.ref ro, .int (nI n)] [(ro, an r)] (fun v w => v = some (.int (nI (rno r n))) ∧ w = [(ro, an r)]) := by
  refine mj_Sx.mk m_X8_numberOf (by decide) n_X8_numberOf rfl (fun h0 hv => ?_)
  have loop : ∀ j k, k + j = n → mj_go sta (mj_Cl sta d) m_X8_numberOf (mj_rx m_X8_numberOf h0 [ro] (fun v w => v = some (.int (nI (rno r n))) ∧ w = [(ro, an r)])) 4 [some (.ref ro), some (.int (nI n)), some (.int (nI (rno r k))), some (.int (nI k))] [] h0 := by
    intro j
    induction j with
    | zero =>
      intro k hk
      have hk : k = n := by omega
      subst hk
      repeat (first | refine g_px rfl rfl rfl ?_ | refine g_get hv 0 rfl rfl rfl rfl ?_)
      refine g_ic rfl (fun cq => ?_) (fun cq => absurd (nI_le (Nat.le_refl k) (by omega)) cq)
      repeat (first | refine g_px rfl rfl rfl ?_ | refine g_get hv 0 rfl rfl rfl rfl ?_)
      exact g_iret hv rfl rfl rfl rfl ⟨rfl, rfl⟩
    | succ j ih =>
      intro k hk
      repeat (first | refine g_px rfl rfl rfl ?_ | refine g_get hv 0 rfl rfl rfl rfl ?_)
      refine g_ic rfl (fun cq => absurd cq (nI_ge (a := k) (b := n) (by omega) (by omega))) (fun cq => ?_)
      repeat (first | refine g_px rfl rfl rfl ?_ | refine g_get hv 0 rfl rfl rfl rfl ?_)
      refine g_n6 hv 0 (k := k) (by omega) rfl rfl ?_
      refine g_run 4 rfl ?_
      have := ih (k + 1) (by omega)
      rw [nI_succ, rno, show nI (10 * rno r k + r k) = (Int8.ofInt 10).toInt32 * nI (rno r k) + nI (r k) by rw [show (Int8.ofInt 10).toInt32 = nI 10 from rfl, pk_mul, nI_add]] at this
      exact this
  refine g_run 4 rfl ?_
  exact loop n 0 (by omega)
/-- who goes -/
def gng (T : Nat) (g : Nat → Option Nat) : Nat → Nat
  | 0 => 0
  | k + 1 => if T.testBit k then gng T g k ||| 2 ^ (match g k with
    | none => k
    | some q => q) else gng T g k
theorem gng_lt {T : Nat} {g : Nat → Option Nat} (hg : ∀ m q, T.testBit m = true → g m = some q → q < 6) : ∀ k, k ≤ 6 → gng T g k < 64
  | 0, _ => Nat.le_of_ble_eq_true rfl
  | k + 1, hk => by
    have ih := gng_lt hg k (by omega)
    rw [gng]
    split
    · rename_i ht
      refine bt_lt _ ih _ ?_
      split
      · omega
      · rename_i q e; exact hg k q ht e
    · exact ih
theorem s_goers (sta : mj_S) (d ks T : Nat) (g : Nat → Option Nat) (hT : T < 64) (hg : ∀ m q, T.testBit m = true → g m = some q → q < 6) : mj_Sx sta (d + 1) 150 [.int (nI T), .ref ks] [(ks, sq g)] (fun v w => v = some (.int (nI (gng T g 6))) ∧ w = [(ks, sq g)]) := by
  refine mj_Sx.mk m_X8_goers (by decide) n_X8_goers rfl (fun h0 hv => ?_)
  have loop : ∀ j k, k + j = 6 → mj_go sta (mj_Cl sta d) m_X8_goers (mj_rx m_X8_goers h0 [ks] (fun v w => v = some (.int (nI (gng T g 6))) ∧ w = [(ks, sq g)])) 4 [some (.int (nI T)), some (.ref ks), some (.int (nI (gng T g k))), some (.int (nI k))] [] h0 := by
    intro j
    induction j with
    | zero =>
      intro k hk
      have hk : k = 6 := by omega
      subst hk
      repeat (first | refine g_px rfl rfl rfl ?_ | refine g_get hv 0 rfl rfl rfl rfl ?_)
      refine g_ic rfl (fun cq => ?_) (fun cq => absurd (show (Int8.ofInt 6).toInt32 ≤ nI 6 by decide) cq)
      repeat (first | refine g_px rfl rfl rfl ?_ | refine g_get hv 0 rfl rfl rfl rfl ?_)
      exact g_iret hv rfl rfl rfl rfl ⟨rfl, rfl⟩
    | succ j ih =>
      intro k hk
      have hk6 : k < 6 := by omega
      have hbit := bt_get T hT k hk6
      have hlt := gng_lt hg k (by omega)
      repeat (first | refine g_px rfl rfl rfl ?_ | refine g_get hv 0 rfl rfl rfl rfl ?_)
      refine g_ic rfl (fun cq => absurd cq (nI_ge (a := k) (b := 6) hk6 (by decide))) (fun cq => ?_)
      repeat (first | refine g_px rfl rfl rfl ?_ | refine g_get hv 0 rfl rfl rfl rfl ?_)
      refine g_ic rfl (fun cq => ?_) (fun cq => ?_)
      · have cq : ¬ ((nI T >>> (nI k &&& 31)) &&& 1) = 1 := cq
        have ht : T.testBit k = false := by
          cases q : T.testBit k with
          | false => rfl
          | true => rw [hbit, q] at cq; exact absurd rfl cq
        refine g_run 2 rfl ?_
        have := ih (k + 1) (by omega)
        have e : gng T g (k + 1) = gng T g k := by rw [gng, ht]; rfl
        rw [nI_succ, e] at this
        exact this
      · have cq : ¬ ¬ ((nI T >>> (nI k &&& 31)) &&& 1) = 1 := cq
        have ht : T.testBit k = true := by
          cases q : T.testBit k with
          | true => rfl
          | false => rw [hbit, q] at cq; exact absurd (by decide) cq
        repeat (first | refine g_px rfl rfl rfl ?_ | refine g_get hv 0 rfl rfl rfl rfl ?_)
        refine g_s6 hv 0 hk6 rfl rfl ?_
        have fin : ∀ q, q < 6 → nI (gng T g (k + 1)) = nI (gng T g k ||| 2 ^ q) → mj_go sta (mj_Cl sta d) m_X8_goers (mj_rx m_X8_goers h0 [ks] (fun v w => v = some (.int (nI (gng T g 6))) ∧ w = [(ks, sq g)])) 34 [some (.int (nI T)), some (.ref ks), some (.int (nI (gng T g k))), some (.int (nI k))] [.int (nI q), .int 1, .int (nI (gng T g k))] h0 := by
          intro q hq he
          refine g_run 5 rfl ?_
          have := ih (k + 1) (by omega)
          rw [nI_succ, he, ← bt_set _ hlt _ hq] at this
          exact this
        refine g_if rfl (fun cq => ?_) (fun cq => ?_)
        · have cq : 0 ≤ snd (g k) := cq
          cases e : g k with
          | none => rw [e] at cq; exact absurd cq (by decide)
          | some q =>
            repeat (first | refine g_px rfl rfl rfl ?_ | refine g_get hv 0 rfl rfl rfl rfl ?_)
            refine g_s6 hv 0 hk6 rfl rfl ?_
            rw [e]
            exact fin q (hg k q ht e) (by rw [gng, if_pos ht, e])
        · have cq : ¬ 0 ≤ snd (g k) := cq
          have e : g k = none := by
            cases e : g k with
            | none => rfl
            | some q => rw [e] at cq; exact absurd (nI_pos' (by have := hg k q ht e; omega)) cq
          refine g_run 2 rfl ?_
          exact fin k hk6 (by rw [gng, if_pos ht, e])
  refine g_run 4 rfl ?_
  exact loop 6 0 (by omega)
