/-! orders of all men: what the reference plays is what the levy runs -/
def prm (n : Nat) (r : Nat → Nat) : Prop := (∀ i, i < n → r i < n) ∧ ∀ i j, i < n → j < n → i ≠ j → r i ≠ r j
theorem prm_onto {n : Nat} {r : Nat → Nat} (h : prm n r) {m : Nat} (hm : m < n) : ∃ i, i < n ∧ r i = m := fb_onto h.1 (fun i j hij hj => h.2 i j (by omega) hj (by omega)) hm
theorem prm_ag {n : Nat} {r r' : Nat → Nat} (h : prm n r) (ha : ag n r r') : prm n r' :=
  ⟨fun i hi => by rw [← ha i hi]; exact h.1 i hi, fun i j hi hj hij => by rw [← ha i hi, ← ha j hj]; exact h.2 i j hi hj hij⟩
theorem prm_lx {n k : Nat} (hn : 1 ≤ n ∧ n ≤ 6) (hk : k < fac n) : prm n (lx n k) := lxC hn hk
theorem pop_set : ∀ b, b < 64 → ∀ k, k < 6 → b.testBit k = false → pop (b ||| 2 ^ k) = pop b + 1 := by decide +kernel
section Pr
variable {n t lw : Nat} {sn kin W A C r : Nat → Nat}
/-- who is taken is one of the first -/
theorem cms_in : ∀ k m, (cms t r sn kin lw k).1.testBit m = true → ∃ i, i < k ∧ r i = m
  | 0, m, h => by
    have : (0 : Nat).testBit m = true := h
    rw [Nat.zero_testBit] at this
    cases this
  | k + 1, m, h => by
    rw [cms] at h
    split at h
    · have h : ((cms t r sn kin lw k).1 ||| 2 ^ r k).testBit m = true := h
      rw [fb_bit_set, Bool.or_eq_true] at h
      rcases h with h | h
      · obtain ⟨i, hi, e⟩ := cms_in k m h
        exact ⟨i, by omega, e⟩
      · exact ⟨k, by omega, (of_decide_eq_true h).symm⟩
    · obtain ⟨i, hi, e⟩ := cms_in k m h
      exact ⟨i, by omega, e⟩
theorem cms_out (hp : prm n r) {k j : Nat} (hk : k ≤ j) (hj : j < n) : (cms t r sn kin lw k).1.testBit (r j) = false := by
  cases e : (cms t r sn kin lw k).1.testBit (r j) with
  | false => rfl
  | true =>
    obtain ⟨i, hi, he⟩ := cms_in k (r j) e
    exact absurd he (hp.2 i j (by omega) hj (by omega))
theorem cms_lt' (hn : n ≤ 6) (hp : prm n r) : ∀ k, k ≤ n → (cms t r sn kin lw k).1 < 64
  | 0, _ => Nat.le_of_ble_eq_true rfl
  | k + 1, hk => by
    have ih := cms_lt' hn hp k (by omega)
    rw [cms]
    split
    · exact bt_lt _ ih _ (by have := hp.1 k (by omega); omega)
    · exact ih
theorem cms_pop (hn : n ≤ 6) (hp : prm n r) : ∀ k, k ≤ n → pop (cms t r sn kin lw k).1 = (cms t r sn kin lw k).2
  | 0, _ => by
    show pop 0 = 0
    decide
  | k + 1, hk => by
    have ih := cms_pop hn hp k (by omega)
    have hl := cms_lt' (t := t) (sn := sn) (kin := kin) (lw := lw) hn hp k (by omega)
    have hrk := hp.1 k (by omega)
    rw [cms]
    split
    · show pop ((cms t r sn kin lw k).1 ||| 2 ^ r k) = (cms t r sn kin lw k).2 + 1
      rw [pop_set _ hl _ (by omega) (cms_out hp (Nat.le_refl k) (by omega)), ih]
    · exact ih
/-- behind those called nobody is taken -/
theorem rT_out (hp : prm n r) {j : Nat} (h1 : rC n t lw sn kin r ≤ j) (hj : j < n) : (rT n t lw sn kin r).testBit (r j) = false := by
  rw [rT_c]
  exact cms_out hp h1 hj
theorem rns_skip {T : Nat} : ∀ {k j}, (∀ i, k ≤ i → i < k + j → T.testBit (r i) = false) → rns n T r sn W A C (k + j) = rns n T r sn W A C k
  | k, 0, _ => rfl
  | k, j + 1, h => by
    show rns n T r sn W A C ((k + j) + 1) = _
    rw [rns, if_neg (by rw [h (k + j) (by omega) (by omega)]; decide)]
    exact rns_skip (fun i h1 h2 => h i h1 (by omega))
theorem rG_n (hp : prm n r) : rG n t lw sn kin W A C r = (rns n (rT n t lw sn kin r) r sn W A C n).2 ∧ rS n t lw sn kin W A C r = (rns n (rT n t lw sn kin r) r sn W A C n).1 := by
  have hle := rC_le (n := n) (t := t) (lw := lw) (sn := sn) (kin := kin) (r := r)
  have := rns_skip (n := n) (T := rT n t lw sn kin r) (sn := sn) (W := W) (A := A) (C := C) (r := r) (k := rC n t lw sn kin r) (j := n - rC n t lw sn kin r) (fun i h1 h2 => rT_out hp h1 (by omega))
  rw [show rC n t lw sn kin r + (n - rC n t lw sn kin r) = n by omega] at this
  unfold rG rS
  rw [this]
  exact ⟨rfl, rfl⟩
/-- for whom each is sent, by the first i of a row -/
def rnf (n T : Nat) (r sn W A C : Nat → Nat) : Nat → Nat → Option Nat
  | 0 => fun _ => none
  | i + 1 => if T.testBit (r i) then
      (match chn (okn (T ||| (rns n T r sn W A C i).1) sn A (C (r i)) (W (r i))) A n with
        | none => rnf n T r sn W A C i
        | some q => va_up (rnf n T r sn W A C i) q (some (r i)))
    else rnf n T r sn W A C i
/-- sent by a row's first, and seen from both sides -/
theorem rnf_iff {T : Nat} (hp : prm n r) : ∀ k, k ≤ n → (∀ m q, (rns n T r sn W A C k).2 m = some q ↔ rnf n T r sn W A C k q = some m) ∧ (∀ m q, (rns n T r sn W A C k).2 m = some q → ∃ i, i < k ∧ r i = m) ∧ ∀ q, (rns n T r sn W A C k).1.testBit q = (rnf n T r sn W A C k q).isSome
  | 0, _ => ⟨fun m q => ⟨fun h => (by cases h), fun h => (by cases h)⟩, fun m q h => (by cases h), fun q => by rw [show (rns n T r sn W A C 0).1 = 0 from rfl, Nat.zero_testBit]; rfl⟩
  | k + 1, hk => by
    obtain ⟨i1, i2, i3⟩ := rnf_iff (T := T) hp k (by omega)
    have hno : (rns n T r sn W A C k).2 (r k) = none := by
      cases e : (rns n T r sn W A C k).2 (r k) with
      | none => rfl
      | some q =>
        obtain ⟨i, hi, he⟩ := i2 _ _ e
        exact absurd he (hp.2 i k (by omega) (by omega) (by omega))
    rw [rns, rnf]
    by_cases ht : T.testBit (r k) = true
    · rw [if_pos ht, if_pos ht]
      cases hc : chn (okn (T ||| (rns n T r sn W A C k).1) sn A (C (r k)) (W (r k))) A n with
      | none =>
        dsimp only
        have e : va_up (rns n T r sn W A C k).2 (r k) none = (rns n T r sn W A C k).2 := by
          funext x
          unfold va_up
          split
          · rename_i e; rw [e, hno]
          · rfl
        rw [e]
        exact ⟨i1, fun m q h => by obtain ⟨i, hi, he⟩ := i2 m q h; exact ⟨i, by omega, he⟩, i3⟩
      | some p =>
        dsimp only
        have hnew : (rns n T r sn W A C k).1.testBit p = false := by
          have := (chn_ok hc).2
          simp only [okn, Bool.and_eq_true, Nat.testBit_or, Bool.not_eq_true', Bool.or_eq_false_iff] at this
          exact this.1.2
        have hfn : rnf n T r sn W A C k p = none := by
          have := i3 p
          rw [hnew] at this
          cases e : rnf n T r sn W A C k p with
          | none => rfl
          | some x => rw [e] at this; cases this
        refine ⟨fun m q => ?_, fun m q h => ?_, fun q => ?_⟩
        · unfold va_up
          by_cases hm : m = r k
          · subst hm
            rw [if_pos rfl]
            by_cases hq : q = p
            · subst hq; rw [if_pos rfl]; exact ⟨fun _ => rfl, fun _ => rfl⟩
            · rw [if_neg hq]
              refine ⟨fun h => absurd (Option.some.inj h).symm hq, fun h => ?_⟩
              have := (i1 (r k) q).mpr h
              rw [hno] at this
              cases this
          · rw [if_neg hm]
            by_cases hq : q = p
            · subst hq
              rw [if_pos rfl]
              refine ⟨fun h => ?_, fun h => absurd (Option.some.inj h).symm hm⟩
              have := (i1 m q).mp h
              rw [hfn] at this
              cases this
            · rw [if_neg hq]
              exact i1 m q
        · unfold va_up at h
          by_cases hm : m = r k
          · exact ⟨k, by omega, hm.symm⟩
          · rw [if_neg hm] at h
            obtain ⟨i, hi, he⟩ := i2 m q h
            exact ⟨i, by omega, he⟩
        · rw [fb_bit_set, i3 q]
          unfold va_up
          by_cases hq : q = p
          · subst hq; simp
          · simp [hq]
    · rw [if_neg ht, if_neg ht]
      exact ⟨i1, fun m q h => by obtain ⟨i, hi, he⟩ := i2 m q h; exact ⟨i, by omega, he⟩, i3⟩
end Pr
theorem sdr_none {g : Nat → Option Nat} {m : Nat} : ∀ {j k}, sdr g m j k = none → ∀ i, k ≤ i → i < k + j → ¬ g i = some m
  | 0, k, _, i, h1, h2 => by omega
  | j + 1, k, h, i, h1, h2 => by
    rw [sdr] at h
    split at h
    · cases h
    · rename_i e
      by_cases hi : i = k
      · subst hi; exact e
      · exact sdr_none h i (by omega) (by omega)
/-- one side from the other -/
theorem sdr_inv {g f : Nat → Option Nat} {n : Nat} (h : ∀ m q, m < n → (g m = some q ↔ f q = some m)) (hf : ∀ q m, f q = some m → m < n) (q : Nat) : sdr g q n 0 = f q := by
  cases e : sdr g q n 0 with
  | some m =>
    obtain ⟨-, h2, h3⟩ := sdr_at e
    exact ((h m q (by omega)).mp h3).symm
  | none =>
    cases e2 : f q with
    | none => rfl
    | some m =>
      have hm := hf q m e2
      exact absurd ((h m q hm).mpr e2) (sdr_none e m (by omega) (by omega))
