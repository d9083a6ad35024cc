/-! sums over cases are sums over all rows -/
theorem ckXn {n : Nat} (hn : 1 ≤ n ∧ n ≤ 6) : ckX n = true := by
  have h : n = 1 ∨ n = 2 ∨ n = 3 ∨ n = 4 ∨ n = 5 ∨ n = 6 := by omega
  rcases h with rfl | rfl | rfl | rfl | rfl | rfl
  · exact ckX1
  · exact ckX2
  · exact ckX3
  · exact ckX4
  · exact ckX5
  · exact ckX6
theorem ckYn {n : Nat} (hn : 1 ≤ n ∧ n ≤ 6) : ckY n = true := by
  have h : n = 1 ∨ n = 2 ∨ n = 3 ∨ n = 4 ∨ n = 5 ∨ n = 6 := by omega
  rcases h with rfl | rfl | rfl | rfl | rfl | rfl
  · exact ckY1
  · exact ckY2
  · exact ckY3
  · exact ckY4
  · exact ckY5
  · exact ckY6
theorem lxAB {n c k : Nat} (hn : 1 ≤ n ∧ n ≤ 6) (hc : c ≤ n) (hk : k < fac n) : ckA n c k = true ∧ ckB n c k = true := by
  have h := ckXn hn
  unfold ckX at h
  rw [List.all_eq_true] at h
  have h1 := h c (List.mem_range.mpr (by omega))
  rw [List.all_eq_true] at h1
  have h2 := h1 k (List.mem_range.mpr hk)
  rw [Bool.and_eq_true] at h2
  exact h2
theorem lxA {n c k : Nat} (hn : 1 ≤ n ∧ n ≤ 6) (hc : c ≤ n) (hk : k < fac n) (hm : k % fac (n - c) = 0) : (nxr n c (lx n k)).2 = decide (k + fac (n - c) < fac n) ∧ (k + fac (n - c) < fac n → ∀ i, i < n → (nxr n c (lx n k)).1 i = lx n (k + fac (n - c)) i) := by
  have h := (lxAB hn hc hk).1
  unfold ckA at h
  rw [if_pos hm, Bool.and_eq_true, beq_iff_eq] at h
  refine ⟨h.1, fun hlt i hi => ?_⟩
  have h2 := h.2
  rw [if_pos hlt, List.all_eq_true] at h2
  exact beq_iff_eq.mp (h2 i (List.mem_range.mpr hi))
theorem lxB {n c k i : Nat} (hn : 1 ≤ n ∧ n ≤ 6) (hc : c ≤ n) (hk : k < fac n) (hi : i < c) : lx n k i = lx n (k / fac (n - c) * fac (n - c)) i := by
  have h := (lxAB hn hc hk).2
  unfold ckB at h
  have h := beq_iff_eq.mp h
  have h2 := congrArg (fun l => List.getD l i 0) h
  unfold lx
  simpa [List.getD_eq_getElem?_getD, List.getElem?_take, hi] using h2
theorem lxC {n k : Nat} (hn : 1 ≤ n ∧ n ≤ 6) (hk : k < fac n) : (∀ i, i < n → lx n k i < n) ∧ ∀ i j, i < n → j < n → i ≠ j → lx n k i ≠ lx n k j := by
  have h := ckYn hn
  unfold ckY at h
  rw [List.all_eq_true] at h
  have h1 := h k (List.mem_range.mpr hk)
  unfold ckC at h1
  rw [List.all_eq_true] at h1
  refine ⟨fun i hi => ?_, fun i j hi hj hij => ?_⟩
  · have := h1 i (List.mem_range.mpr hi)
    rw [Bool.and_eq_true] at this
    exact of_decide_eq_true this.1
  · have := h1 i (List.mem_range.mpr hi)
    rw [Bool.and_eq_true, List.all_eq_true] at this
    have h3 := this.2 j (List.mem_range.mpr hj)
    intro e
    rw [e] at h3
    simp [hij] at h3
def ag (n : Nat) (r r' : Nat → Nat) : Prop := ∀ i, i < n → r i = r' i
theorem swp_ag {n : Nat} {r r' : Nat → Nat} {i j : Nat} (hi : i < n) (hj : j < n) (h : ag n r r') : ag n (swp r i j) (swp r' i j) := by
  intro x hx
  unfold swp va_up
  rw [h i hi, h j hj, h x hx]
theorem trn_ag {n : Nat} : ∀ (f : Nat) {r r' : Nat → Nat} {i j : Nat}, j < n → ag n r r' → ag n (trn f r i j) (trn f r' i j)
  | 0, _, _, _, _, _, h => h
  | f + 1, r, r', i, j, hj, h => by
    rw [trn, trn]
    split
    · exact trn_ag f (by omega) (swp_ag (by omega) hj h)
    · exact h
theorem fdi_ag {n : Nat} {r r' : Nat → Nat} (h : ag n r r') : ∀ k, k < n → fdi r k = fdi r' k
  | 0, _ => rfl
  | k + 1, hk => by
    rw [fdi, fdi, h (k + 1) hk, h k (by omega), fdi_ag h k (by omega)]
theorem fdj_ag {n : Nat} {r r' : Nat → Nat} {i : Nat} (hi : i < n) (h : ag n r r') : ∀ k, k < n → fdj r i k = fdj r' i k
  | 0, _ => rfl
  | k + 1, hk => by
    rw [fdj, fdj, h (k + 1) hk, h i hi, fdj_ag hi h k (by omega)]
theorem nxr_ag {n c : Nat} {r r' : Nat → Nat} (hn : 1 ≤ n) (h : ag n r r') : (nxr n c r).2 = (nxr n c r').2 ∧ ag n (nxr n c r).1 (nxr n c r').1 := by
  have h1 : ag n (trn 3 r c (n - 1)) (trn 3 r' c (n - 1)) := trn_ag 3 (by omega) h
  unfold nxr
  rw [fdi_ag h1 (n - 1) (by omega)]
  have hle := fdi_le (r := trn 3 r' c (n - 1)) (n - 1)
  cases hf : fdi (trn 3 r' c (n - 1)) (n - 1) with
  | zero => exact ⟨rfl, h1⟩
  | succ i =>
    refine ⟨rfl, ?_⟩
    dsimp only
    rw [fdj_ag (show i < n by omega) h1 (n - 1) (by omega)]
    have hj := fdj_le (r := trn 3 r' c (n - 1)) (i := i) (n - 1)
    exact trn_ag 3 (by omega) (swp_ag (by omega) (by omega) h1)
theorem rno_ag {r r' : Nat → Nat} : ∀ {n : Nat}, ag n r r' → rno r n = rno r' n
  | 0, _ => rfl
  | n + 1, h => by
    rw [rno, rno, h n (by omega), rno_ag (n := n) (fun i hi => h i (by omega))]
section Cg
variable {n t lw : Nat} {sn kin W A C sn' kin' W' A' C' r r' : Nat → Nat}
theorem cms_cg (hd : ∀ m, m < n → sn m = sn' m ∧ kin m = kin' m) : ∀ k, (∀ i, i < k → r i = r' i ∧ r i < n) → cms t r sn kin lw k = cms t r' sn' kin' lw k
  | 0, _ => rfl
  | k + 1, h => by
    have hk := h k (by omega)
    have hm := hd (r k) hk.2
    rw [cms, cms, cms_cg hd k (fun i hi => h i (by omega)), hm.1, hm.2, hk.1]
theorem cld_ge : ∀ j k, k ≤ cld t r sn kin lw j k
  | 0, k => Nat.le_refl _
  | j + 1, k => by
    rw [cld]
    split
    · have := cld_ge j (k + 1); omega
    · exact Nat.le_refl _
theorem cld_cg (hd : ∀ m, m < n → sn m = sn' m ∧ kin m = kin' m) : ∀ j k, (∀ i, i < cld t r sn kin lw j k → r i = r' i ∧ r i < n) → cld t r' sn' kin' lw j k = cld t r sn kin lw j k
  | 0, k, _ => rfl
  | j + 1, k, h => by
    have hg := cld_ge (t := t) (r := r) (sn := sn) (kin := kin) (lw := lw) (j + 1) k
    have e := cms_cg (t := t) (lw := lw) hd k (fun i hi => h i (by omega))
    rw [cld, cld, ← e]
    rw [cld] at h
    split
    · rename_i hc
      rw [if_pos hc] at h
      exact cld_cg hd j (k + 1) h
    · rfl
theorem cld_end : ∀ j k, cld t r sn kin lw j k = k + j ∨ ¬ (cms t r sn kin lw (cld t r sn kin lw j k)).2 < t
  | 0, k => Or.inl rfl
  | j + 1, k => by
    rw [cld]
    split
    · rcases cld_end j (k + 1) with h | h
      · left; omega
      · right; exact h
    · rename_i h; right; exact h
theorem rT_c : rT n t lw sn kin r = (cms t r sn kin lw (rC n t lw sn kin r)).1 := by
  unfold rT rC
  have hle := cld_le (t := t) (r := r) (sn := sn) (kn := kin) (lw := lw) n 0
  rcases cld_end (t := t) (r := r) (sn := sn) (kin := kin) (lw := lw) n 0 with h | h
  · rw [h, Nat.zero_add]
  · have := cms_stop h (n - cld t r sn kin lw n 0)
    rw [show cld t r sn kin lw n 0 + (n - cld t r sn kin lw n 0) = n by omega] at this
    rw [this]
theorem chn_cg {ok ok' : Nat → Bool} {A A' : Nat → Nat} : ∀ k, (∀ q, q < k → ok q = ok' q ∧ A q = A' q) → chn ok A k = chn ok' A' k
  | 0, _ => rfl
  | k + 1, h => by
    have ih := chn_cg k (fun q hq => h q (by omega))
    rw [chn, chn, ih, (h k (by omega)).1]
    cases hc : chn ok' A' k with
    | none => rfl
    | some p =>
      have hp := (chn_ok hc).1
      dsimp only
      rw [(h k (by omega)).2, (h p (by omega)).2]
theorem rns_cg {T : Nat} (hd : ∀ m, m < n → sn m = sn' m ∧ W m = W' m ∧ A m = A' m ∧ C m = C' m) : ∀ k, (∀ i, i < k → r i = r' i ∧ r i < n) → rns n T r sn W A C k = rns n T r' sn' W' A' C' k
  | 0, _ => rfl
  | k + 1, h => by
    have ih := rns_cg (T := T) hd k (fun i hi => h i (by omega))
    have hk := h k (by omega)
    have hm := hd (r k) hk.2
    have e : chn (okn (T ||| (rns n T r' sn' W' A' C' k).1) sn A (C (r k)) (W (r k))) A n = chn (okn (T ||| (rns n T r' sn' W' A' C' k).1) sn' A' (C' (r' k)) (W' (r' k))) A' n := by
      apply chn_cg
      intro q hq
      have hq := hd q hq
      refine ⟨?_, hq.2.2.1⟩
      unfold okn
      rw [hq.1, hq.2.2.1, hm.2.1, hm.2.2.2, hk.1]
    rw [rns, rns, ih, hk.1]
    rw [hk.1] at e
    rw [e]
theorem row_same (hd : ∀ m, m < n → sn m = sn' m ∧ kin m = kin' m ∧ W m = W' m ∧ A m = A' m ∧ C m = C' m) (h : ∀ i, i < rC n t lw sn kin r → r i = r' i ∧ r i < n) : rC n t lw sn' kin' r' = rC n t lw sn kin r ∧ rT n t lw sn' kin' r' = rT n t lw sn kin r ∧ rG n t lw sn' kin' W' A' C' r' = rG n t lw sn kin W A C r ∧ rS n t lw sn' kin' W' A' C' r' = rS n t lw sn kin W A C r := by
  have h1 : rC n t lw sn' kin' r' = rC n t lw sn kin r := cld_cg (fun m hm => ⟨(hd m hm).1, (hd m hm).2.1⟩) n 0 h
  have h2 : rT n t lw sn' kin' r' = rT n t lw sn kin r := by
    rw [rT_c, rT_c, h1]
    rw [cms_cg (fun m hm => ⟨(hd m hm).1, (hd m hm).2.1⟩) _ h]
  have h3 := rns_cg (n := n) (T := rT n t lw sn kin r) (fun m hm => ⟨(hd m hm).1, (hd m hm).2.2⟩) _ h
  refine ⟨h1, h2, ?_, ?_⟩
  · unfold rG
    rw [h1, h2, h3]
  · unfold rS
    rw [h1, h2, h3]
end Cg
theorem fac_dvd {a : Nat} : ∀ {b : Nat}, a ≤ b → fac a ∣ fac b
  | 0, h => by
    have : a = 0 := by omega
    subst this
    exact Nat.dvd_refl _
  | b + 1, h => by
    by_cases e : a = b + 1
    · subst e; exact Nat.dvd_refl _
    · exact Nat.dvd_trans (fac_dvd (b := b) (by omega)) ⟨b + 1, by rw [fac, Nat.mul_comm]⟩
theorem room {p F N : Nat} (hF : F ∣ N) (hp : p % F = 0) (h : p < N) (h0 : 0 < F) : p + F ≤ N := by
  obtain ⟨q, rfl⟩ := hF
  obtain ⟨s, rfl⟩ := Nat.dvd_of_mod_eq_zero hp
  have : s < q := Nat.lt_of_mul_lt_mul_left h
  calc F * s + F = F * (s + 1) := by rw [Nat.mul_succ]
    _ ≤ F * q := Nat.mul_le_mul_left F this
theorem div_pred {q F : Nat} (h0 : 0 < F) (h : q % F ≠ 0) : (q - 1) / F = q / F := by
  have h1 := Nat.div_add_mod q F
  have h2 := Nat.mod_lt q h0
  have e : q - 1 = (q % F - 1) + F * (q / F) := by omega
  rw [e, Nat.add_mul_div_left _ _ h0, Nat.div_eq_of_lt (by omega), Nat.zero_add]
theorem div_blk {p F j : Nat} (h0 : 0 < F) (hp : p % F = 0) (hj : j < F) : (p + j) / F * F = p := by
  obtain ⟨s, rfl⟩ := Nat.dvd_of_mod_eq_zero hp
  rw [Nat.add_comm, Nat.add_mul_div_left _ _ h0, Nat.div_eq_of_lt hj, Nat.zero_add, Nat.mul_comm]
theorem sm_shift (f : Nat → Nat) (m : Nat) : fb_sm f (m + 1) = f 0 + fb_sm (fun k => f (k + 1)) m := by
  have := fb_sm_split f 1 m
  rw [Nat.add_comm m 1, this]
  have e : (fun k => f (1 + k)) = fun k => f (k + 1) := by funext k; rw [Nat.add_comm]
  rw [e]
  simp [fb_sm]
section PT
variable {n t lw : Nat} {sn kin W A C : Nat → Nat}
theorem rC_le {r : Nat → Nat} : rC n t lw sn kin r ≤ n := by
  have := cld_le (t := t) (r := r) (sn := sn) (kn := kin) (lw := lw) n 0
  unfold rC
  omega
theorem blk (hn : 1 ≤ n ∧ n ≤ 6) {r : Nat → Nat} {p j : Nat} (hr : ag n r (lx n p)) (hp : p < fac n) (hm : p % fac (n - rC n t lw sn kin r) = 0) (hj : j < fac (n - rC n t lw sn kin r)) : rC n t lw sn kin (lx n (p + j)) = rC n t lw sn kin r ∧ rT n t lw sn kin (lx n (p + j)) = rT n t lw sn kin r ∧ rG n t lw sn kin W A C (lx n (p + j)) = rG n t lw sn kin W A C r ∧ rS n t lw sn kin W A C (lx n (p + j)) = rS n t lw sn kin W A C r := by
  have hc := rC_le (n := n) (t := t) (lw := lw) (sn := sn) (kin := kin) (r := r)
  have hroom := room (fac_dvd (show n - rC n t lw sn kin r ≤ n by omega)) hm hp (fac_pos _)
  refine row_same (fun m _ => ⟨rfl, rfl, rfl, rfl, rfl⟩) (fun i hi => ?_)
  have h1 := lxB (c := rC n t lw sn kin r) hn hc (show p + j < fac n by omega) hi
  rw [div_blk (fac_pos _) hm hj] at h1
  rw [h1, ← hr i (by omega)]
  exact ⟨rfl, by rw [hr i (by omega)]; exact (lxC hn hp).1 i (by omega)⟩
theorem stp (hn : 1 ≤ n ∧ n ≤ 6) {r : Nat → Nat} {p : Nat} (hr : ag n r (lx n p)) (hp : p < fac n) (hm : p % fac (n - rC n t lw sn kin r) = 0) :
    (rX n t lw sn kin r).2 = decide (p + fac (n - rC n t lw sn kin r) < fac n) ∧ (p + fac (n - rC n t lw sn kin r) < fac n → ag n (rX n t lw sn kin r).1 (lx n (p + fac (n - rC n t lw sn kin r))) ∧ (p + fac (n - rC n t lw sn kin r)) % fac (n - rC n t lw sn kin (rX n t lw sn kin r).1) = 0) := by
  have hc := rC_le (n := n) (t := t) (lw := lw) (sn := sn) (kin := kin) (r := r)
  have h1 := nxr_ag (c := rC n t lw sn kin r) hn.1 hr
  have h2 := lxA hn hc hp hm
  refine ⟨by unfold rX; rw [h1.1, h2.1], fun hlt => ?_⟩
  have h3 : ag n (rX n t lw sn kin r).1 (lx n (p + fac (n - rC n t lw sn kin r))) := fun i hi => by
    unfold rX
    rw [h1.2 i hi, h2.2 hlt i hi]
  refine ⟨h3, ?_⟩
  have hq1 := lxC hn hlt
  have e1 := (row_same (n := n) (t := t) (lw := lw) (sn := sn) (kin := kin) (W := sn) (A := sn) (C := sn) (sn' := sn) (kin' := kin) (W' := sn) (A' := sn) (C' := sn) (r := (rX n t lw sn kin r).1) (r' := lx n (p + fac (n - rC n t lw sn kin r))) (fun m _ => ⟨rfl, rfl, rfl, rfl, rfl⟩) (fun i hi => by
    have hc' := rC_le (n := n) (t := t) (lw := lw) (sn := sn) (kin := kin) (r := (rX n t lw sn kin r).1)
    have := h3 i (by omega)
    exact ⟨this, by rw [this]; exact hq1.1 i (by omega)⟩)).1
  rw [← e1]
  have e0 := (blk (W := sn) (A := sn) (C := sn) hn hr hp hm (show fac (n - rC n t lw sn kin r) - 1 < fac (n - rC n t lw sn kin r) by have := fac_pos (n - rC n t lw sn kin r); omega)).1
  have hF := fac_pos (n - rC n t lw sn kin r)
  rw [show p + (fac (n - rC n t lw sn kin r) - 1) = p + fac (n - rC n t lw sn kin r) - 1 by omega] at e0
  generalize hq : p + fac (n - rC n t lw sn kin r) = q at *
  have hc2 := rC_le (n := n) (t := t) (lw := lw) (sn := sn) (kin := kin) (r := lx n q)
  by_cases hz : q % fac (n - rC n t lw sn kin (lx n q)) = 0
  · exact hz
  · exfalso
    have e2 := (row_same (n := n) (t := t) (lw := lw) (sn := sn) (kin := kin) (W := sn) (A := sn) (C := sn) (sn' := sn) (kin' := kin) (W' := sn) (A' := sn) (C' := sn) (r := lx n q) (r' := lx n (q - 1)) (fun m _ => ⟨rfl, rfl, rfl, rfl, rfl⟩) (fun i hi => by
      have b1 := lxB (c := rC n t lw sn kin (lx n q)) hn hc2 hlt hi
      have b2 := lxB (c := rC n t lw sn kin (lx n q)) (k := q - 1) hn hc2 (by omega) hi
      rw [div_pred (fac_pos _) hz] at b2
      exact ⟨by rw [b1, b2], hq1.1 i (by omega)⟩)).1
    rw [e0] at e2
    rw [← e2] at hz
    apply hz
    rw [← hq, Nat.add_mod_right]
    exact hm
theorem rw_shift {r : Nat → Nat} : ∀ k, rw_ n t lw sn kin r (k + 1) = rw_ n t lw sn kin (rX n t lw sn kin r).1 k
  | 0 => rfl
  | k + 1 => by
    rw [rw_, rw_shift k]
    rfl
theorem pt (hn : 1 ≤ n ∧ n ≤ 6) (φ : Nat → (Nat → Option Nat) → Nat) : ∀ f r p, ag n r (lx n p) → p < fac n → p % fac (n - rC n t lw sn kin r) = 0 → fac n ≤ p + f →
    fb_sm (fun k => fac (n - rC n t lw sn kin (rw_ n t lw sn kin r k)) * φ (rT n t lw sn kin (rw_ n t lw sn kin r k)) (rG n t lw sn kin W A C (rw_ n t lw sn kin r k))) (fcn n t lw sn kin f r) + fb_sm (fun j => φ (rT n t lw sn kin (lx n j)) (rG n t lw sn kin W A C (lx n j))) p = fb_sm (fun j => φ (rT n t lw sn kin (lx n j)) (rG n t lw sn kin W A C (lx n j))) (fac n) := by
  intro f
  induction f with
  | zero => intro r p _ hp _ h; omega
  | succ f ih =>
    intro r p hr hp hm hf
    have hF := fac_pos (n - rC n t lw sn kin r)
    have hroom := room (fac_dvd (show n - rC n t lw sn kin r ≤ n by omega)) hm hp hF
    have hb : fb_sm (fun j => φ (rT n t lw sn kin (lx n j)) (rG n t lw sn kin W A C (lx n j))) (p + fac (n - rC n t lw sn kin r)) = fb_sm (fun j => φ (rT n t lw sn kin (lx n j)) (rG n t lw sn kin W A C (lx n j))) p + fac (n - rC n t lw sn kin r) * φ (rT n t lw sn kin r) (rG n t lw sn kin W A C r) := by
      rw [fb_sm_split]
      congr 1
      rw [← fb_sm_const]
      refine fb_sm_cong (fun j hj => ?_)
      have := blk (W := W) (A := A) (C := C) hn hr hp hm hj
      rw [this.2.1, this.2.2.1]
    have hs := stp hn hr hp hm
    by_cases hlt : p + fac (n - rC n t lw sn kin r) < fac n
    · have hx : (rX n t lw sn kin r).2 = true := by rw [hs.1, decide_eq_true hlt]
      have h3 := hs.2 hlt
      have hih := ih _ _ h3.1 hlt h3.2 (by omega)
      rw [fcn, hx, if_pos rfl, sm_shift]
      simp only [rw_shift]
      rw [← hih, hb]
      show fac (n - rC n t lw sn kin r) * φ (rT n t lw sn kin r) (rG n t lw sn kin W A C r) + _ + _ = _
      omega
    · have hx : (rX n t lw sn kin r).2 = false := by rw [hs.1, decide_eq_false hlt]
      have he : p + fac (n - rC n t lw sn kin r) = fac n := by omega
      rw [fcn, hx, if_neg (by decide), ← he, hb, sm_shift]
      show fac (n - rC n t lw sn kin r) * φ (rT n t lw sn kin r) (rG n t lw sn kin W A C r) + 0 + _ = _
      omega
end PT
