/-! more congruences; what both sides answer -/
section Cg2
variable {D : Nat → Nat} {DA MA : Nat → Nat → Nat} {sn SN C C' : Nat → Nat} {lw : Nat}
theorem chn_cg2 {ok ok' : Nat → Bool} {A A' : Nat → Nat} : ∀ n, (∀ q, q < n → ok q = ok' q ∧ A q = A' q) → chn ok A n = chn ok' A' n
  | 0, _ => rfl
  | n + 1, h => by
    rw [chn, chn, chn_cg2 n (fun q hq => h q (by omega)), (h n (by omega)).1]
    cases hc : chn ok' A' n with
    | none => rfl
    | some p =>
      have := (chn_ok hc).1
      dsimp only
      rw [(h n (by omega)).2, (h p (by omega)).2]
theorem wg_cg (h : agM (D 1) DA MA sn SN C C') {k : Nat} (hk : k < D 1) : chn (okn (2 ^ k) sn (DA 3) (C k) (DA 1 k)) (DA 3) (D 1) = chn (okn (2 ^ k) SN (MA 3) (C' k) (MA 1 k)) (MA 3) (D 1) := chn_cg2 _ (fun q hq => by
  obtain ⟨a1, a2, a3, a4, a5⟩ := h q hq
  obtain ⟨c1, c2, c3, c4, c5⟩ := h k hk
  unfold okn
  rw [a1, a4, c5, c3]
  exact ⟨rfl, rfl⟩)
theorem fT_cg (h : agM (D 1) DA MA sn SN C C') (hn : 1 ≤ D 1 ∧ D 1 ≤ 6) (m : Nat) : fT D DA lw sn m = fT D MA lw SN m := by
  unfold fT
  rw [frs_cg (p := fun j => (qT D DA lw sn (lx (D 1) j)).testBit m) (q := fun j => (qT D MA lw SN (lx (D 1) j)).testBit m) (fac (D 1)) 0 (fun j _ hj => by
    have hq := q_cg (D := D) h (lw := lw) (r := lx (D 1) j) (prm_lx hn (by omega)).1
    rw [hq.1])]
theorem cdw_cg (h : agM (D 1) DA MA sn SN C C') (m s : Nat) (o : Bool) (c : Nat) : cdw D DA lw sn C m s o c = cdw D MA lw SN C' m s o c := fb_ct_cong (fun k hk => by
  have hq := q_cg (D := D) h (lw := lw) (r := dR (D 1) (dsk (D 1) s k)) dR_prm.1
  rw [hq.1, hq.2.2])
theorem lsI_cg (h : agM (D 1) DA MA sn SN C C') (s c : Nat) : lsI D DA lw sn C s c = lsI D MA lw SN C' s c := fb_sm_cong (fun k hk => fb_sm_cong (fun m hm => by
  have hq := q_cg (D := D) h (lw := lw) (r := dR (D 1) (dsk (D 1) s k)) dR_prm.1
  rw [hq.1, hq.2.1]
  exact los_cg h hm (fun q e => qG_b e)))
theorem many_cg (h : agM (D 1) DA MA sn SN C C') (y : Nat) : fb_ct (fun m => decide (sn m = y)) (D 1) = fb_ct (fun m => decide (SN m = y)) (D 1) := fb_ct_cong (fun k hk => by rw [(h k hk).1])
theorem man_cg (h : agM (D 1) DA MA sn SN C C') {k y : Nat} (hk : k < D 1) (N : Nat → Nat) (NA : Nat → Nat → Nat) (h0 : NA 0 = sn) (h1 : NA 1 = C) (hy : y < 6) : manA DA N NA k y = mManA MA (N 0) SN C' k y := by
  obtain ⟨a1, a2, a3, a4, a5⟩ := h k hk
  have hy6 : y = 0 ∨ y = 1 ∨ y = 2 ∨ y = 3 ∨ y = 4 ∨ y = 5 := by omega
  rcases hy6 with rfl | rfl | rfl | rfl | rfl | rfl
  · show nI (NA 0 k) = nI (SN k); rw [h0, a1]
  · show nI (DA 1 k) = nI (MA 1 k); rw [a3]
  · show nI (NA 1 k) = nI (C' k); rw [h1, a5]
  · show nI (DA 3 k) = nI (MA 3 k); rw [a4]
  · show nI (DA 4 k) = nI (MA 4 k); rw [a2]
  · show bl ((N 0).testBit (NA 0 k)) = bl ((N 0).testBit (SN k)); rw [h0, a1]
theorem gng_row (h : agM (D 1) DA MA sn SN C C') (hn : D 1 ≤ 6) {r : Nat → Nat} (hp : prm (D 1) r) : gng (qT D DA lw sn r) (qG D DA lw sn C r) 6 = gmg (qS D MA lw SN C' r) (qT D MA lw SN r) (qG D MA lw SN C' r) (D 1) := by
  have hq := q_cg (D := D) h (lw := lw) (r := r) hp.1
  rw [hq.1, hq.2.1]
  exact gng_gmg (qG_gI hp) hn (fun m => qS_bit hp m)
theorem agM_up {n k y : Nat} (h : agM n DA MA sn SN C C') : agM n DA MA (va_up sn k y) (va_up SN k y) C C' := fun m hm => ⟨by
  unfold va_up
  rw [(h m hm).1], (h m hm).2⟩
theorem isr_prm {n : Nat} {x : Int32} (h : isr n x = true) : prm n (rwo n x.toNatClampNeg) := by
  unfold isr at h
  rw [Bool.and_eq_true] at h
  exact rwo_prm h.2
end Cg2
/-- both sides answer the same, and what is behind it -/
abbrev bth (sta : mj_S) (d i1 i2 : Nat) (as1 as2 : List Value) (w u : mj_W) (CP MP : Int32 → mj_W → Prop) : Prop := ∃ v t, mj_Sx sta d i1 as1 w (fun v' w' => v' = some v ∧ CP t w') ∧ mj_Sx sta d i2 as2 u (fun v' u' => v' = some v ∧ MP t u')
def hyp (sta : mj_S) (D : Nat → Nat) (DA : Nat → Nat → Nat) (H : HN) (V : Nat → Int32) (MA : Nat → Nat → Nat) (SN C : Nat → Nat) : Prop := stF sta ∧ okD D DA ∧ 1 ≤ D 1 ∧ okN H.1 H.2.1 H.2.2 ∧ vN V (H.1 0) SN C ∧ okG D MA SN C (H.1 0) ∧ agM (D 1) DA MA (H.2.1 0) SN (H.2.1 1) C ∧ (∀ k, k < D 8 → DA 5 k = MA 5 k) ∧ ∀ k, k < D 8 → MA 5 k < D 1
