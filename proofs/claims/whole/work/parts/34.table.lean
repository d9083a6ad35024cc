/-! the table of cases -/
theorem lx0 {n i : Nat} (hn : n ≤ 6) (hi : i < n) : lx n 0 i = i := by
  have : ∀ n, n ≤ 6 → ∀ i, i < n → lx n 0 i = i := by decide +kernel
  exact this n hn i hi
theorem fac_720 : ∀ n, n ≤ 6 → fac n ≤ 720 := by decide
def qT (D : Nat → Nat) (DA : Nat → Nat → Nat) (lw : Nat) (sn : Nat → Nat) (r : Nat → Nat) : Nat := rT (D 1) (D 0) lw sn (DA 4) r
def qG (D : Nat → Nat) (DA : Nat → Nat → Nat) (lw : Nat) (sn C : Nat → Nat) (r : Nat → Nat) : Nat → Option Nat := rG (D 1) (D 0) lw sn (DA 4) (DA 1) (DA 3) C r
def tot (D : Nat → Nat) (DA : Nat → Nat → Nat) (lw : Nat) (sn C : Nat → Nat) (φ : Nat → (Nat → Option Nat) → Nat) : Nat := fb_sm (fun j => φ (qT D DA lw sn (lx (D 1) j)) (qG D DA lw sn C (lx (D 1) j))) (fac (D 1))
theorem tot_le {D : Nat → Nat} {DA : Nat → Nat → Nat} {lw : Nat} {sn C : Nat → Nat} {φ : Nat → (Nat → Option Nat) → Nat} {c : Nat} (hn : D 1 ≤ 6) (h : ∀ T g, φ T g ≤ c) : tot D DA lw sn C φ ≤ 720 * c := by
  have := fb_sm_bound (f := fun j => φ (qT D DA lw sn (lx (D 1) j)) (qG D DA lw sn C (lx (D 1) j))) (c := c) (n := fac (D 1)) (fun k _ => h _ _)
  have h2 := Nat.mul_le_mul_right c (fac_720 (D 1) hn)
  unfold tot
  omega
/-- what stands in cases: levy, row, count, the cases -/
abbrev CX : Type := (Int32 × Int32 × Int32 × Int32) × (Nat → Nat) × (Nat → Option Nat) × Nat × (Nat → Nat) × (Nat → Nat → Option Nat) × (Nat → Nat)
abbrev xct (X : CX) : Nat := X.2.2.2.1
abbrev xK (X : CX) : Nat → Nat := X.2.2.2.2.1
abbrev xG (X : CX) : Nat → Nat → Option Nat := X.2.2.2.2.2.1
abbrev xE (X : CX) : Nat → Nat := X.2.2.2.2.2.2
abbrev cs7 (s : Nat) (X : CX) : mj_W := [(s, .inr (0, cob s (nI X.2.2.2.1) X.1.2.2.2)), (s + 1, .inr (4, lob (s + 1) X.1.1 X.1.2.1 X.1.2.2.1)), (s + 1 + 1, sq X.2.2.1), (s + 3, an X.2.1), (s + 4, a7 X.2.2.2.2.1), (s + 5, a7 (fun k => pkn (X.2.2.2.2.2.1 k) 6)), (s + 6, a7 X.2.2.2.2.2.2)]
def okX (X : CX) : Prop := bd 6 X.2.1 ∧ xct X ≤ 720 ∧ bd 64 (xK X) ∧ (∀ k, gok (xG X k)) ∧ bd 1000 (xE X)
/-- it is of this draft, law, sorts and coins -/
def csk (D : Nat → Nat) (DA : Nat → Nat → Nat) (lw : Nat) (sn C : Nat → Nat) (X : CX) : Prop := X.1.2.2.2 = nI (D 1) ∧ ∃ r0, xct X = fcn (D 1) (D 0) lw sn (DA 4) 720 (idn (D 1) r0) ∧ ∀ k, k < xct X → xK X k = qT D DA lw sn (rw_ (D 1) (D 0) lw sn (DA 4) (idn (D 1) r0) k) ∧ xG X k = qG D DA lw sn C (rw_ (D 1) (D 0) lw sn (DA 4) (idn (D 1) r0) k) ∧ xE X k = fac (D 1 - rC (D 1) (D 0) lw sn (DA 4) (rw_ (D 1) (D 0) lw sn (DA 4) (idn (D 1) r0) k))
section Csk
variable {D : Nat → Nat} {DA : Nat → Nat → Nat} {lw : Nat} {sn C : Nat → Nat} {X : CX}
theorem csk_sum (hn : 1 ≤ D 1 ∧ D 1 ≤ 6) (h : csk D DA lw sn C X) (φ : Nat → (Nat → Option Nat) → Nat) : fb_sm (fun k => xE X k * φ (xK X k) (xG X k)) (xct X) = tot D DA lw sn C φ := by
  obtain ⟨-, r0, h1, h2⟩ := h
  have h3 := pt (n := D 1) (t := D 0) (lw := lw) (sn := sn) (kin := DA 4) (W := DA 1) (A := DA 3) (C := C) hn φ 720 (idn (D 1) r0) 0 (fun i hi => by rw [lx0 hn.2 hi]; exact if_pos hi) (fac_pos _) (Nat.zero_mod _) (by have := fac_720 (D 1) hn.2; omega)
  rw [← h1] at h3
  have h3 : fb_sm _ (xct X) + 0 = _ := h3
  rw [Nat.add_zero] at h3
  unfold tot
  refine Eq.trans ?_ h3
  refine fb_sm_cong (fun k hk => ?_)
  obtain ⟨a1, a2, a3⟩ := h2 k hk
  rw [a1, a2, a3]
  rfl
theorem csk_if (hn : 1 ≤ D 1 ∧ D 1 ≤ 6) (h : csk D DA lw sn C X) (p : Nat → (Nat → Option Nat) → Bool) : fb_sm (fun k => if p (xK X k) (xG X k) then xE X k else 0) (xct X) = tot D DA lw sn C (fun T g => if p T g then 1 else 0) := by
  rw [← csk_sum hn h]
  refine fb_sm_cong (fun k _ => ?_)
  split <;> simp
end Csk
theorem mix_bd {c k : Nat} {f f' : Nat → Nat} (h : bd c f) (h' : ∀ i, f' i < c) : bd c (mix k f f') := fun i => by
  unfold mix
  split
  · exact h' i
  · exact h i
theorem mix_gok {ct : Nat} {f f' : Nat → Nat → Option Nat} (h : ∀ k, gok (f k)) (h' : ∀ k, gok (f' k)) : ∀ k, gok (mix ct f f' k) := fun k => by
  unfold mix
  split
  · exact h' k
  · exact h k
theorem rT_lt {n t lw : Nat} {sn kin r : Nat → Nat} (hr : bd 6 r) : rT n t lw sn kin r < 64 := (cms_lt hr n).1
section FillX
variable (sta : mj_S) (d s b c lw : Nat) (D : Nat → Nat) (DA : Nat → Nat → Nat) (N : Nat → Nat) (NA : Nat → Nat → Nat) (g : Nat → Option Nat) (X : CX)
theorem s_fillX (hF : stF sta) (hD : okD D DA) (h1 : 1 ≤ D 1) (hsn : bd 4 (NA 0)) (hC : bd 201 (NA 1)) (hX : okX X) (hlw : lw < 16) :
    mj_Sx sta (d + 4) 5 [.ref s, .ref b, .ref c, (.int (nI lw))] (cs7 s X ++ dv b D DA ++ nv c N NA g) (fun v w => v = none ∧ ∃ X', okX X' ∧ csk D DA lw (NA 0) (NA 1) X' ∧ w = cs7 s X' ++ dv b D DA ++ nv c N NA g) := by
  obtain ⟨d0, d1, d3, -, -, -, -, -, -, a0, a1, a2, a3, a4, a5⟩ := hD
  obtain ⟨x1, x2, x3, x4, x5⟩ := hX
  refine mj_Sx.post (mj_Sx.fr (w := cs7 s X ++ dv b D DA ++ nv c N NA g) [1, 7, 14, 15, 12, 3, 9, 11, 16, 2, 0, 4, 5, 6] (s_fill sta d s b c (D 1) (D 0) lw (nI (D 2)) (nI (D 3)) (nI (D 4)) (nI (D 5)) (nI (D 6)) (nI (D 7)) (nI (D 8)) (nI (N 0)) (nI (N 1)) (nI (N 2)) (nI (N 3)) (NA 0) (DA 4) (DA 1) (DA 3) (NA 1) hF X.1.1 X.1.2.1 X.1.2.2.1 (nI X.2.2.2.1) X.1.2.2.2 X.2.1 X.2.2.1 X.2.2.2.2.1 (fun k => pkn (X.2.2.2.2.2.1 k) 6) X.2.2.2.2.2.2 ⟨h1, d1⟩ (by omega) hlw (bd_le a1 (by decide)) (bd_le a3 (by decide)) hsn (bd_le hC (by decide)) a4 x1) rfl rfl (by decide)) (fun v w' hp hk => ?_)
  obtain ⟨wc', ⟨rfl, tb, sb, cl, r', g', hr', rfl⟩, -, rfl⟩ := hp
  refine ⟨rfl, ?_⟩
  have hrw := rw_bd (n := D 1) (t := D 0) (lw := lw) (sn := NA 0) (kin := DA 4) (idn_bd d1 x1)
  have hle := fcn_le (n := D 1) (t := D 0) (lw := lw) (sn := NA 0) (kin := DA 4) 720 (idn (D 1) X.2.1)
  generalize hct : fcn (D 1) (D 0) lw (NA 0) (DA 4) 720 (idn (D 1) X.2.1) = ct at *
  have eP : mix ct (fun k => pkn (X.2.2.2.2.2.1 k) 6) (fun k => pkn (rG (D 1) (D 0) lw (NA 0) (DA 4) (DA 1) (DA 3) (NA 1) (rw_ (D 1) (D 0) lw (NA 0) (DA 4) (idn (D 1) X.2.1) k)) 6) = fun k => pkn (mix ct X.2.2.2.2.2.1 (fun k => rG (D 1) (D 0) lw (NA 0) (DA 4) (DA 1) (DA 3) (NA 1) (rw_ (D 1) (D 0) lw (NA 0) (DA 4) (idn (D 1) X.2.1) k)) k) 6 := by
    funext k
    unfold mix
    split <;> rfl
  rw [eP]
  refine ⟨((tb, sb, cl, nI (D 1)), r', g', ct, mix ct X.2.2.2.2.1 (fun k => rT (D 1) (D 0) lw (NA 0) (DA 4) (rw_ (D 1) (D 0) lw (NA 0) (DA 4) (idn (D 1) X.2.1) k)), mix ct X.2.2.2.2.2.1 (fun k => rG (D 1) (D 0) lw (NA 0) (DA 4) (DA 1) (DA 3) (NA 1) (rw_ (D 1) (D 0) lw (NA 0) (DA 4) (idn (D 1) X.2.1) k)), mix ct X.2.2.2.2.2.2 (fun k => fac (D 1 - rC (D 1) (D 0) lw (NA 0) (DA 4) (rw_ (D 1) (D 0) lw (NA 0) (DA 4) (idn (D 1) X.2.1) k)))), ?_, ?_, rfl⟩
  · refine ⟨hr', hle, mix_bd x3 (fun i => rT_lt (hrw i)), mix_gok x4 (fun k => rns_ok d1 _), mix_bd x5 (fun i => fac_lt _ (by omega))⟩
  · refine ⟨rfl, X.2.1, hct.symm, fun k hk => ?_⟩
    have hk : k < ct := hk
    exact ⟨if_pos hk, if_pos hk, if_pos hk⟩
end FillX
/-- the view of the odds: the object, the draft, now, the cases -/
abbrev wod (tr : Int32) (dr : Bool) (a b : Nat) (sl : Bool) (D : Nat → Nat) (DA : Nat → Nat → Nat) (N : Nat → Nat) (NA : Nat → Nat → Nat) (g : Nat → Option Nat) (X : CX) : mj_W := [wob tr dr a b sl] ++ dv a D DA ++ nv 19 N NA g ++ cs7 130 X
section Table
variable (sta : mj_S) (d : Nat) (tr : Int32) (sl : Bool) (a b : Nat) (D : Nat → Nat) (DA : Nat → Nat → Nat) (N : Nat → Nat) (NA : Nat → Nat → Nat) (g : Nat → Option Nat) (X : CX)
theorem s_table (hF : stF sta) (hD : okD D DA) (h1 : 1 ≤ D 1) (hN : okN N NA g) (hX : okX X) (hs : sl = false → csk D DA (N 0) (NA 0) (NA 1) X) :
    mj_Sx sta (d + 5) 146 [.ref 0] (wod tr true a b sl D DA N NA g X) (fun v w => v = some (.ref 130) ∧ ∃ X', okX X' ∧ csk D DA (N 0) (NA 0) (NA 1) X' ∧ w = wod tr true a b false D DA N NA g X') := by
  refine mj_Sx.mk m_X8_table (by decide) n_X8_table rfl (fun h0 hv => ?_)
  generalize hT : mj_rx m_X8_table h0 _ _ = T
  obtain ⟨n0, n1, n3, b0, b1, b2, gk⟩ := hN
  repeat (first | refine g_px rfl rfl rfl ?_ | refine g_get hv 0 rfl rfl rfl rfl ?_)
  refine g_if rfl (fun cq => ?_) (fun cq => ?_)
  · simp (disch := omega) only [mj_cp, k_6, k_7, k_8, k_9, k_10, k_12, k_15, k_16, k_18, k_20, k_24, k_25, k_26, k_27, k_28, k_32, k_36, k_48, k_57, k_59, k_63, k_74, k_75, k_84, k_90, k_97, k_99, k_100, k_122, k_200, k_255, k_420, k_448, k_720, k_800, k_999, k_bit, k_shl, fa_and, nI_add, bl_1, bl_0, bl_n1, bl_n0, bl_i1, nI_lt0, nI_0le, nI_eq0, nI_eqT, nI_leI, nI_ltI, nI_eq, Nat.not_le, Nat.not_lt, Bool.not_eq_true, Bool.not_eq_false, not_true_eq_false, not_false_eq_true, Decidable.not_not] at cq
    subst cq
    repeat (first | refine g_px rfl rfl rfl ?_ | refine g_get hv 0 rfl rfl rfl rfl ?_)
    subst hT
    exact g_aret hv rfl rfl rfl ⟨rfl, X, hX, hs rfl, rfl⟩
  · simp (disch := omega) only [mj_cp, k_6, k_7, k_8, k_9, k_10, k_12, k_15, k_16, k_18, k_20, k_24, k_25, k_26, k_27, k_28, k_32, k_36, k_48, k_57, k_59, k_63, k_74, k_75, k_84, k_90, k_97, k_99, k_100, k_122, k_200, k_255, k_420, k_448, k_720, k_800, k_999, k_bit, k_shl, fa_and, nI_add, bl_1, bl_0, bl_n1, bl_n0, bl_i1, nI_lt0, nI_0le, nI_eq0, nI_eqT, nI_leI, nI_ltI, nI_eq, Nat.not_le, Nat.not_lt, Bool.not_eq_true, Bool.not_eq_false, not_true_eq_false, not_false_eq_true, Decidable.not_not] at cq
    subst cq
    repeat (first | refine g_px rfl rfl rfl ?_ | refine g_get hv 0 rfl rfl rfl rfl ?_ | refine g_get hv 8 rfl rfl rfl rfl ?_)
    refine g_callV hv [13, 14, 15, 16, 17, 18, 19, 1, 2, 3, 4, 5, 6, 7, 8, 9, 10, 11, 12] 13 rfl rfl rfl rfl rfl rfl rfl rfl (by decide) (s_fillX sta d 130 a 19 (N 0) D DA N NA g X hF hD h1 b0 b1 hX n0) (fun v w' h hp hk hv => ?_)
    obtain ⟨rfl, X', hX', hc, rfl⟩ := hp
    have hv : mj_Vw h0 (wod tr true a b true D DA N NA g X') h := hv
    repeat (first | refine g_px rfl rfl rfl ?_)
    refine g_put hv 0 rfl rfl rfl rfl rfl rfl (fun h hv => ?_)
    have hv : mj_Vw h0 (wod tr true a b false D DA N NA g X') h := hv
    repeat (first | refine g_px rfl rfl rfl ?_ | refine g_get hv 0 rfl rfl rfl rfl ?_)
    subst hT
    exact g_aret hv rfl rfl rfl ⟨rfl, X', hX', hc, rfl⟩
end Table
