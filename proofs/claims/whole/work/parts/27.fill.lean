/-! Cases.fill -/
def fac : Nat → Nat
  | 0 => 1
  | k + 1 => (k + 1) * fac k
theorem fac_lt : ∀ k, k < 7 → fac k < 1000 := by decide
theorem fac_pos : ∀ k, 0 < fac k
  | 0 => by decide
  | k + 1 => Nat.mul_pos (Nat.succ_pos k) (fac_pos k)
/-- the static row of factorials -/
def stF (sta : mj_S) : Prop := ∃ F : Nat → Int32, sta (mj_SB + 100) = some (7, F) ∧ ∀ i, i < 7 → F i = nI (fac i)
theorem nxr_bd {men alike : Nat} {r : Nat → Nat} (h : bd 6 r) : bd 6 (nxr men alike r).1 := by
  unfold nxr
  split
  · exact trn_bd 3 h
  · exact trn_bd 3 (swp_bd (trn_bd 3 h))
section Rw
variable (n t lw : Nat) (sn kin W A C : Nat → Nat)
/-- of a row: who is taken, how many are called, who is sent by whom, how many rows begin so -/
def rT (r : Nat → Nat) : Nat := (cms t r sn kin lw n).1
def rC (r : Nat → Nat) : Nat := cld t r sn kin lw n 0
def rG (r : Nat → Nat) : Nat → Option Nat := (rns n (rT n t lw sn kin r) r sn W A C (rC n t lw sn kin r)).2
def rS (r : Nat → Nat) : Nat := (rns n (rT n t lw sn kin r) r sn W A C (rC n t lw sn kin r)).1
def rX (r : Nat → Nat) : (Nat → Nat) × Bool := nxr n (rC n t lw sn kin r) r
/-- the rows one behind another, each the first of those that begin like it -/
def rw_ (r0 : Nat → Nat) : Nat → Nat → Nat
  | 0 => r0
  | k + 1 => (rX n t lw sn kin (rw_ r0 k)).1
/-- how many they are -/
def fcn : Nat → (Nat → Nat) → Nat
  | 0, _ => 0
  | f + 1, r => if (rX n t lw sn kin r).2 then fcn f (rX n t lw sn kin r).1 + 1 else 1
end Rw
theorem rw_bd {n t lw : Nat} {sn kin r0 : Nat → Nat} (h : bd 6 r0) : ∀ k, bd 6 (rw_ n t lw sn kin r0 k)
  | 0 => h
  | k + 1 => nxr_bd (rw_bd h k)
theorem fcn_le {n t lw : Nat} {sn kin : Nat → Nat} : ∀ f r, fcn n t lw sn kin f r ≤ f
  | 0, _ => Nat.le_refl _
  | f + 1, r => by
    rw [fcn]
    split
    · have := fcn_le (n := n) (t := t) (lw := lw) (sn := sn) (kin := kin) f (rX n t lw sn kin r).1; omega
    · omega
theorem rns_ok {n T : Nat} {r sn W A C : Nat → Nat} (hn : n ≤ 6) : ∀ i, gok (rns n T r sn W A C i).2
  | 0 => fun m q h => by cases h
  | i + 1 => fun m q h => by
    rw [rns] at h
    split at h
    · have h : va_up (rns n T r sn W A C i).2 (r i) (chn (okn (T ||| (rns n T r sn W A C i).1) sn A (C (r i)) (W (r i))) A n) m = some q := h
      unfold va_up at h
      split at h
      · have := (chn_ok h).1; omega
      · exact rns_ok hn i m q h
    · exact rns_ok hn i m q h
abbrev wfl (s b c n t : Nat) (tb sb cl : Int32) (r : Nat → Nat) (g : Nat → Option Nat) (ct mn : Int32) (K P E : Nat → Nat) (kn sp hd hi er sh wn s1 s2 s3 s4 : Int32) (sn kin W A C : Nat → Nat) : mj_W :=
  wrn (s + 1) b c (s + 3) n t tb sb cl kn sp hd hi er sh wn s1 s2 s3 s4 sn kin r W A C g ++ [(s, .inr (0, cob s ct mn)), (s + 4, a7 K), (s + 5, a7 P), (s + 6, a7 E)]
section Fill
variable (sta : mj_S) (d s b c n t lw : Nat) (kn sp hd hi er sh wn s1 s2 s3 s4 : Int32) (sn kin W A C : Nat → Nat)
theorem s_fill (hF : stF sta) (tb sb cl ct0 mn0 : Int32) (r : Nat → Nat) (g : Nat → Option Nat) (K P E : Nat → Nat) (hn : 1 ≤ n ∧ n ≤ 6) (ht : t ≤ 6) (hlw : lw < 16) (hW : bd 1000 W) (hA : bd 1000 A) (hsn : bd 4 sn) (hC : bd 1000 C) (hkin : bd 64 kin) (hr : bd 6 r) :
    mj_Sx sta (d + 4) 5 [.ref s, .ref b, .ref c, (.int (nI lw))] (wfl s b c n t tb sb cl r g ct0 mn0 K P E kn sp hd hi er sh wn s1 s2 s3 s4 sn kin W A C)
    (fun v w => v = none ∧ ∃ tb sb cl r' g, bd 6 r' ∧ w = wfl s b c n t tb sb cl r' g (nI (fcn n t lw sn kin 720 (idn n r))) (nI n) (mix (fcn n t lw sn kin 720 (idn n r)) K (fun k => rT n t lw sn kin (rw_ n t lw sn kin (idn n r) k))) (mix (fcn n t lw sn kin 720 (idn n r)) P (fun k => pkn (rG n t lw sn kin W A C (rw_ n t lw sn kin (idn n r) k)) 6)) (mix (fcn n t lw sn kin 720 (idn n r)) E (fun k => fac (n - rC n t lw sn kin (rw_ n t lw sn kin (idn n r) k)))) kn sp hd hi er sh wn s1 s2 s3 s4 sn kin W A C) := by
  refine mj_Sx.mk m_X0_fill (by decide) n_X0_fill rfl (fun h0 hv => ?_)
  generalize hT : mj_rx m_X0_fill h0 _ _ = T
  obtain ⟨F, hF1, hF2⟩ := hF
  have hr0 := idn_bd hn.2 hr
  generalize hr0e : idn n r = r0 at hr0 hT
  generalize hCT : fcn n t lw sn kin 720 r0 = CT at hT
  have loop : ∀ f x h tb sb cl g, x + f = 720 → ∀ o : Bool, (o = false → CT = x) → (o = true → CT = fcn n t lw sn kin f (rw_ n t lw sn kin r0 x) + x) → (∀ r', bd 6 r' → (o = true → r' = rw_ n t lw sn kin r0 x) → mj_Vw h0 (wfl s b c n t tb sb cl r' g (nI x) (nI n) (mix x K (fun k => rT n t lw sn kin (rw_ n t lw sn kin r0 k))) (mix x P (fun k => pkn (rG n t lw sn kin W A C (rw_ n t lw sn kin r0 k)) 6)) (mix x E (fun k => fac (n - rC n t lw sn kin (rw_ n t lw sn kin r0 k)))) kn sp hd hi er sh wn s1 s2 s3 s4 sn kin W A C) h →
      mj_go sta (mj_Cl sta (d + 3)) m_X0_fill T 27 [some (.ref s), some (.ref b), some (.ref c), some (.int (nI lw)), some (.int (bl o))] [] h) := by
    intro f
    induction f with
    | zero =>
      intro x h tb sb cl g hx o ho1 ho2 r' hr' hro hv
      have hxe : CT = x := by
        cases o with
        | false => exact ho1 rfl
        | true => rw [ho2 rfl, fcn, Nat.zero_add]
      rw [hxe] at hT
      refine g_run 1 rfl ?_
      refine g_if rfl (fun cq => ?_) (fun cq => ?_)
      · subst hT
        exact g_vret hv rfl rfl rfl ⟨rfl, tb, sb, cl, r', g, hr', rfl⟩
      · refine g_run 1 rfl ?_
        refine g_get hv 10 rfl rfl rfl rfl ?_
        refine g_run 1 rfl ?_
        refine g_ic rfl (fun cq => ?_) (fun cq => ?_)
        · subst hT
          exact g_vret hv rfl rfl rfl ⟨rfl, tb, sb, cl, r', g, hr', rfl⟩
        · simp (disch := omega) only [mj_cp, k_6, k_7, k_8, k_9, k_10, k_12, k_15, k_16, k_18, k_20, k_24, k_25, k_26, k_27, k_28, k_32, k_36, k_48, k_57, k_59, k_63, k_74, k_75, k_84, k_90, k_97, k_99, k_100, k_122, k_200, k_255, k_420, k_448, k_720, k_800, k_999, k_bit, k_shl, fa_and, nI_add, bl_1, bl_0, bl_n1, bl_n0, bl_i1, nI_lt0, nI_0le, nI_eq0, nI_eqT, nI_leI, nI_ltI, nI_eq, Nat.not_le, Nat.not_lt, Bool.not_eq_true, Bool.not_eq_false, not_true_eq_false, not_false_eq_true, Decidable.not_not] at cq
          omega
    | succ f ih =>
      intro x h tb sb cl g hx o ho1 ho2 r' hr' hro hv
      refine g_run 1 rfl ?_
      refine g_if rfl (fun cq => ?_) (fun cq => ?_)
      · simp (disch := omega) only [mj_cp, k_6, k_7, k_8, k_9, k_10, k_12, k_15, k_16, k_18, k_20, k_24, k_25, k_26, k_27, k_28, k_32, k_36, k_48, k_57, k_59, k_63, k_74, k_75, k_84, k_90, k_97, k_99, k_100, k_122, k_200, k_255, k_420, k_448, k_720, k_800, k_999, k_bit, k_shl, fa_and, nI_add, bl_1, bl_0, bl_n1, bl_n0, bl_i1, nI_lt0, nI_0le, nI_eq0, nI_eqT, nI_leI, nI_ltI, nI_eq, Nat.not_le, Nat.not_lt, Bool.not_eq_true, Bool.not_eq_false, not_true_eq_false, not_false_eq_true, Decidable.not_not] at cq
        rw [ho1 cq] at hT
        subst hT
        exact g_vret hv rfl rfl rfl ⟨rfl, tb, sb, cl, r', g, hr', rfl⟩
      · simp (disch := omega) only [mj_cp, k_6, k_7, k_8, k_9, k_10, k_12, k_15, k_16, k_18, k_20, k_24, k_25, k_26, k_27, k_28, k_32, k_36, k_48, k_57, k_59, k_63, k_74, k_75, k_84, k_90, k_97, k_99, k_100, k_122, k_200, k_255, k_420, k_448, k_720, k_800, k_999, k_bit, k_shl, fa_and, nI_add, bl_1, bl_0, bl_n1, bl_n0, bl_i1, nI_lt0, nI_0le, nI_eq0, nI_eqT, nI_leI, nI_ltI, nI_eq, Nat.not_le, Nat.not_lt, Bool.not_eq_true, Bool.not_eq_false, not_true_eq_false, not_false_eq_true, Decidable.not_not] at cq
        subst cq
        have hro := hro rfl
        have ho2 := ho2 rfl
        clear ho1
        have hx7 : x < 720 := by omega
        refine g_run 1 rfl ?_
        refine g_get hv 10 rfl rfl rfl rfl ?_
        refine g_run 1 rfl ?_
        refine g_ic rfl (fun cq => ?_) (fun cq => ?_)
        · simp (disch := omega) only [mj_cp, k_6, k_7, k_8, k_9, k_10, k_12, k_15, k_16, k_18, k_20, k_24, k_25, k_26, k_27, k_28, k_32, k_36, k_48, k_57, k_59, k_63, k_74, k_75, k_84, k_90, k_97, k_99, k_100, k_122, k_200, k_255, k_420, k_448, k_720, k_800, k_999, k_bit, k_shl, fa_and, nI_add, bl_1, bl_0, bl_n1, bl_n0, bl_i1, nI_lt0, nI_0le, nI_eq0, nI_eqT, nI_leI, nI_ltI, nI_eq, Nat.not_le, Nat.not_lt, Bool.not_eq_true, Bool.not_eq_false, not_true_eq_false, not_false_eq_true, Decidable.not_not] at cq
          omega
        · repeat (first | refine g_px rfl rfl rfl ?_ | refine g_get hv 10 rfl rfl rfl rfl ?_ | refine g_get hv 0 rfl rfl rfl rfl ?_)
          refine g_callV hv [0, 1, 2, 3, 4, 5, 6, 7, 8, 9] 0 rfl rfl rfl rfl rfl rfl rfl rfl (by simp) (s_run sta d (s + 1) b c (s + 3) n t lw kn sp hd hi er sh wn s1 s2 s3 s4 sn kin r' W A C tb sb cl g hn.2 ht hlw hW hA hsn hC hkin hr') (fun v w' h hp hk hv => ?_)
          obtain ⟨rfl, rfl⟩ := hp
          rw [show (rns n (cms t r' sn kin lw n).1 r' sn W A C (cld t r' sn kin lw n 0)).2 = rG n t lw sn kin W A C r' from rfl, show (rns n (cms t r' sn kin lw n).1 r' sn W A C (cld t r' sn kin lw n 0)).1 = rS n t lw sn kin W A C r' from rfl, show (cms t r' sn kin lw n).1 = rT n t lw sn kin r' from rfl, show cld t r' sn kin lw n 0 = rC n t lw sn kin r' from rfl] at hv
          have hg : gok (rG n t lw sn kin W A C r') := rns_ok hn.2 _
          have hcl : rC n t lw sn kin r' ≤ n := by have := cld_le (t := t) (r := r') (sn := sn) (kn := kin) (lw := lw) n 0; unfold rC; omega
          have hstep : fcn n t lw sn kin (f + 1) r' = if (rX n t lw sn kin r').2 then fcn n t lw sn kin f (rX n t lw sn kin r').1 + 1 else 1 := rfl
          have hrw : rw_ n t lw sn kin r0 (x + 1) = (rX n t lw sn kin r').1 := by rw [rw_, ← hro]
          have hT1 : rT n t lw sn kin r' = (fun k => rT n t lw sn kin (rw_ n t lw sn kin r0 k)) x := by rw [hro]
          have hP1 : pkn (rG n t lw sn kin W A C r') 6 = (fun k => pkn (rG n t lw sn kin W A C (rw_ n t lw sn kin r0 k)) 6) x := by rw [hro]
          have hE1 : fac (n - rC n t lw sn kin r') = (fun k => fac (n - rC n t lw sn kin (rw_ n t lw sn kin r0 k))) x := by rw [hro]
          rw [← hro] at ho2
          generalize rG n t lw sn kin W A C r' = g' at *
          generalize rS n t lw sn kin W A C r' = S' at *
          generalize rT n t lw sn kin r' = T' at *
          generalize hce : rC n t lw sn kin r' = c' at *
          have hv : mj_Vw h0 (wfl s b c n t _ _ _ r' g' (nI x) (nI n) _ _ _ kn sp hd hi er sh wn s1 s2 s3 s4 sn kin W A C) h := hv
          repeat (first | refine g_px rfl rfl rfl ?_ | refine g_get hv 10 rfl rfl rfl rfl ?_ | refine g_get hv 0 rfl rfl rfl rfl ?_)
          refine g_n7s hv 11 hx7 rfl rfl (fun h hv => ?_)
          rw [hT1, mix_up] at hv
          have hv : mj_Vw h0 (wfl s b c n t _ _ _ r' g' (nI x) (nI n) _ _ _ kn sp hd hi er sh wn s1 s2 s3 s4 sn kin W A C) h := hv
          repeat (first | refine g_px rfl rfl rfl ?_ | refine g_get hv 10 rfl rfl rfl rfl ?_ | refine g_get hv 0 rfl rfl rfl rfl ?_)
          refine g_callS hv [9] rfl rfl rfl rfl rfl rfl rfl (by simp) (s_packed sta (d + 2) (s + 1 + 1) g' hg) (fun v w' h hp hk hv => ?_)
          obtain ⟨rfl, rfl⟩ := hp
          have hv : mj_Vw h0 (wfl s b c n t _ _ _ r' g' (nI x) (nI n) _ _ _ kn sp hd hi er sh wn s1 s2 s3 s4 sn kin W A C) h := hv
          refine g_n7s hv 12 hx7 rfl rfl (fun h hv => ?_)
          rw [hP1, mix_up] at hv
          have hv : mj_Vw h0 (wfl s b c n t _ _ _ r' g' (nI x) (nI n) _ _ _ kn sp hd hi er sh wn s1 s2 s3 s4 sn kin W A C) h := hv
          repeat (first | refine g_px rfl rfl rfl ?_ | refine g_get hv 10 rfl rfl rfl rfl ?_ | refine g_get hv 0 rfl rfl rfl rfl ?_)
          rw [pk_sub hcl]
          refine g_sald hv hF1 rfl (vp_in_nI (by omega) (by decide)) ?_
          rw [nI_clamp (by omega), hF2 _ (by omega)]
          refine g_n7s hv 13 hx7 rfl rfl (fun h hv => ?_)
          rw [hE1, mix_up] at hv
          have hv : mj_Vw h0 (wfl s b c n t _ _ _ r' g' (nI x) (nI n) _ _ _ kn sp hd hi er sh wn s1 s2 s3 s4 sn kin W A C) h := hv
          repeat (first | refine g_px rfl rfl rfl ?_ | refine g_get hv 10 rfl rfl rfl rfl ?_ | refine g_get hv 0 rfl rfl rfl rfl ?_)
          rw [show nI x + Int32.ofInt 1 = nI (x + 1) from (nI_succ x).symm]
          refine g_put hv 10 rfl rfl rfl rfl rfl rfl (fun h hv => ?_)
          have hv : mj_Vw h0 (wfl s b c n t _ _ _ r' g' (nI (x + 1)) (nI n) _ _ _ kn sp hd hi er sh wn s1 s2 s3 s4 sn kin W A C) h := hv
          repeat (first | refine g_px rfl rfl rfl ?_ | refine g_get hv 10 rfl rfl rfl rfl ?_ | refine g_get hv 0 rfl rfl rfl rfl ?_)
          refine g_callS hv [5] rfl rfl rfl rfl rfl rfl rfl (by simp) (s_nextRow sta d (s + 3) n c' r' hr' hn (by omega)) (fun v w' h hp hk hv => ?_)
          obtain ⟨rfl, rfl⟩ := hp
          refine g_run 2 rfl ?_
          have hX : rX n t lw sn kin r' = nxr n c' r' := by unfold rX; rw [hce]
          rw [hX] at hstep hrw
          refine ih (x + 1) h _ _ _ _ (by omega) _ ?_ ?_ (nxr n c' r').1 (nxr_bd hr') (fun _ => hrw.symm) hv
          · intro e
            rw [ho2, hstep, e]
            simp
            omega
          · intro e
            rw [ho2, hstep, e, hrw]
            simp
            omega
  repeat (first | refine g_px rfl rfl rfl ?_ | refine g_get hv 10 rfl rfl rfl rfl ?_ | refine g_get hv 0 rfl rfl rfl rfl ?_ | refine g_get hv 1 rfl rfl rfl rfl ?_)
  refine g_put hv 10 rfl rfl rfl rfl rfl rfl (fun h hv => ?_)
  repeat (first | refine g_px rfl rfl rfl ?_ | refine g_get hv 10 rfl rfl rfl rfl ?_ | refine g_get hv 0 rfl rfl rfl rfl ?_)
  refine g_put hv 10 rfl rfl rfl rfl rfl rfl (fun h hv => ?_)
  repeat (first | refine g_px rfl rfl rfl ?_ | refine g_get hv 10 rfl rfl rfl rfl ?_ | refine g_get hv 0 rfl rfl rfl rfl ?_)
  refine g_callS hv [5] rfl rfl rfl rfl rfl rfl rfl (by simp) (s_byNumbers sta (d + 2) (s + 3) n r hn.2) (fun v w' h hp hk hv => ?_)
  obtain ⟨rfl, rfl⟩ := hp
  rw [hr0e] at hv
  refine g_run 2 rfl ?_
  refine loop 720 0 h tb sb cl g (by omega) true (fun e => by cases e) (fun _ => hCT.symm) r0 hr0 (fun _ => rfl) ?_
  rw [mix_0, mix_0, mix_0]
  exact hv
end Fill
