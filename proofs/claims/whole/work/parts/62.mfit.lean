/-! the reference: who went -/
abbrev wf (w : mj_W) (q : Nat) (we c : Nat → Nat) : mj_W := w ++ [(q + 7, a3 we), (164, aN 18 c)]
def c18 (c : Nat → Nat → Nat) : Nat → Nat := fun y => c (y / 6) (y % 6)
def ftp (D : Nat → Nat) (MA : Nat → Nat → Nat) (L : Nat) (sn C : Nat → Nat) (p : Nat) : Nat := pto D MA L sn C (fun _ g => if fts (D 1) (MA 5) g (D 8) then 1 else 0) p
def cnp (D : Nat → Nat) (MA : Nat → Nat → Nat) (L : Nat) (sn C : Nat → Nat) (p k s : Nat) : Nat := pto D MA L sn C (fun _ g => if fts (D 1) (MA 5) g (D 8) && decide (k < D 8) && decide (sdr g (MA 5 k) (D 1) 0 = some s) then 1 else 0) p
def atp (D : Nat → Nat) (MA : Nat → Nat → Nat) (L : Nat) (sn C : Nat → Nat) (p : Nat) : Nat := lkA (D 1) (D 8) (MA 5) (fun j => qT D MA L sn (lx (D 1) j)) (fun j => qG D MA L sn C (lx (D 1) j)) p
theorem ftp_all {D : Nat → Nat} {MA : Nat → Nat → Nat} {L : Nat} {sn C : Nat → Nat} : ftp D MA L sn C (fac (D 1)) = ftT D MA L sn C := rfl
theorem cnp_all {D : Nat → Nat} {MA : Nat → Nat → Nat} {L : Nat} {sn C : Nat → Nat} : cnp D MA L sn C (fac (D 1)) = cnT D MA L sn C := rfl
theorem ftp_le {D : Nat → Nat} {MA : Nat → Nat → Nat} {L : Nat} {sn C : Nat → Nat} : ∀ p, ftp D MA L sn C p ≤ p
  | 0 => Nat.le_refl _
  | p + 1 => by
    have ih := ftp_le (D := D) (MA := MA) (L := L) (sn := sn) (C := C) p
    unfold ftp at ih ⊢
    rw [pto_s]
    split <;> omega
theorem cnp_le {D : Nat → Nat} {MA : Nat → Nat → Nat} {L : Nat} {sn C : Nat → Nat} {k s : Nat} : ∀ p, cnp D MA L sn C p k s ≤ p
  | 0 => Nat.le_refl _
  | p + 1 => by
    have ih := cnp_le (D := D) (MA := MA) (L := L) (sn := sn) (C := C) (k := k) (s := s) p
    unfold cnp at ih ⊢
    rw [pto_s]
    split <;> omega
theorem aN_congr {L : Nat} {f f' : Nat → Nat} (h : ∀ i, i < L → f i = f' i) : aN L f = aN L f' := by
  have : (fun i => if i < L then nI (f i) else (0 : Int32)) = (fun i => if i < L then nI (f' i) else 0) := by
    funext i
    split
    · rename_i hi; rw [h i hi]
    · rfl
  unfold aN
  rw [this]
section Mw
variable (sta : mj_S) (d : Nat) (th tr wh : Int32) (q : Nat) (rd : Option Nat) (F : Nat → Int32) (wd : Int64) (ac im lw tk st : Int32) (sh ru : Int64) (rz aw al sd : Int32) (D : Nat → Nat) (hi er se : Int32) (MA : Nat → Nat → Nat) (V : Nat → Int32) (r sn : Nat → Nat) (g f : Nat → Option Nat) (c0 : Nat → Nat)
theorem s_Mfitting (L : Nat) (SN C : Nat → Nat) (hV : vN V L SN C) (hG : okG D MA SN C L) (h8 : D 8 ≤ 3) (hM5 : ∀ k, k < D 8 → MA 5 k < D 1) : mj_Sx sta (d + 4) 242 [.ref 151] (wf (wg (mo th tr wh (some q) rd F wd ac im lw tk st sh ru rz aw al sd) q D hi er se (MA 1) (MA 3) (MA 4) V r sn g f) q (MA 5) c0) (fun v w => v = none ∧ ∃ tk st r g f, w = wf (wg (mo th tr wh (some q) rd F wd ac im (nI L) tk st sh ru (nI (ftT D MA L SN C)) (nI (atT D MA L SN C)) al sd) q D hi er se (MA 1) (MA 3) (MA 4) V r SN g f) q (MA 5) (c18 (cnT D MA L SN C))) := by
  refine mj_Sx.mk m_X10_fitting (by decide) n_X10_fitting rfl (fun h0 hv => ?_)
  generalize hT : mj_rx m_X10_fitting h0 _ _ = T
  obtain ⟨hn, h1, ht, hL, hW, hA, hK, hsn, hC⟩ := hG
  have hp6 := p6 hn
  have hf720 := fac_720 (D 1) hn
  have loop : ∀ j p h r g f tk st x2 x3, p + j = fac (D 1) → 0 < j → ag (D 1) r (lx (D 1) p) → mj_Vw h0 (wf (wg (mo th tr wh (some q) rd F wd ac im (nI L) tk st sh ru (nI (ftp D MA L SN C p)) (nI (atp D MA L SN C p)) al sd) q D hi er se (MA 1) (MA 3) (MA 4) V r SN g f) q (MA 5) (c18 (cnp D MA L SN C p))) h → mj_go sta (mj_Cl sta (d + 3)) m_X10_fitting T 44 [some (.ref 151), some (.int 1), x2, x3] [] h := by
    intro j
    induction j with
    | zero => intro p h r g f tk st x2 x3 hp h0'; omega
    | succ j ih =>
      intro p h r g f tk st x2 x3 hpj h0' hag hv
      have hpf : p < fac (D 1) := by omega
      have hlx := prm_lx ⟨h1, hn⟩ hpf
      have hpr : prm (D 1) r := prm_ag hlx (fun i hi => (hag i hi).symm)
      have hqq := qq_ag (MA := MA) (lw := L) (sn := SN) (C := C) hag hpr.1
      have hT6 : qT D MA L SN (lx (D 1) p) < 64 := by rw [← hqq.1]; exact cms_lt' hn hpr (D 1) (Nat.le_refl _)
      have hS6 : qS D MA L SN C (lx (D 1) p) < 64 := rns_lt hn _
      have hFs := fun m => rnf_sdr (MA := MA) (lw := L) (sn := SN) (C := C) hpr m
      have hqS := fun m => qS_bit (MA := MA) (lw := L) (sn := SN) (C := C) hlx m
      repeat (first | refine g_px rfl rfl rfl ?_)
      refine g_if rfl (fun cq => absurd cq (cpF (by decide))) (fun cq => ?_)
      repeat (first | refine g_px rfl rfl rfl ?_)
      refine g_callV hv [0, 1, 2, 3, 4, 5, 6, 7, 8, 9] 0 rfl rfl rfl rfl rfl rfl rfl rfl (by decide) (s_Mplays sta d th tr wh q rd F wd ac im tk st sh ru (nI (ftp D MA L SN C p)) (nI (atp D MA L SN C p)) al sd D hi er se (MA 1) (MA 3) (MA 4) V r SN g f L C hV.2.2 hpr hn ht hL hW hA hK hsn hC) (fun v w' h hp hk2 hv => ?_)
      obtain ⟨rfl, rfl⟩ := hp
      have eT : rT (D 1) (D 0) L SN (MA 4) r = qT D MA L SN (lx (D 1) p) := hqq.1
      have eG : rG (D 1) (D 0) L SN (MA 4) (MA 1) (MA 3) C r = qG D MA L SN C (lx (D 1) p) := hqq.2.1
      have eS : rS (D 1) (D 0) L SN (MA 4) (MA 1) (MA 3) C r = qS D MA L SN C (lx (D 1) p) := hqq.2.2
      rw [eT, eG, eS] at hv
      generalize hfj : rnf (D 1) (qT D MA L SN (lx (D 1) p)) r SN (MA 1) (MA 3) C (D 1) = fj at hv
      have hfj2 : ∀ m, fj m = sdr (qG D MA L SN C (lx (D 1) p)) m (D 1) 0 := by
        intro m
        rw [← hfj, ← hqq.1, hFs m, hqq.2.1]
      have p1 : ftp D MA L SN C (p + 1) = ftp D MA L SN C p + if fts (D 1) (MA 5) (qG D MA L SN C (lx (D 1) p)) (D 8) then 1 else 0 := pto_s
      have p2 : ∀ k s, cnp D MA L SN C (p + 1) k s = cnp D MA L SN C p k s + if fts (D 1) (MA 5) (qG D MA L SN C (lx (D 1) p)) (D 8) && decide (k < D 8) && decide (sdr (qG D MA L SN C (lx (D 1) p)) (MA 5 k) (D 1) 0 = some s) then 1 else 0 := fun k s => pto_s
      have p3 : atp D MA L SN C (p + 1) = if fts (D 1) (MA 5) (qG D MA L SN C (lx (D 1) p)) (D 8) then atp D MA L SN C p &&& qT D MA L SN (lx (D 1) p) else atp D MA L SN C p := rfl
      have hfl := ftp_le (D := D) (MA := MA) (L := L) (sn := SN) (C := C) p
      have hcl := fun k s => cnp_le (D := D) (MA := MA) (L := L) (sn := SN) (C := C) (k := k) (s := s) p
      have hal : atp D MA L SN C p < 64 := lkA_lt hn p
      generalize qT D MA L SN (lx (D 1) p) = Tj at *
      generalize qS D MA L SN C (lx (D 1) p) = Sj at *
      generalize qG D MA L SN C (lx (D 1) p) = Gj at *
      have hv : mj_Vw h0 (wf (wg (mo th tr wh (some q) rd F wd ac im (nI L) (nI Tj) (nI Sj) sh ru (nI (ftp D MA L SN C p)) (nI (atp D MA L SN C p)) al sd) q D hi er se (MA 1) (MA 3) (MA 4) V r SN (mix (D 1) g Gj) (mix (D 1) f fj)) q (MA 5) (c18 (cnp D MA L SN C p))) h := hv
      have at176 : ∀ h x2 x3, mj_Vw h0 (wf (wg (mo th tr wh (some q) rd F wd ac im (nI L) (nI Tj) (nI Sj) sh ru (nI (ftp D MA L SN C (p + 1))) (nI (atp D MA L SN C (p + 1))) al sd) q D hi er se (MA 1) (MA 3) (MA 4) V r SN (mix (D 1) g Gj) (mix (D 1) f fj)) q (MA 5) (c18 (cnp D MA L SN C (p + 1)))) h → mj_go sta (mj_Cl sta (d + 3)) m_X10_fitting T 176 [some (.ref 151), some (.int 1), x2, x3] [] h := by
        intro h x2 x3 hv
        have hA := lxA ⟨h1, hn⟩ (Nat.le_refl (D 1)) hpf (by rw [Nat.sub_self]; exact Nat.mod_one p)
        rw [Nat.sub_self, show fac 0 = 1 from rfl] at hA
        have hN := nxr_ag (c := D 1) h1 hag
        repeat (first | refine g_px rfl rfl rfl ?_)
        refine g_callV hv [0, 1, 6] 0 rfl rfl rfl rfl rfl rfl rfl rfl (by decide) (s_MnextRow sta (d + 1) th tr wh q rd F wd ac im (nI L) (nI Tj) (nI Sj) sh ru (nI (ftp D MA L SN C (p + 1))) (nI (atp D MA L SN C (p + 1))) al sd D hi er se r ⟨h1, hn⟩ (fun i hi => by have := hpr.1 i hi; omega)) (fun v w' h hp hk2 hv => ?_)
        obtain ⟨rfl, rfl⟩ := hp
        rw [hN.1, hA.1]
        have hv : mj_Vw h0 (wf (wg (mo th tr wh (some q) rd F wd ac im (nI L) (nI Tj) (nI Sj) sh ru (nI (ftp D MA L SN C (p + 1))) (nI (atp D MA L SN C (p + 1))) al sd) q D hi er se (MA 1) (MA 3) (MA 4) V (nxr (D 1) (D 1) r).1 SN (mix (D 1) g Gj) (mix (D 1) f fj)) q (MA 5) (c18 (cnp D MA L SN C (p + 1)))) h := hv
        refine g_run 2 rfl ?_
        by_cases hj : j = 0
        · subst hj
          rw [decide_eq_false (by omega)]
          refine g_run 1 rfl ?_
          refine g_if rfl (fun cq => ?_) (fun cq => absurd rfl cq)
          have : p + 1 = fac (D 1) := by omega
          rw [this, ftp_all, cnp_all] at hv
          have hft := ftT_lt (D := D) (DA := MA) (lw := L) (sn := SN) (C := C) hn
          repeat (first | refine g_px rfl rfl rfl ?_ | refine g_get hv 0 rfl rfl rfl rfl ?_)
          refine g_if rfl (fun cq => ?_) (fun cq => ?_)
          · have cq : ¬ nI (ftT D MA L SN C) = 0 := cq
            rw [nI_eq0 (by omega)] at cq
            have e : atp D MA L SN C (fac (D 1)) = atT D MA L SN C := by
              unfold atT
              rw [if_pos (by omega)]
              rfl
            rw [e] at hv
            subst hT
            exact g_vret hv rfl rfl rfl ⟨rfl, _, _, _, _, _, rfl⟩
          · have cq : ¬ ¬ nI (ftT D MA L SN C) = 0 := cq
            rw [nI_eq0 (by omega)] at cq
            repeat (first | refine g_px rfl rfl rfl ?_)
            refine g_put hv 0 rfl rfl rfl rfl rfl rfl (fun h hv => ?_)
            have e : atT D MA L SN C = 0 := by
              unfold atT
              rw [if_neg (by omega)]
            have hv : mj_Vw h0 (wf (wg (mo th tr wh (some q) rd F wd ac im (nI L) (nI Tj) (nI Sj) sh ru (nI (ftT D MA L SN C)) (nI (atT D MA L SN C)) al sd) q D hi er se (MA 1) (MA 3) (MA 4) V (nxr (D 1) (D 1) r).1 SN (mix (D 1) g Gj) (mix (D 1) f fj)) q (MA 5) (c18 (cnT D MA L SN C))) h := by
              rw [e]
              exact hv
            subst hT
            exact g_vret hv rfl rfl rfl ⟨rfl, _, _, _, _, _, rfl⟩
        · rw [decide_eq_true (show p + 1 < fac (D 1) by omega)]
          exact ih (p + 1) h _ _ _ _ _ _ _ (by omega) (by omega) (fun i hi => by rw [hN.2 i hi]; exact hA.2 (by omega) i hi) hv
      have loop2 : ∀ j k h, fts (D 1) (MA 5) Gj (D 8) = true → k + j = D 8 → mj_Vw h0 (wf (wg (mo th tr wh (some q) rd F wd ac im (nI L) (nI Tj) (nI Sj) sh ru (nI (ftp D MA L SN C (p + 1))) (nI (atp D MA L SN C (p + 1))) al sd) q D hi er se (MA 1) (MA 3) (MA 4) V r SN (mix (D 1) g Gj) (mix (D 1) f fj)) q (MA 5) (fun y => cnp D MA L SN C p (y / 6) (y % 6) + if y / 6 < k ∧ sdr Gj (MA 5 (y / 6)) (D 1) 0 = some (y % 6) then 1 else 0)) h → mj_go sta (mj_Cl sta (d + 3)) m_X10_fitting T 131 [some (.ref 151), some (.int 1), some (.int 1), some (.int (nI k))] [] h := by
        intro j
        induction j with
        | zero =>
          intro k h hfit hk hv
          have hk : k = D 8 := by omega
          subst hk
          repeat (first | refine g_px rfl rfl rfl ?_ | refine g_get hv 0 rfl rfl rfl rfl ?_ | refine g_get hv 1 rfl rfl rfl rfl ?_)
          refine g_ic rfl (fun cq => ?_) (fun cq => ?_)
          · refine at176 h _ _ ?_
            have e : (fun y => cnp D MA L SN C p (y / 6) (y % 6) + if y / 6 < D 8 ∧ sdr Gj (MA 5 (y / 6)) (D 1) 0 = some (y % 6) then 1 else 0) = c18 (cnp D MA L SN C (p + 1)) := by
              funext y
              unfold c18
              rw [p2, hfit]
              congr 1
              by_cases hc : y / 6 < D 8 ∧ sdr Gj (MA 5 (y / 6)) (D 1) 0 = some (y % 6)
              · rw [if_pos hc, decide_eq_true hc.1, decide_eq_true hc.2]
                rfl
              · rw [if_neg hc, if_neg (fun z => hc (by simpa using z))]
            rw [e] at hv
            exact hv
          · simp (disch := omega) only [mj_cp, k_6, k_7, k_8, k_9, k_10, k_12, k_15, k_16, k_18, k_20, k_24, k_25, k_26, k_27, k_28, k_32, k_36, k_48, k_57, k_59, k_63, k_74, k_75, k_84, k_90, k_97, k_99, k_100, k_122, k_200, k_255, k_420, k_448, k_720, k_800, k_999, k_bit, k_shl, fa_and, nI_add, bl_1, bl_0, bl_n1, bl_n0, bl_i1, nI_lt0, nI_0le, nI_eq0, nI_eqT, nI_leI, nI_ltI, nI_eq, Nat.not_le, Nat.not_lt, Bool.not_eq_true, Bool.not_eq_false, not_true_eq_false, not_false_eq_true, Decidable.not_not] at cq
            omega
        | succ j ih2 =>
          intro k h hfit hk hv
          have hk3 : k < 3 := by omega
          have hm5 := hM5 k (by omega)
          have hsome : (sdr Gj (MA 5 k) (D 1) 0).isSome = true := by
            have : ∀ x, x ≤ D 8 → fts (D 1) (MA 5) Gj x = true → ∀ k, k < x → (sdr Gj (MA 5 k) (D 1) 0).isSome = true := by
              intro x
              induction x with
              | zero => intro _ _ k hk; omega
              | succ x ihx =>
                intro hx hf k hk
                rw [fts, Bool.and_eq_true] at hf
                by_cases e : k = x
                · subst e; exact hf.2
                · exact ihx (by omega) hf.1 k (by omega)
            exact this (D 8) (Nat.le_refl _) hfit k (by omega)
          obtain ⟨s, hs⟩ := Option.isSome_iff_exists.mp hsome
          have hs6 : s < 6 := by have := sdr_at hs; omega
          have hcks := hcl k s
          repeat (first | refine g_px rfl rfl rfl ?_ | refine g_get hv 0 rfl rfl rfl rfl ?_ | refine g_get hv 1 rfl rfl rfl rfl ?_)
          refine g_ic rfl (fun cq => ?_) (fun cq => ?_)
          · simp (disch := omega) only [mj_cp, k_6, k_7, k_8, k_9, k_10, k_12, k_15, k_16, k_18, k_20, k_24, k_25, k_26, k_27, k_28, k_32, k_36, k_48, k_57, k_59, k_63, k_74, k_75, k_84, k_90, k_97, k_99, k_100, k_122, k_200, k_255, k_420, k_448, k_720, k_800, k_999, k_bit, k_shl, fa_and, nI_add, bl_1, bl_0, bl_n1, bl_n0, bl_i1, nI_lt0, nI_0le, nI_eq0, nI_eqT, nI_leI, nI_ltI, nI_eq, Nat.not_le, Nat.not_lt, Bool.not_eq_true, Bool.not_eq_false, not_true_eq_false, not_false_eq_true, Decidable.not_not] at cq
            omega
          · repeat (first | refine g_px rfl rfl rfl ?_ | refine g_get hv 0 rfl rfl rfl rfl ?_ | refine g_get hv 1 rfl rfl rfl rfl ?_)
            refine g_nL (L := 3) hv 10 (k := k) (by omega) (by decide) rfl rfl ?_
            refine g_s6 hv 9 (k := MA 5 k) (by omega) rfl rfl ?_
            rw [show mix (D 1) f fj (MA 5 k) = fj (MA 5 k) from if_pos hm5, hfj2, hs, show snd (some s) = nI s from rfl, k_6, pk_mul]
            refine g_run 1 rfl ?_
            rw [nI_add]
            refine g_run 1 rfl ?_
            refine g_nL (L := 18) hv 11 (k := 6 * k + s) (by omega) (by decide) rfl rfl ?_
            refine g_run 2 rfl ?_
            rw [show ∀ z : Nat, nI z + Int32.ofInt 1 = nI (z + 1) from fun z => (nI_succ z).symm]
            refine g_nLs (L := 18) hv 11 (k := 6 * k + s) (by omega) (by decide) rfl rfl (fun h hv => ?_)
            refine g_run 2 rfl ?_
            have e : va_up (fun y => cnp D MA L SN C p (y / 6) (y % 6) + if y / 6 < k ∧ sdr Gj (MA 5 (y / 6)) (D 1) 0 = some (y % 6) then 1 else 0) (6 * k + s) (cnp D MA L SN C p ((6 * k + s) / 6) ((6 * k + s) % 6) + (if (6 * k + s) / 6 < k ∧ sdr Gj (MA 5 ((6 * k + s) / 6)) (D 1) 0 = some ((6 * k + s) % 6) then 1 else 0) + 1) = (fun y => cnp D MA L SN C p (y / 6) (y % 6) + if y / 6 < k + 1 ∧ sdr Gj (MA 5 (y / 6)) (D 1) 0 = some (y % 6) then 1 else 0) := by
              funext y
              unfold va_up
              by_cases hy : y = 6 * k + s
              · subst hy
                have e1 : (6 * k + s) / 6 = k := by omega
                have e2 : (6 * k + s) % 6 = s := by omega
                rw [if_pos rfl, e1, e2, if_neg (by omega), if_pos ⟨by omega, hs⟩]
              · rw [if_neg hy]
                show cnp D MA L SN C p (y / 6) (y % 6) + (if y / 6 < k ∧ sdr Gj (MA 5 (y / 6)) (D 1) 0 = some (y % 6) then 1 else 0) = _
                congr 1
                by_cases hc : y / 6 < k ∧ sdr Gj (MA 5 (y / 6)) (D 1) 0 = some (y % 6)
                · rw [if_pos hc, if_pos ⟨by omega, hc.2⟩]
                · rw [if_neg hc, if_neg (fun z => ?_)]
                  by_cases hk2 : y / 6 = k
                  · have z2 := z.2
                    rw [hk2, hs] at z2
                    cases z2
                    omega
                  · exact hc ⟨by omega, z.2⟩
            have hnx := ih2 (k + 1) h hfit (by omega) (by rw [← e]; exact hv)
            rw [nI_succ] at hnx
            exact hnx
      have loop1 : ∀ j k h, k + j = D 8 → mj_Vw h0 (wf (wg (mo th tr wh (some q) rd F wd ac im (nI L) (nI Tj) (nI Sj) sh ru (nI (ftp D MA L SN C p)) (nI (atp D MA L SN C p)) al sd) q D hi er se (MA 1) (MA 3) (MA 4) V r SN (mix (D 1) g Gj) (mix (D 1) f fj)) q (MA 5) (c18 (cnp D MA L SN C p))) h → mj_go sta (mj_Cl sta (d + 3)) m_X10_fitting T 56 [some (.ref 151), some (.int 1), some (.int (bl (fts (D 1) (MA 5) Gj k))), some (.int (nI k))] [] h := by
        intro j
        induction j with
        | zero =>
          intro k h hk hv
          have hk : k = D 8 := by omega
          subst hk
          repeat (first | refine g_px rfl rfl rfl ?_ | refine g_get hv 0 rfl rfl rfl rfl ?_ | refine g_get hv 1 rfl rfl rfl rfl ?_)
          refine g_ic rfl (fun cq => ?_) (fun cq => ?_)
          · repeat (first | refine g_px rfl rfl rfl ?_)
            refine g_if rfl (fun cq => ?_) (fun cq => ?_)
            · have cq : bl (fts (D 1) (MA 5) Gj (D 8)) = 0 := cq
              rw [bl_0] at cq
              refine at176 h _ _ ?_
              have e : c18 (cnp D MA L SN C (p + 1)) = c18 (cnp D MA L SN C p) := by
                funext y
                unfold c18
                rw [p2, cq]
                rfl
              rw [p1, p3, e, cq, if_neg (by decide), if_neg (by decide), Nat.add_zero]
              exact hv
            · have cq : ¬ bl (fts (D 1) (MA 5) Gj (D 8)) = 0 := cq
              rw [bl_0, Bool.not_eq_false] at cq
              have hfit := cq
              rw [hfit] at p1 p3
              rw [if_pos rfl] at p1 p3
              refine g_run 2 rfl ?_
              refine g_get hv 0 rfl rfl rfl rfl ?_
              refine g_run 2 rfl ?_
              rw [show ∀ z : Nat, nI z + Int32.ofInt 1 = nI (z + 1) from fun z => (nI_succ z).symm]
              refine g_put hv 0 rfl rfl rfl rfl rfl rfl (fun h hv => ?_)
              refine g_run 2 rfl ?_
              refine g_get hv 0 rfl rfl rfl rfl ?_
              refine g_run 1 rfl ?_
              refine g_get hv 0 rfl rfl rfl rfl ?_
              refine g_run 1 rfl ?_
              rw [fa_and]
              refine g_put hv 0 rfl rfl rfl rfl rfl rfl (fun h hv => ?_)
              refine g_run 2 rfl ?_
              rw [hfit]
              refine loop2 (D 8) 0 h hfit (by omega) ?_
              have e : (fun y => cnp D MA L SN C p (y / 6) (y % 6) + if y / 6 < 0 ∧ sdr Gj (MA 5 (y / 6)) (D 1) 0 = some (y % 6) then 1 else 0) = c18 (cnp D MA L SN C p) := by
                funext y
                rw [if_neg (by omega)]
                rfl
              rw [p1, p3, e]
              exact hv
          · simp (disch := omega) only [mj_cp, k_6, k_7, k_8, k_9, k_10, k_12, k_15, k_16, k_18, k_20, k_24, k_25, k_26, k_27, k_28, k_32, k_36, k_48, k_57, k_59, k_63, k_74, k_75, k_84, k_90, k_97, k_99, k_100, k_122, k_200, k_255, k_420, k_448, k_720, k_800, k_999, k_bit, k_shl, fa_and, nI_add, bl_1, bl_0, bl_n1, bl_n0, bl_i1, nI_lt0, nI_0le, nI_eq0, nI_eqT, nI_leI, nI_ltI, nI_eq, Nat.not_le, Nat.not_lt, Bool.not_eq_true, Bool.not_eq_false, not_true_eq_false, not_false_eq_true, Decidable.not_not] at cq
            omega
        | succ j ih1 =>
          intro k h hk hv
          have hk3 : k < 3 := by omega
          have hm5 := hM5 k (by omega)
          have next : ∀ (y : Bool) (h : mj_H), y = fts (D 1) (MA 5) Gj (k + 1) → mj_Vw h0 (wf (wg (mo th tr wh (some q) rd F wd ac im (nI L) (nI Tj) (nI Sj) sh ru (nI (ftp D MA L SN C p)) (nI (atp D MA L SN C p)) al sd) q D hi er se (MA 1) (MA 3) (MA 4) V r SN (mix (D 1) g Gj) (mix (D 1) f fj)) q (MA 5) (c18 (cnp D MA L SN C p))) h → mj_go sta (mj_Cl sta (d + 3)) m_X10_fitting T 95 [some (.ref 151), some (.int 1), some (.int (bl (fts (D 1) (MA 5) Gj k))), some (.int (nI k))] [.int (bl y)] h := by
            intro y h hy hv
            subst hy
            refine g_run 3 rfl ?_
            have hnx := ih1 (k + 1) h (by omega) hv
            rw [nI_succ] at hnx
            exact hnx
          repeat (first | refine g_px rfl rfl rfl ?_ | refine g_get hv 0 rfl rfl rfl rfl ?_ | refine g_get hv 1 rfl rfl rfl rfl ?_)
          refine g_ic rfl (fun cq => ?_) (fun cq => ?_)
          · simp (disch := omega) only [mj_cp, k_6, k_7, k_8, k_9, k_10, k_12, k_15, k_16, k_18, k_20, k_24, k_25, k_26, k_27, k_28, k_32, k_36, k_48, k_57, k_59, k_63, k_74, k_75, k_84, k_90, k_97, k_99, k_100, k_122, k_200, k_255, k_420, k_448, k_720, k_800, k_999, k_bit, k_shl, fa_and, nI_add, bl_1, bl_0, bl_n1, bl_n0, bl_i1, nI_lt0, nI_0le, nI_eq0, nI_eqT, nI_leI, nI_ltI, nI_eq, Nat.not_le, Nat.not_lt, Bool.not_eq_true, Bool.not_eq_false, not_true_eq_false, not_false_eq_true, Decidable.not_not] at cq
            omega
          · repeat (first | refine g_px rfl rfl rfl ?_)
            refine g_if rfl (fun cq => ?_) (fun cq => ?_)
            · have cq : bl (fts (D 1) (MA 5) Gj k) = 0 := cq
              rw [bl_0] at cq
              refine g_run 1 rfl ?_
              exact next false h (by rw [fts, cq]; rfl) hv
            · have cq : ¬ bl (fts (D 1) (MA 5) Gj k) = 0 := cq
              rw [bl_0, Bool.not_eq_false] at cq
              have hfk := cq
              repeat (first | refine g_px rfl rfl rfl ?_ | refine g_get hv 0 rfl rfl rfl rfl ?_ | refine g_get hv 1 rfl rfl rfl rfl ?_)
              refine g_nL (L := 3) hv 10 (k := k) (by omega) (by decide) rfl rfl ?_
              refine g_callS hv [] rfl rfl rfl rfl rfl rfl rfl (by decide) (s_Mbit sta (d + 2) Sj (MA 5 k) (by omega) (by omega)) (fun v w' h hp hk2 hv => ?_)
              obtain ⟨rfl, rfl⟩ := hp
              rw [hqS]
              have hv : mj_Vw h0 (wf (wg (mo th tr wh (some q) rd F wd ac im (nI L) (nI Tj) (nI Sj) sh ru (nI (ftp D MA L SN C p)) (nI (atp D MA L SN C p)) al sd) q D hi er se (MA 1) (MA 3) (MA 4) V r SN (mix (D 1) g Gj) (mix (D 1) f fj)) q (MA 5) (c18 (cnp D MA L SN C p))) h := hv
              refine g_if rfl (fun cq => ?_) (fun cq => ?_)
              · have cq : bl ((sdr Gj (MA 5 k) (D 1) 0).isSome) = 0 := cq
                rw [bl_0] at cq
                refine g_run 1 rfl ?_
                exact next false h (by rw [fts, cq, Bool.and_false]) hv
              · have cq : ¬ bl ((sdr Gj (MA 5 k) (D 1) 0).isSome) = 0 := cq
                rw [bl_0, Bool.not_eq_false] at cq
                refine g_run 2 rfl ?_
                exact next true h (by rw [fts, cq, hfk]; rfl) hv
      refine g_run 4 rfl ?_
      exact loop1 (D 8) 0 h (by omega) hv
  have zl : ∀ j k h, k + j = 18 → mj_Vw h0 (wf (wg (mo th tr wh (some q) rd F wd ac im (nI L) tk st sh ru (nI 0) (nI (2 ^ D 1 - 1)) al sd) q D hi er se (MA 1) (MA 3) (MA 4) V r SN g f) q (MA 5) (mix k c0 (fun _ => 0))) h → mj_go sta (mj_Cl sta (d + 3)) m_X10_fitting T 19 [some (.ref 151), some (.int (nI k)), none, none] [] h := by
    intro j
    induction j with
    | zero =>
      intro k h hk hv
      have hk : k = 18 := by omega
      subst hk
      have e : aN 18 (mix 18 c0 (fun _ => 0)) = aN 18 (c18 (cnp D MA L SN C 0)) := aN_congr (fun i hi => if_pos hi)
      unfold wf at hv
      rw [e] at hv
      repeat (first | refine g_px rfl rfl rfl ?_)
      refine g_ic rfl (fun cq => ?_) (fun cq => absurd (cpT (by decide)) cq)
      repeat (first | refine g_px rfl rfl rfl ?_)
      refine g_callV hv [0, 6] 0 rfl rfl rfl rfl rfl rfl rfl rfl (by decide) (s_MfirstRow sta (d + 2) th tr wh (some q) rd F wd ac im (nI L) tk st sh ru (nI 0) (nI (2 ^ D 1 - 1)) al sd r) (fun v w' h hp hk2 hv => ?_)
      obtain ⟨rfl, rfl⟩ := hp
      refine g_run 2 rfl ?_
      exact loop (fac (D 1)) 0 h (fun i => i) g f tk st none none (by omega) (fac_pos _) (fun i hi => (lx0 hn hi).symm) hv
    | succ j ih =>
      intro k h hk hv
      repeat (first | refine g_px rfl rfl rfl ?_)
      refine g_ic rfl (fun cq => ?_) (fun cq => ?_)
      · simp (disch := omega) only [mj_cp, k_6, k_7, k_8, k_9, k_10, k_12, k_15, k_16, k_18, k_20, k_24, k_25, k_26, k_27, k_28, k_32, k_36, k_48, k_57, k_59, k_63, k_74, k_75, k_84, k_90, k_97, k_99, k_100, k_122, k_200, k_255, k_420, k_448, k_720, k_800, k_999, k_bit, k_shl, fa_and, nI_add, bl_1, bl_0, bl_n1, bl_n0, bl_i1, nI_lt0, nI_0le, nI_eq0, nI_eqT, nI_leI, nI_ltI, nI_eq, Nat.not_le, Nat.not_lt, Bool.not_eq_true, Bool.not_eq_false, not_true_eq_false, not_false_eq_true, Decidable.not_not] at cq
        omega
      · repeat (first | refine g_px rfl rfl rfl ?_ | refine g_get hv 0 rfl rfl rfl rfl ?_)
        refine g_nLs (y := 0) (L := 18) hv 11 (k := k) (by omega) (by decide) rfl rfl (fun h hv => ?_)
        rw [show va_up (mix k c0 (fun _ => 0)) k 0 = mix (k + 1) c0 (fun _ => 0) from mix_up (f' := fun _ => 0)] at hv
        refine g_run 2 rfl ?_
        have hnx := ih (k + 1) h (by omega) hv
        rw [nI_succ] at hnx
        exact hnx
  repeat (first | refine g_px rfl rfl rfl ?_)
  refine g_callV hv [0, 5, 7] 0 rfl rfl rfl rfl rfl rfl rfl rfl (by decide) (s_MasNow sta (d + 2) th tr wh q rd F wd ac im lw tk st sh ru rz aw al sd V L SN sn hV.1 hV.2.1) (fun v w' h hp hk2 hv => ?_)
  obtain ⟨rfl, rfl⟩ := hp
  have hv : mj_Vw h0 (wf (wg (mo th tr wh (some q) rd F wd ac im (nI L) tk st sh ru rz aw al sd) q D hi er se (MA 1) (MA 3) (MA 4) V r SN g f) q (MA 5) c0) h := hv
  repeat (first | refine g_px rfl rfl rfl ?_)
  refine g_put hv 0 rfl rfl rfl rfl rfl rfl (fun h hv => ?_)
  have hv : mj_Vw h0 (wf (wg (mo th tr wh (some q) rd F wd ac im (nI L) tk st sh ru (nI 0) aw al sd) q D hi er se (MA 1) (MA 3) (MA 4) V r SN g f) q (MA 5) c0) h := hv
  repeat (first | refine g_px rfl rfl rfl ?_)
  refine g_callV hv [0, 1] 0 rfl rfl rfl rfl rfl rfl rfl rfl (by decide) (s_Meverybody sta (d + 2) th tr wh q rd F wd ac im (nI L) tk st sh ru (nI 0) aw al sd D hi er se hn) (fun v w' h hp hk2 hv => ?_)
  obtain ⟨rfl, rfl⟩ := hp
  refine g_put hv 0 rfl rfl rfl rfl rfl rfl (fun h hv => ?_)
  have hv : mj_Vw h0 (wf (wg (mo th tr wh (some q) rd F wd ac im (nI L) tk st sh ru (nI 0) (nI (2 ^ D 1 - 1)) al sd) q D hi er se (MA 1) (MA 3) (MA 4) V r SN g f) q (MA 5) c0) h := hv
  refine g_run 2 rfl ?_
  exact zl 18 0 h (by omega) (by rw [mix_0]; exact hv)
theorem s_McouldBe (c : Nat → Nat → Nat) (k : Nat) (hk : k < 3) (hn : D 1 ≤ 6) (hc : ∀ k, bd 1000 (c k)) : mj_Sx sta (d + 1) 245 [.ref 151, (.int (nI k))] [(mo th tr wh (some q) rd F wd ac im lw tk st sh ru rz aw al sd), mdh q D hi er se, (164, aN 18 (c18 c))] (fun v w => v = some (.int (nI (cbe (c k) (D 1)))) ∧ w = [(mo th tr wh (some q) rd F wd ac im lw tk st sh ru rz aw al sd), mdh q D hi er se, (164, aN 18 (c18 c))]) := by
  refine mj_Sx.mk m_X10_couldBe (by decide) n_X10_couldBe rfl (fun h0 hv => ?_)
  generalize hT : mj_rx m_X10_couldBe h0 _ _ = T
  have loop : ∀ j m, m + j = D 1 → mj_go sta (mj_Cl sta d) m_X10_couldBe T 4 [some (.ref 151), some (.int (nI k)), some (.int (nI (cbe (c k) m))), some (.int (nI m))] [] h0 := by
    intro j
    induction j with
    | zero =>
      intro m hm
      have hm : m = D 1 := by omega
      subst hm
      repeat (first | refine g_px rfl rfl rfl ?_ | refine g_get hv 0 rfl rfl rfl rfl ?_ | refine g_get hv 1 rfl rfl rfl rfl ?_)
      refine g_ic rfl (fun cq => ?_) (fun cq => ?_)
      · repeat (first | refine g_px rfl rfl rfl ?_)
        subst hT
        exact g_iret hv rfl rfl rfl rfl ⟨rfl, rfl⟩
      · simp (disch := omega) only [mj_cp, k_6, k_7, k_8, k_9, k_10, k_12, k_15, k_16, k_18, k_20, k_24, k_25, k_26, k_27, k_28, k_32, k_36, k_48, k_57, k_59, k_63, k_74, k_75, k_84, k_90, k_97, k_99, k_100, k_122, k_200, k_255, k_420, k_448, k_720, k_800, k_999, k_bit, k_shl, fa_and, nI_add, bl_1, bl_0, bl_n1, bl_n0, bl_i1, nI_lt0, nI_0le, nI_eq0, nI_eqT, nI_leI, nI_ltI, nI_eq, Nat.not_le, Nat.not_lt, Bool.not_eq_true, Bool.not_eq_false, not_true_eq_false, not_false_eq_true, Decidable.not_not] at cq
        omega
    | succ j ih =>
      intro m hm
      have hckm := hc k m
      have next : ∀ (x : Nat), cbe (c k) m ||| x = cbe (c k) (m + 1) → mj_go sta (mj_Cl sta d) m_X10_couldBe T 37 [some (.ref 151), some (.int (nI k)), some (.int (nI (cbe (c k) m))), some (.int (nI m))] [(.int (nI x)), (.int (nI (cbe (c k) m)))] h0 := by
        intro x he
        refine g_run 1 rfl ?_
        rw [fa_or, he]
        refine g_run 3 rfl ?_
        have hnx := ih (m + 1) (by omega)
        rw [nI_succ] at hnx
        exact hnx
      have ec : c18 c (6 * k + m) = c k m := by
        unfold c18
        rw [show (6 * k + m) / 6 = k by omega, show (6 * k + m) % 6 = m by omega]
      repeat (first | refine g_px rfl rfl rfl ?_ | refine g_get hv 0 rfl rfl rfl rfl ?_ | refine g_get hv 1 rfl rfl rfl rfl ?_)
      refine g_ic rfl (fun cq => ?_) (fun cq => ?_)
      · simp (disch := omega) only [mj_cp, k_6, k_7, k_8, k_9, k_10, k_12, k_15, k_16, k_18, k_20, k_24, k_25, k_26, k_27, k_28, k_32, k_36, k_48, k_57, k_59, k_63, k_74, k_75, k_84, k_90, k_97, k_99, k_100, k_122, k_200, k_255, k_420, k_448, k_720, k_800, k_999, k_bit, k_shl, fa_and, nI_add, bl_1, bl_0, bl_n1, bl_n0, bl_i1, nI_lt0, nI_0le, nI_eq0, nI_eqT, nI_leI, nI_ltI, nI_eq, Nat.not_le, Nat.not_lt, Bool.not_eq_true, Bool.not_eq_false, not_true_eq_false, not_false_eq_true, Decidable.not_not] at cq
        omega
      · repeat (first | refine g_px rfl rfl rfl ?_ | refine g_get hv 0 rfl rfl rfl rfl ?_)
        rw [k_6, pk_mul, nI_add]
        refine g_nL (L := 18) hv 2 (k := 6 * k + m) (by omega) (by decide) rfl rfl ?_
        rw [ec]
        refine g_if rfl (fun cq => ?_) (fun cq => ?_)
        · have cq : nI (c k m) ≤ nI 0 := cq
          rw [nI_leI (by omega) (by decide)] at cq
          refine g_run 1 rfl ?_
          exact next 0 (by rw [cbe, if_neg (by omega), Nat.or_zero])
        · have cq : ¬ nI (c k m) ≤ nI 0 := cq
          rw [nI_leI (by omega) (by decide)] at cq
          refine g_run 3 rfl ?_
          rw [k_shl (show m < 31 by omega)]
          refine g_run 1 rfl ?_
          exact next (2 ^ m) (by rw [cbe, if_pos (by omega)])
  refine g_run 4 rfl ?_
  exact loop (D 1) 0 (by omega)
theorem s_Mrows (L : Nat) (SN C : Nat → Nat) (hV : vN V L SN C) (hG : okG D MA SN C L) (h8 : D 8 ≤ 3) (hM5 : ∀ k, k < D 8 → MA 5 k < D 1) : mj_Sx sta (d + 5) 243 [.ref 151] (wf (wg (mo th tr wh (some q) rd F wd ac im lw tk st sh ru rz aw al sd) q D hi er se (MA 1) (MA 3) (MA 4) V r sn g f) q (MA 5) c0) (fun v w => v = some (.int (nI (ftT D MA L SN C))) ∧ ∃ lw tk st rz aw al r sn g f c, w = wf (wg (mo 0 0 (-1) (some q) rd F wd ac im lw tk st sh ru rz aw al sd) q D hi er se (MA 1) (MA 3) (MA 4) V r sn g f) q (MA 5) c) := by
  refine mj_Sx.mk m_X10_rows (by decide) n_X10_rows rfl (fun h0 hv => ?_)
  generalize hT : mj_rx m_X10_rows h0 _ _ = T
  repeat (first | refine g_px rfl rfl rfl ?_)
  refine g_put hv 0 rfl rfl rfl rfl rfl rfl (fun h hv => ?_)
  have hv : mj_Vw h0 (wf (wg (mo 0 tr wh (some q) rd F wd ac im lw tk st sh ru rz aw al sd) q D hi er se (MA 1) (MA 3) (MA 4) V r sn g f) q (MA 5) c0) h := hv
  repeat (first | refine g_px rfl rfl rfl ?_ | refine g_get hv 0 rfl rfl rfl rfl ?_)
  refine g_callV hv [0, 1, 2, 3, 4, 5, 6, 7, 8, 9, 10, 11] 0 rfl rfl rfl rfl rfl rfl rfl rfl (by decide) (s_Mfitting sta d 0 tr wh q rd F wd ac im lw tk st sh ru rz aw al sd D hi er se MA V r sn g f c0 L SN C hV hG h8 hM5) (fun v w' h hp hk2 hv => ?_)
  obtain ⟨rfl, tk', st', r', g', f', rfl⟩ := hp
  have hv : mj_Vw h0 (wf (wg (mo 0 tr wh (some q) rd F wd ac im (nI L) tk' st' sh ru (nI (ftT D MA L SN C)) (nI (atT D MA L SN C)) al sd) q D hi er se (MA 1) (MA 3) (MA 4) V r' SN g' f') q (MA 5) (c18 (cnT D MA L SN C))) h := hv
  repeat (first | refine g_px rfl rfl rfl ?_ | refine g_get hv 0 rfl rfl rfl rfl ?_)
  refine g_callV hv [0] 0 rfl rfl rfl rfl rfl rfl rfl rfl (by decide) (s_Mgood sta (d + 3) 0 tr wh (some q) rd F wd ac im (nI L) tk' st' sh ru (nI (ftT D MA L SN C)) (nI (atT D MA L SN C)) al sd _) (fun v w' h hp hk2 hv => ?_)
  obtain ⟨rfl, rfl⟩ := hp
  subst hT
  exact g_iret hv rfl rfl rfl rfl ⟨rfl, _, _, _, _, _, _, _, _, _, _, _, rfl⟩
theorem s_MsurelyTaken (L : Nat) (SN C : Nat → Nat) (hV : vN V L SN C) (hG : okG D MA SN C L) (h8 : D 8 ≤ 3) (hM5 : ∀ k, k < D 8 → MA 5 k < D 1) : mj_Sx sta (d + 5) 251 [.ref 151] (wf (wg (mo th tr wh (some q) rd F wd ac im lw tk st sh ru rz aw al sd) q D hi er se (MA 1) (MA 3) (MA 4) V r sn g f) q (MA 5) c0) (fun v w => v = some (.int (nI (atT D MA L SN C))) ∧ ∃ lw tk st rz aw al r sn g f c, w = wf (wg (mo 0 0 (-1) (some q) rd F wd ac im lw tk st sh ru rz aw al sd) q D hi er se (MA 1) (MA 3) (MA 4) V r sn g f) q (MA 5) c) := by
  refine mj_Sx.mk m_X10_surelyTaken (by decide) n_X10_surelyTaken rfl (fun h0 hv => ?_)
  generalize hT : mj_rx m_X10_surelyTaken h0 _ _ = T
  repeat (first | refine g_px rfl rfl rfl ?_)
  refine g_put hv 0 rfl rfl rfl rfl rfl rfl (fun h hv => ?_)
  have hv : mj_Vw h0 (wf (wg (mo 0 tr wh (some q) rd F wd ac im lw tk st sh ru rz aw al sd) q D hi er se (MA 1) (MA 3) (MA 4) V r sn g f) q (MA 5) c0) h := hv
  repeat (first | refine g_px rfl rfl rfl ?_ | refine g_get hv 0 rfl rfl rfl rfl ?_)
  refine g_callV hv [0, 1, 2, 3, 4, 5, 6, 7, 8, 9, 10, 11] 0 rfl rfl rfl rfl rfl rfl rfl rfl (by decide) (s_Mfitting sta d 0 tr wh q rd F wd ac im lw tk st sh ru rz aw al sd D hi er se MA V r sn g f c0 L SN C hV hG h8 hM5) (fun v w' h hp hk2 hv => ?_)
  obtain ⟨rfl, tk', st', r', g', f', rfl⟩ := hp
  have hv : mj_Vw h0 (wf (wg (mo 0 tr wh (some q) rd F wd ac im (nI L) tk' st' sh ru (nI (ftT D MA L SN C)) (nI (atT D MA L SN C)) al sd) q D hi er se (MA 1) (MA 3) (MA 4) V r' SN g' f') q (MA 5) (c18 (cnT D MA L SN C))) h := hv
  repeat (first | refine g_px rfl rfl rfl ?_ | refine g_get hv 0 rfl rfl rfl rfl ?_)
  refine g_callV hv [0] 0 rfl rfl rfl rfl rfl rfl rfl rfl (by decide) (s_Mgood sta (d + 3) 0 tr wh (some q) rd F wd ac im (nI L) tk' st' sh ru (nI (ftT D MA L SN C)) (nI (atT D MA L SN C)) al sd _) (fun v w' h hp hk2 hv => ?_)
  obtain ⟨rfl, rfl⟩ := hp
  subst hT
  exact g_iret hv rfl rfl rfl rfl ⟨rfl, _, _, _, _, _, _, _, _, _, _, _, rfl⟩
theorem s_Mcould (k : Nat) (hk : k < D 8) (L : Nat) (SN C : Nat → Nat) (hV : vN V L SN C) (hG : okG D MA SN C L) (h8 : D 8 ≤ 3) (hM5 : ∀ k, k < D 8 → MA 5 k < D 1) : mj_Sx sta (d + 5) 246 [.ref 151, (.int (nI k))] (wf (wg (mo th tr wh (some q) rd F wd ac im lw tk st sh ru rz aw al sd) q D hi er se (MA 1) (MA 3) (MA 4) V r sn g f) q (MA 5) c0) (fun v w => v = some (.int (nI (cbe (cnT D MA L SN C k) (D 1)))) ∧ ∃ lw tk st rz aw al r sn g f c, w = wf (wg (mo 0 0 (-1) (some q) rd F wd ac im lw tk st sh ru rz aw al sd) q D hi er se (MA 1) (MA 3) (MA 4) V r sn g f) q (MA 5) c) := by
  refine mj_Sx.mk m_X10_could (by decide) n_X10_could rfl (fun h0 hv => ?_)
  generalize hT : mj_rx m_X10_could h0 _ _ = T
  have hn := hG.1
  repeat (first | refine g_px rfl rfl rfl ?_)
  refine g_put hv 0 rfl rfl rfl rfl rfl rfl (fun h hv => ?_)
  have hv : mj_Vw h0 (wf (wg (mo 0 tr wh (some q) rd F wd ac im lw tk st sh ru rz aw al sd) q D hi er se (MA 1) (MA 3) (MA 4) V r sn g f) q (MA 5) c0) h := hv
  repeat (first | refine g_px rfl rfl rfl ?_)
  refine g_callV hv [0, 1] 0 rfl rfl rfl rfl rfl rfl rfl rfl (by decide) (s_MisTold sta (d + 3) 0 tr wh q rd F wd ac im lw tk st sh ru rz aw al sd D hi er se (nI k) h8) (fun v w' h hp hk2 hv => ?_)
  obtain ⟨rfl, rfl⟩ := hp
  rw [inR_k hk (by omega)]
  refine g_if rfl (fun cq => ?_) (fun cq => absurd (show ¬ bl true = 0 by decide) cq)
  have hv : mj_Vw h0 (wf (wg (mo 0 tr wh (some q) rd F wd ac im lw tk st sh ru rz aw al sd) q D hi er se (MA 1) (MA 3) (MA 4) V r sn g f) q (MA 5) c0) h := hv
  repeat (first | refine g_px rfl rfl rfl ?_)
  refine g_callV hv [0, 1, 2, 3, 4, 5, 6, 7, 8, 9, 10, 11] 0 rfl rfl rfl rfl rfl rfl rfl rfl (by decide) (s_Mfitting sta d 0 tr wh q rd F wd ac im lw tk st sh ru rz aw al sd D hi er se MA V r sn g f c0 L SN C hV hG h8 hM5) (fun v w' h hp hk2 hv => ?_)
  obtain ⟨rfl, tk', st', r', g', f', rfl⟩ := hp
  have hv : mj_Vw h0 (wf (wg (mo 0 tr wh (some q) rd F wd ac im (nI L) tk' st' sh ru (nI (ftT D MA L SN C)) (nI (atT D MA L SN C)) al sd) q D hi er se (MA 1) (MA 3) (MA 4) V r' SN g' f') q (MA 5) (c18 (cnT D MA L SN C))) h := hv
  repeat (first | refine g_px rfl rfl rfl ?_)
  refine g_callV hv [0, 1, 11] 0 rfl rfl rfl rfl rfl rfl rfl rfl (by decide) (s_McouldBe sta (d + 3) 0 tr wh q rd F wd ac im (nI L) tk' st' sh ru (nI (ftT D MA L SN C)) (nI (atT D MA L SN C)) al sd D hi er se (cnT D MA L SN C) k (by omega) hn (fun k => cnT_lt hn k)) (fun v w' h hp hk2 hv => ?_)
  obtain ⟨rfl, rfl⟩ := hp
  have hv : mj_Vw h0 (wf (wg (mo 0 tr wh (some q) rd F wd ac im (nI L) tk' st' sh ru (nI (ftT D MA L SN C)) (nI (atT D MA L SN C)) al sd) q D hi er se (MA 1) (MA 3) (MA 4) V r' SN g' f') q (MA 5) (c18 (cnT D MA L SN C))) h := hv
  refine g_callV hv [0] 0 rfl rfl rfl rfl rfl rfl rfl rfl (by decide) (s_Mgood sta (d + 3) 0 tr wh (some q) rd F wd ac im (nI L) tk' st' sh ru (nI (ftT D MA L SN C)) (nI (atT D MA L SN C)) al sd _) (fun v w' h hp hk2 hv => ?_)
  obtain ⟨rfl, rfl⟩ := hp
  subst hT
  exact g_iret hv rfl rfl rfl rfl ⟨rfl, _, _, _, _, _, _, _, _, _, _, _, rfl⟩
theorem s_Msurely (k : Nat) (hk : k < D 8) (L : Nat) (SN C : Nat → Nat) (hV : vN V L SN C) (hG : okG D MA SN C L) (h8 : D 8 ≤ 3) (hM5 : ∀ k, k < D 8 → MA 5 k < D 1) : mj_Sx sta (d + 5) 247 [.ref 151, (.int (nI k))] (wf (wg (mo th tr wh (some q) rd F wd ac im lw tk st sh ru rz aw al sd) q D hi er se (MA 1) (MA 3) (MA 4) V r sn g f) q (MA 5) c0) (fun v w => v = some (.int (snd (frs (fun m => decide (cbe (cnT D MA L SN C k) (D 1) = 2 ^ m)) (D 1) 0))) ∧ ∃ lw tk st rz aw al r sn g f c, w = wf (wg (mo 0 0 (-1) (some q) rd F wd ac im lw tk st sh ru rz aw al sd) q D hi er se (MA 1) (MA 3) (MA 4) V r sn g f) q (MA 5) c) := by
  refine mj_Sx.mk m_X10_surely (by decide) n_X10_surely rfl (fun h0 hv => ?_)
  generalize hT : mj_rx m_X10_surely h0 _ _ = T
  have hn := hG.1
  have hp6 := p6 hn
  repeat (first | refine g_px rfl rfl rfl ?_)
  refine g_put hv 0 rfl rfl rfl rfl rfl rfl (fun h hv => ?_)
  have hv : mj_Vw h0 (wf (wg (mo 0 tr wh (some q) rd F wd ac im lw tk st sh ru rz aw al sd) q D hi er se (MA 1) (MA 3) (MA 4) V r sn g f) q (MA 5) c0) h := hv
  repeat (first | refine g_px rfl rfl rfl ?_)
  refine g_callV hv [0, 1] 0 rfl rfl rfl rfl rfl rfl rfl rfl (by decide) (s_MisTold sta (d + 3) 0 tr wh q rd F wd ac im lw tk st sh ru rz aw al sd D hi er se (nI k) h8) (fun v w' h hp hk2 hv => ?_)
  obtain ⟨rfl, rfl⟩ := hp
  rw [inR_k hk (by omega)]
  refine g_if rfl (fun cq => ?_) (fun cq => absurd (show ¬ bl true = 0 by decide) cq)
  have hv : mj_Vw h0 (wf (wg (mo 0 tr wh (some q) rd F wd ac im lw tk st sh ru rz aw al sd) q D hi er se (MA 1) (MA 3) (MA 4) V r sn g f) q (MA 5) c0) h := hv
  repeat (first | refine g_px rfl rfl rfl ?_)
  refine g_callV hv [0, 1, 2, 3, 4, 5, 6, 7, 8, 9, 10, 11] 0 rfl rfl rfl rfl rfl rfl rfl rfl (by decide) (s_Mfitting sta d 0 tr wh q rd F wd ac im lw tk st sh ru rz aw al sd D hi er se MA V r sn g f c0 L SN C hV hG h8 hM5) (fun v w' h hp hk2 hv => ?_)
  obtain ⟨rfl, tk', st', r', g', f', rfl⟩ := hp
  have hv : mj_Vw h0 (wf (wg (mo 0 tr wh (some q) rd F wd ac im (nI L) tk' st' sh ru (nI (ftT D MA L SN C)) (nI (atT D MA L SN C)) al sd) q D hi er se (MA 1) (MA 3) (MA 4) V r' SN g' f') q (MA 5) (c18 (cnT D MA L SN C))) h := hv
  generalize hsu : frs (fun m => decide (cbe (cnT D MA L SN C k) (D 1) = 2 ^ m)) (D 1) 0 = su at hT
  have hcb := cbe_lt (c := cnT D MA L SN C k) (D 1) hn
  have loop : ∀ j m h, m + j = D 1 → frs (fun m => decide (cbe (cnT D MA L SN C k) (D 1) = 2 ^ m)) j m = su → mj_Vw h0 (wf (wg (mo 0 tr wh (some q) rd F wd ac im (nI L) tk' st' sh ru (nI (ftT D MA L SN C)) (nI (atT D MA L SN C)) al sd) q D hi er se (MA 1) (MA 3) (MA 4) V r' SN g' f') q (MA 5) (c18 (cnT D MA L SN C))) h → mj_go sta (mj_Cl sta (d + 4)) m_X10_surely T 25 [some (.ref 151), some (.int (nI k)), some (.int (nI m))] [] h := by
    intro j
    induction j with
    | zero =>
      intro m h hm hfr hv
      have hm : m = D 1 := by omega
      subst hm
      rw [frs] at hfr
      subst hfr
      repeat (first | refine g_px rfl rfl rfl ?_ | refine g_get hv 0 rfl rfl rfl rfl ?_ | refine g_get hv 1 rfl rfl rfl rfl ?_)
      refine g_ic rfl (fun cq => ?_) (fun cq => ?_)
      · repeat (first | refine g_px rfl rfl rfl ?_)
        refine g_callV hv [0] 0 rfl rfl rfl rfl rfl rfl rfl rfl (by decide) (s_Mgood sta (d + 3) 0 tr wh (some q) rd F wd ac im (nI L) tk' st' sh ru (nI (ftT D MA L SN C)) (nI (atT D MA L SN C)) al sd _) (fun v w' h hp hk2 hv => ?_)
        obtain ⟨rfl, rfl⟩ := hp
        subst hT
        exact g_iret hv rfl rfl rfl rfl ⟨rfl, _, _, _, _, _, _, _, _, _, _, _, rfl⟩
      · simp (disch := omega) only [mj_cp, k_6, k_7, k_8, k_9, k_10, k_12, k_15, k_16, k_18, k_20, k_24, k_25, k_26, k_27, k_28, k_32, k_36, k_48, k_57, k_59, k_63, k_74, k_75, k_84, k_90, k_97, k_99, k_100, k_122, k_200, k_255, k_420, k_448, k_720, k_800, k_999, k_bit, k_shl, fa_and, nI_add, bl_1, bl_0, bl_n1, bl_n0, bl_i1, nI_lt0, nI_0le, nI_eq0, nI_eqT, nI_leI, nI_ltI, nI_eq, Nat.not_le, Nat.not_lt, Bool.not_eq_true, Bool.not_eq_false, not_true_eq_false, not_false_eq_true, Decidable.not_not] at cq
        omega
    | succ j ih =>
      intro m h hm hfr hv
      have hpm : (2 : Nat) ^ m < 64 := Nat.pow_lt_pow_right (by decide) (show m < 6 by omega)
      repeat (first | refine g_px rfl rfl rfl ?_ | refine g_get hv 0 rfl rfl rfl rfl ?_ | refine g_get hv 1 rfl rfl rfl rfl ?_)
      refine g_ic rfl (fun cq => ?_) (fun cq => ?_)
      · simp (disch := omega) only [mj_cp, k_6, k_7, k_8, k_9, k_10, k_12, k_15, k_16, k_18, k_20, k_24, k_25, k_26, k_27, k_28, k_32, k_36, k_48, k_57, k_59, k_63, k_74, k_75, k_84, k_90, k_97, k_99, k_100, k_122, k_200, k_255, k_420, k_448, k_720, k_800, k_999, k_bit, k_shl, fa_and, nI_add, bl_1, bl_0, bl_n1, bl_n0, bl_i1, nI_lt0, nI_0le, nI_eq0, nI_eqT, nI_leI, nI_ltI, nI_eq, Nat.not_le, Nat.not_lt, Bool.not_eq_true, Bool.not_eq_false, not_true_eq_false, not_false_eq_true, Decidable.not_not] at cq
        omega
      · repeat (first | refine g_px rfl rfl rfl ?_)
        refine g_callV hv [0, 1, 11] 0 rfl rfl rfl rfl rfl rfl rfl rfl (by decide) (s_McouldBe sta (d + 3) 0 tr wh q rd F wd ac im (nI L) tk' st' sh ru (nI (ftT D MA L SN C)) (nI (atT D MA L SN C)) al sd D hi er se (cnT D MA L SN C) k (by omega) hn (fun k => cnT_lt hn k)) (fun v w' h hp hk2 hv => ?_)
        obtain ⟨rfl, rfl⟩ := hp
        have hv : mj_Vw h0 (wf (wg (mo 0 tr wh (some q) rd F wd ac im (nI L) tk' st' sh ru (nI (ftT D MA L SN C)) (nI (atT D MA L SN C)) al sd) q D hi er se (MA 1) (MA 3) (MA 4) V r' SN g' f') q (MA 5) (c18 (cnT D MA L SN C))) h := hv
        refine g_run 3 rfl ?_
        rw [k_shl (show m < 31 by omega)]
        rw [frs] at hfr
        refine g_ic rfl (fun cq => ?_) (fun cq => ?_)
        · have cq : ¬ nI (cbe (cnT D MA L SN C k) (D 1)) = nI (2 ^ m) := cq
          rw [nI_eq (by omega) (by omega)] at cq
          rw [if_neg (by rw [decide_eq_true_eq]; exact cq)] at hfr
          refine g_run 2 rfl ?_
          have hnx := ih (m + 1) h (by omega) hfr hv
          rw [nI_succ] at hnx
          exact hnx
        · have cq : ¬ ¬ nI (cbe (cnT D MA L SN C k) (D 1)) = nI (2 ^ m) := cq
          rw [nI_eq (by omega) (by omega), Decidable.not_not] at cq
          rw [if_pos (decide_eq_true cq)] at hfr
          subst hfr
          repeat (first | refine g_px rfl rfl rfl ?_)
          refine g_callV hv [0] 0 rfl rfl rfl rfl rfl rfl rfl rfl (by decide) (s_Mgood sta (d + 3) 0 tr wh (some q) rd F wd ac im (nI L) tk' st' sh ru (nI (ftT D MA L SN C)) (nI (atT D MA L SN C)) al sd _) (fun v w' h hp hk2 hv => ?_)
          obtain ⟨rfl, rfl⟩ := hp
          subst hT
          exact g_iret hv rfl rfl rfl rfl ⟨rfl, _, _, _, _, _, _, _, _, _, _, _, rfl⟩
  refine g_run 2 rfl ?_
  exact loop (D 1) 0 h (by omega) hsu hv
def akL (c : Nat → Nat → Nat) (n k : Nat) : Int32 := match (bst c n k).1 with
  | none => -2
  | some _ => nI (bst c n k).2
theorem bst_2 {c : Nat → Nat → Nat} {n : Nat} : ∀ {k q}, (bst c n k).1 = some q → (bst c n k).2 = mst (c q) n
  | 0, q, h => by cases h
  | k + 1, q, h => by
    rw [bst] at h ⊢
    by_cases hc : (bst c n k).1 = none ∨ mst (c k) n < (bst c n k).2
    · rw [if_pos hc] at h ⊢
      cases h
      rfl
    · rw [if_neg hc] at h ⊢
      exact bst_2 h
theorem s_MtoAsk (L : Nat) (SN C : Nat → Nat) (hV : vN V L SN C) (hG : okG D MA SN C L) (h8 : D 8 ≤ 3) (hM5 : ∀ k, k < D 8 → MA 5 k < D 1) : mj_Sx sta (d + 5) 248 [.ref 151] (wf (wg (mo th tr wh (some q) rd F wd ac im lw tk st sh ru rz aw al sd) q D hi er se (MA 1) (MA 3) (MA 4) V r sn g f) q (MA 5) c0) (fun v w => v = some (.int (snd (if 0 < ftT D MA L SN C then (bst (cnT D MA L SN C) (D 1) (D 8)).1 else none))) ∧ ∃ tk' st' r' g' f', w = wf (wg (mo th tr wh (some q) rd F wd ac im (nI L) tk' st' sh ru (nI (ftT D MA L SN C)) (nI (atT D MA L SN C)) (if 0 < ftT D MA L SN C then akL (cnT D MA L SN C) (D 1) (D 8) else -2) sd) q D hi er se (MA 1) (MA 3) (MA 4) V r' SN g' f') q (MA 5) (c18 (cnT D MA L SN C))) := by
  refine mj_Sx.mk m_X10_toAsk (by decide) n_X10_toAsk rfl (fun h0 hv => ?_)
  generalize hT : mj_rx m_X10_toAsk h0 _ _ = T
  have hn := hG.1
  have hft := ftT_lt (D := D) (DA := MA) (lw := L) (sn := SN) (C := C) hn
  have hcn := fun k => cnT_lt (D := D) (DA := MA) (lw := L) (sn := SN) (C := C) hn k
  repeat (first | refine g_px rfl rfl rfl ?_)
  refine g_callV hv [0, 1, 2, 3, 4, 5, 6, 7, 8, 9, 10, 11] 0 rfl rfl rfl rfl rfl rfl rfl rfl (by decide) (s_Mfitting sta d th tr wh q rd F wd ac im lw tk st sh ru rz aw al sd D hi er se MA V r sn g f c0 L SN C hV hG h8 hM5) (fun v w' h hp hk2 hv => ?_)
  obtain ⟨rfl, tk', st', r', g', f', rfl⟩ := hp
  have hv : mj_Vw h0 (wf (wg (mo th tr wh (some q) rd F wd ac im (nI L) tk' st' sh ru (nI (ftT D MA L SN C)) (nI (atT D MA L SN C)) al sd) q D hi er se (MA 1) (MA 3) (MA 4) V r' SN g' f') q (MA 5) (c18 (cnT D MA L SN C))) h := hv
  have loop : ∀ j k h x3 x4, k + j = D 8 → (ftT D MA L SN C = 0 → k = 0) → mj_Vw h0 (wf (wg (mo th tr wh (some q) rd F wd ac im (nI L) tk' st' sh ru (nI (ftT D MA L SN C)) (nI (atT D MA L SN C)) (akL (cnT D MA L SN C) (D 1) k) sd) q D hi er se (MA 1) (MA 3) (MA 4) V r' SN g' f') q (MA 5) (c18 (cnT D MA L SN C))) h → mj_go sta (mj_Cl sta (d + 4)) m_X10_toAsk T 15 [some (.ref 151), some (.int (snd (bst (cnT D MA L SN C) (D 1) k).1)), some (.int (nI k)), x3, x4] [] h := by
    intro j
    induction j with
    | zero =>
      intro k h x3 x4 hk hz hv
      have hk : k = D 8 := by omega
      subst hk
      repeat (first | refine g_px rfl rfl rfl ?_ | refine g_get hv 0 rfl rfl rfl rfl ?_ | refine g_get hv 1 rfl rfl rfl rfl ?_)
      refine g_ic rfl (fun cq => ?_) (fun cq => ?_)
      · repeat (first | refine g_px rfl rfl rfl ?_)
        subst hT
        by_cases h0' : 0 < ftT D MA L SN C
        · refine g_iret hv rfl rfl rfl rfl ⟨by rw [if_pos h0'], tk', st', r', g', f', by rw [if_pos h0']⟩
        · have e8 : D 8 = 0 := hz (by omega)
          rw [e8] at hv ⊢
          refine g_iret hv rfl rfl rfl rfl ⟨by rw [if_neg h0']; rfl, tk', st', r', g', f', by rw [if_neg h0']; rfl⟩
      · simp (disch := omega) only [mj_cp, k_6, k_7, k_8, k_9, k_10, k_12, k_15, k_16, k_18, k_20, k_24, k_25, k_26, k_27, k_28, k_32, k_36, k_48, k_57, k_59, k_63, k_74, k_75, k_84, k_90, k_97, k_99, k_100, k_122, k_200, k_255, k_420, k_448, k_720, k_800, k_999, k_bit, k_shl, fa_and, nI_add, bl_1, bl_0, bl_n1, bl_n0, bl_i1, nI_lt0, nI_0le, nI_eq0, nI_eqT, nI_leI, nI_ltI, nI_eq, Nat.not_le, Nat.not_lt, Bool.not_eq_true, Bool.not_eq_false, not_true_eq_false, not_false_eq_true, Decidable.not_not] at cq
        omega
    | succ j ih =>
      intro k h x3 x4 hk hz hv
      have hk3 : k < 3 := by omega
      have hbl := bst_lt (c := cnT D MA L SN C) (n := D 1) hcn k
      repeat (first | refine g_px rfl rfl rfl ?_ | refine g_get hv 0 rfl rfl rfl rfl ?_ | refine g_get hv 1 rfl rfl rfl rfl ?_)
      refine g_ic rfl (fun cq => ?_) (fun cq => ?_)
      · simp (disch := omega) only [mj_cp, k_6, k_7, k_8, k_9, k_10, k_12, k_15, k_16, k_18, k_20, k_24, k_25, k_26, k_27, k_28, k_32, k_36, k_48, k_57, k_59, k_63, k_74, k_75, k_84, k_90, k_97, k_99, k_100, k_122, k_200, k_255, k_420, k_448, k_720, k_800, k_999, k_bit, k_shl, fa_and, nI_add, bl_1, bl_0, bl_n1, bl_n0, bl_i1, nI_lt0, nI_0le, nI_eq0, nI_eqT, nI_leI, nI_ltI, nI_eq, Nat.not_le, Nat.not_lt, Bool.not_eq_true, Bool.not_eq_false, not_true_eq_false, not_false_eq_true, Decidable.not_not] at cq
        omega
      · repeat (first | refine g_px rfl rfl rfl ?_ | refine g_get hv 0 rfl rfl rfl rfl ?_)
        refine g_if rfl (fun cq => ?_) (fun cq => ?_)
        · have cq : nI (ftT D MA L SN C) ≤ nI 0 := cq
          rw [nI_leI (by omega) (by decide)] at cq
          have hk0 : k = 0 := hz (by omega)
          subst hk0
          repeat (first | refine g_px rfl rfl rfl ?_)
          subst hT
          have h0' : ¬ 0 < ftT D MA L SN C := by omega
          refine g_iret hv rfl rfl rfl rfl ⟨by rw [if_neg h0']; rfl, tk', st', r', g', f', by rw [if_neg h0']; rfl⟩
        · have cq : ¬ nI (ftT D MA L SN C) ≤ nI 0 := cq
          rw [nI_leI (by omega) (by decide)] at cq
          have h0' : 0 < ftT D MA L SN C := by omega
          have l2 : ∀ j m h, m + j = D 1 → mj_Vw h0 (wf (wg (mo th tr wh (some q) rd F wd ac im (nI L) tk' st' sh ru (nI (ftT D MA L SN C)) (nI (atT D MA L SN C)) (akL (cnT D MA L SN C) (D 1) k) sd) q D hi er se (MA 1) (MA 3) (MA 4) V r' SN g' f') q (MA 5) (c18 (cnT D MA L SN C))) h → mj_go sta (mj_Cl sta (d + 4)) m_X10_toAsk T 38 [some (.ref 151), some (.int (snd (bst (cnT D MA L SN C) (D 1) k).1)), some (.int (nI k)), some (.int (nI (mst (cnT D MA L SN C k) m))), some (.int (nI m))] [] h := by
            intro j
            induction j with
            | zero =>
              intro m h hm hv
              have hm : m = D 1 := by omega
              subst hm
              have hml := mst_lt (hcn k) (D 1)
              have tk2 : ((bst (cnT D MA L SN C) (D 1) k).1 = none ∨ mst (cnT D MA L SN C k) (D 1) < (bst (cnT D MA L SN C) (D 1) k).2) → mj_go sta (mj_Cl sta (d + 4)) m_X10_toAsk T 102 [some (.ref 151), some (.int (snd (bst (cnT D MA L SN C) (D 1) k).1)), some (.int (nI k)), some (.int (nI (mst (cnT D MA L SN C k) (D 1)))), some (.int (nI (D 1)))] [] h := by
                intro hc
                have eb : bst (cnT D MA L SN C) (D 1) (k + 1) = (some k, mst (cnT D MA L SN C k) (D 1)) := by rw [bst, if_pos hc]
                refine g_run 4 rfl ?_
                refine g_put hv 0 rfl rfl rfl rfl rfl rfl (fun h hv => ?_)
                refine g_run 2 rfl ?_
                have hnx := ih (k + 1) h (some (.int (nI (mst (cnT D MA L SN C k) (D 1))))) (some (.int (nI (D 1)))) (by omega) (by omega)
                unfold akL at hnx
                rw [eb, nI_succ] at hnx
                exact hnx hv
              have sk2 : ¬ ((bst (cnT D MA L SN C) (D 1) k).1 = none ∨ mst (cnT D MA L SN C k) (D 1) < (bst (cnT D MA L SN C) (D 1) k).2) → mj_go sta (mj_Cl sta (d + 4)) m_X10_toAsk T 109 [some (.ref 151), some (.int (snd (bst (cnT D MA L SN C) (D 1) k).1)), some (.int (nI k)), some (.int (nI (mst (cnT D MA L SN C k) (D 1)))), some (.int (nI (D 1)))] [] h := by
                intro hc
                have eb : bst (cnT D MA L SN C) (D 1) (k + 1) = bst (cnT D MA L SN C) (D 1) k := by rw [bst, if_neg hc]
                refine g_run 2 rfl ?_
                have hnx := ih (k + 1) h (some (.int (nI (mst (cnT D MA L SN C k) (D 1))))) (some (.int (nI (D 1)))) (by omega) (by omega)
                unfold akL at hnx
                rw [eb, nI_succ] at hnx
                exact hnx hv
              repeat (first | refine g_px rfl rfl rfl ?_ | refine g_get hv 0 rfl rfl rfl rfl ?_ | refine g_get hv 1 rfl rfl rfl rfl ?_)
              refine g_ic rfl (fun cq => ?_) (fun cq => ?_)
              · repeat (first | refine g_px rfl rfl rfl ?_)
                refine g_ic rfl (fun cq => ?_) (fun cq => ?_)
                · have cq : snd (bst (cnT D MA L SN C) (D 1) k).1 = (Int8.ofInt (-2)).toInt32 := cq
                  rw [snd_n2 (fun q hq => by have := hbl.2 q hq; omega)] at cq
                  exact tk2 (Or.inl cq)
                · have cq : ¬ snd (bst (cnT D MA L SN C) (D 1) k).1 = (Int8.ofInt (-2)).toInt32 := cq
                  rw [snd_n2 (fun q hq => by have := hbl.2 q hq; omega)] at cq
                  have hno := cq
                  have ea : akL (cnT D MA L SN C) (D 1) k = nI (bst (cnT D MA L SN C) (D 1) k).2 := by
                    unfold akL
                    cases e : (bst (cnT D MA L SN C) (D 1) k).1 with
                    | none => exact absurd e hno
                    | some x => rfl
                  repeat (first | refine g_px rfl rfl rfl ?_ | refine g_get hv 0 rfl rfl rfl rfl ?_)
                  rw [ea]
                  refine g_ic rfl (fun cq => ?_) (fun cq => ?_)
                  · have cq : nI (mst (cnT D MA L SN C k) (D 1)) < nI (bst (cnT D MA L SN C) (D 1) k).2 := cq
                    rw [nI_ltI (by omega) (by omega)] at cq
                    exact tk2 (Or.inr cq)
                  · have cq : ¬ nI (mst (cnT D MA L SN C k) (D 1)) < nI (bst (cnT D MA L SN C) (D 1) k).2 := cq
                    rw [nI_ltI (by omega) (by omega)] at cq
                    refine g_run 1 rfl ?_
                    exact sk2 (fun z => z.elim hno (fun z => cq z))
              · simp (disch := omega) only [mj_cp, k_6, k_7, k_8, k_9, k_10, k_12, k_15, k_16, k_18, k_20, k_24, k_25, k_26, k_27, k_28, k_32, k_36, k_48, k_57, k_59, k_63, k_74, k_75, k_84, k_90, k_97, k_99, k_100, k_122, k_200, k_255, k_420, k_448, k_720, k_800, k_999, k_bit, k_shl, fa_and, nI_add, bl_1, bl_0, bl_n1, bl_n0, bl_i1, nI_lt0, nI_0le, nI_eq0, nI_eqT, nI_leI, nI_ltI, nI_eq, Nat.not_le, Nat.not_lt, Bool.not_eq_true, Bool.not_eq_false, not_true_eq_false, not_false_eq_true, Decidable.not_not] at cq
                omega
            | succ j ih2 =>
              intro m h hm hv
              have hml := mst_lt (hcn k) m
              have hckm := hcn k m
              have ec : c18 (cnT D MA L SN C) (6 * k + m) = cnT D MA L SN C k m := by
                unfold c18
                rw [show (6 * k + m) / 6 = k by omega, show (6 * k + m) % 6 = m by omega]
              have hnx := ih2 (m + 1) h (by omega) hv
              rw [nI_succ, mst] at hnx
              repeat (first | refine g_px rfl rfl rfl ?_ | refine g_get hv 0 rfl rfl rfl rfl ?_ | refine g_get hv 1 rfl rfl rfl rfl ?_)
              refine g_ic rfl (fun cq => ?_) (fun cq => ?_)
              · simp (disch := omega) only [mj_cp, k_6, k_7, k_8, k_9, k_10, k_12, k_15, k_16, k_18, k_20, k_24, k_25, k_26, k_27, k_28, k_32, k_36, k_48, k_57, k_59, k_63, k_74, k_75, k_84, k_90, k_97, k_99, k_100, k_122, k_200, k_255, k_420, k_448, k_720, k_800, k_999, k_bit, k_shl, fa_and, nI_add, bl_1, bl_0, bl_n1, bl_n0, bl_i1, nI_lt0, nI_0le, nI_eq0, nI_eqT, nI_leI, nI_ltI, nI_eq, Nat.not_le, Nat.not_lt, Bool.not_eq_true, Bool.not_eq_false, not_true_eq_false, not_false_eq_true, Decidable.not_not] at cq
                omega
              · repeat (first | refine g_px rfl rfl rfl ?_ | refine g_get hv 0 rfl rfl rfl rfl ?_)
                rw [k_6, pk_mul, nI_add]
                refine g_nL (L := 18) hv 11 (k := 6 * k + m) (by omega) (by decide) rfl rfl ?_
                rw [ec]
                repeat (first | refine g_px rfl rfl rfl ?_)
                refine g_ic rfl (fun cq => ?_) (fun cq => ?_)
                · have cq : nI (cnT D MA L SN C k m) ≤ nI (mst (cnT D MA L SN C k) m) := cq
                  rw [nI_leI (by omega) (by omega)] at cq
                  rw [Nat.max_eq_left cq] at hnx
                  refine g_run 2 rfl ?_
                  exact hnx
                · have cq : ¬ nI (cnT D MA L SN C k m) ≤ nI (mst (cnT D MA L SN C k) m) := cq
                  rw [nI_leI (by omega) (by omega)] at cq
                  rw [Nat.max_eq_right (by omega)] at hnx
                  repeat (first | refine g_px rfl rfl rfl ?_ | refine g_get hv 0 rfl rfl rfl rfl ?_)
                  rw [k_6, pk_mul, nI_add]
                  refine g_nL (L := 18) hv 11 (k := 6 * k + m) (by omega) (by decide) rfl rfl ?_
                  rw [ec]
                  refine g_run 3 rfl ?_
                  exact hnx
          refine g_run 4 rfl ?_
          exact l2 (D 1) 0 h (by omega) hv
  refine g_run 4 rfl ?_
  refine g_put hv 0 rfl rfl rfl rfl rfl rfl (fun h hv => ?_)
  refine g_run 2 rfl ?_
  exact loop (D 8) 0 h none none (by omega) (fun _ => rfl) hv
theorem s_Mask (L : Nat) (SN C : Nat → Nat) (hV : vN V L SN C) (hG : okG D MA SN C L) (h8 : D 8 ≤ 3) (hM5 : ∀ k, k < D 8 → MA 5 k < D 1) : mj_Sx sta (d + 6) 249 [.ref 151] (wf (wg (mo th tr wh (some q) rd F wd ac im lw tk st sh ru rz aw al sd) q D hi er se (MA 1) (MA 3) (MA 4) V r sn g f) q (MA 5) c0) (fun v w => v = some (.int (snd (if 0 < ftT D MA L SN C then (bst (cnT D MA L SN C) (D 1) (D 8)).1 else none))) ∧ ∃ lw tk st rz aw al r sn g f c, w = wf (wg (mo 0 0 (-1) (some q) rd F wd ac im lw tk st sh ru rz aw al sd) q D hi er se (MA 1) (MA 3) (MA 4) V r sn g f) q (MA 5) c) := by
  refine mj_Sx.mk m_X10_ask (by decide) n_X10_ask rfl (fun h0 hv => ?_)
  generalize hT : mj_rx m_X10_ask h0 _ _ = T
  repeat (first | refine g_px rfl rfl rfl ?_)
  refine g_put hv 0 rfl rfl rfl rfl rfl rfl (fun h hv => ?_)
  have hv : mj_Vw h0 (wf (wg (mo 0 tr wh (some q) rd F wd ac im lw tk st sh ru rz aw al sd) q D hi er se (MA 1) (MA 3) (MA 4) V r sn g f) q (MA 5) c0) h := hv
  repeat (first | refine g_px rfl rfl rfl ?_ | refine g_get hv 0 rfl rfl rfl rfl ?_)
  refine g_callV hv [0, 1, 2, 3, 4, 5, 6, 7, 8, 9, 10, 11] 0 rfl rfl rfl rfl rfl rfl rfl rfl (by decide) (s_MtoAsk sta d 0 tr wh q rd F wd ac im lw tk st sh ru rz aw al sd D hi er se MA V r sn g f c0 L SN C hV hG h8 hM5) (fun v w' h hp hk2 hv => ?_)
  obtain ⟨rfl, tk', st', r', g', f', rfl⟩ := hp
  have hv : mj_Vw h0 (wf (wg (mo 0 tr wh (some q) rd F wd ac im (nI L) tk' st' sh ru (nI (ftT D MA L SN C)) (nI (atT D MA L SN C)) (if 0 < ftT D MA L SN C then akL (cnT D MA L SN C) (D 1) (D 8) else -2) sd) q D hi er se (MA 1) (MA 3) (MA 4) V r' SN g' f') q (MA 5) (c18 (cnT D MA L SN C))) h := hv
  refine g_callV hv [0] 0 rfl rfl rfl rfl rfl rfl rfl rfl (by decide) (s_Mgood sta (d + 4) 0 tr wh (some q) rd F wd ac im (nI L) tk' st' sh ru (nI (ftT D MA L SN C)) (nI (atT D MA L SN C)) (if 0 < ftT D MA L SN C then akL (cnT D MA L SN C) (D 1) (D 8) else -2) sd _) (fun v w' h hp hk2 hv => ?_)
  obtain ⟨rfl, rfl⟩ := hp
  subst hT
  exact g_iret hv rfl rfl rfl rfl ⟨rfl, _, _, _, _, _, _, _, _, _, _, _, rfl⟩
theorem s_MaskLeaves (L : Nat) (SN C : Nat → Nat) (hV : vN V L SN C) (hG : okG D MA SN C L) (h8 : D 8 ≤ 3) (hM5 : ∀ k, k < D 8 → MA 5 k < D 1) : mj_Sx sta (d + 6) 250 [.ref 151] (wf (wg (mo th tr wh (some q) rd F wd ac im lw tk st sh ru rz aw al sd) q D hi er se (MA 1) (MA 3) (MA 4) V r sn g f) q (MA 5) c0) (fun v w => v = some (.int (if 0 < ftT D MA L SN C then akL (cnT D MA L SN C) (D 1) (D 8) else -2)) ∧ ∃ lw tk st rz aw al r sn g f c, w = wf (wg (mo 0 0 (-1) (some q) rd F wd ac im lw tk st sh ru rz aw al sd) q D hi er se (MA 1) (MA 3) (MA 4) V r sn g f) q (MA 5) c) := by
  refine mj_Sx.mk m_X10_askLeaves (by decide) n_X10_askLeaves rfl (fun h0 hv => ?_)
  generalize hT : mj_rx m_X10_askLeaves h0 _ _ = T
  repeat (first | refine g_px rfl rfl rfl ?_)
  refine g_put hv 0 rfl rfl rfl rfl rfl rfl (fun h hv => ?_)
  have hv : mj_Vw h0 (wf (wg (mo 0 tr wh (some q) rd F wd ac im lw tk st sh ru rz aw al sd) q D hi er se (MA 1) (MA 3) (MA 4) V r sn g f) q (MA 5) c0) h := hv
  repeat (first | refine g_px rfl rfl rfl ?_ | refine g_get hv 0 rfl rfl rfl rfl ?_)
  refine g_callV hv [0, 1, 2, 3, 4, 5, 6, 7, 8, 9, 10, 11] 0 rfl rfl rfl rfl rfl rfl rfl rfl (by decide) (s_MtoAsk sta d 0 tr wh q rd F wd ac im lw tk st sh ru rz aw al sd D hi er se MA V r sn g f c0 L SN C hV hG h8 hM5) (fun v w' h hp hk2 hv => ?_)
  obtain ⟨rfl, tk', st', r', g', f', rfl⟩ := hp
  have hv : mj_Vw h0 (wf (wg (mo 0 tr wh (some q) rd F wd ac im (nI L) tk' st' sh ru (nI (ftT D MA L SN C)) (nI (atT D MA L SN C)) (if 0 < ftT D MA L SN C then akL (cnT D MA L SN C) (D 1) (D 8) else -2) sd) q D hi er se (MA 1) (MA 3) (MA 4) V r' SN g' f') q (MA 5) (c18 (cnT D MA L SN C))) h := hv
  repeat (first | refine g_px rfl rfl rfl ?_ | refine g_get hv 0 rfl rfl rfl rfl ?_)
  refine g_callV hv [0] 0 rfl rfl rfl rfl rfl rfl rfl rfl (by decide) (s_Mgood sta (d + 4) 0 tr wh (some q) rd F wd ac im (nI L) tk' st' sh ru (nI (ftT D MA L SN C)) (nI (atT D MA L SN C)) (if 0 < ftT D MA L SN C then akL (cnT D MA L SN C) (D 1) (D 8) else -2) sd _) (fun v w' h hp hk2 hv => ?_)
  obtain ⟨rfl, rfl⟩ := hp
  subst hT
  exact g_iret hv rfl rfl rfl rfl ⟨rfl, _, _, _, _, _, _, _, _, _, _, _, rfl⟩
end Mw
