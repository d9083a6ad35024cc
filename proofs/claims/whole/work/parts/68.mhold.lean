/-! the reference: hold -/
def hVm (V : Nat → Int32) (r C2 : Nat → Nat) (Fj : Nat → Option Nat) (m : Nat) : Nat → Int32 := fun y => if 12 ≤ y ∧ y < 12 + m then nI (r (y - 12)) else if 18 ≤ y ∧ y < 18 + m then snd (Fj (y - 18)) else if 6 ≤ y ∧ y < 6 + m then nI (C2 (y - 6)) else V y
theorem hVm_0 {V : Nat → Int32} {r C2 : Nat → Nat} {Fj : Nat → Option Nat} : hVm V r C2 Fj 0 = V := by
  funext y
  unfold hVm
  rw [if_neg (by omega), if_neg (by omega), if_neg (by omega)]
theorem hVm_s {V : Nat → Int32} {r C2 : Nat → Nat} {Fj : Nat → Option Nat} {m : Nat} (hm : m < 6) : upd (upd (upd (hVm V r C2 Fj m) (12 + m) (nI (r m))) (18 + m) (snd (Fj m))) (6 + m) (nI (C2 m)) = hVm V r C2 Fj (m + 1) := by
  funext y
  unfold upd hVm
  by_cases h1 : y = 6 + m
  · rw [if_pos h1, if_neg (by omega), if_neg (by omega), if_pos (by omega), show y - 6 = m by omega]
  · rw [if_neg h1]
    by_cases h2 : y = 18 + m
    · rw [if_pos h2, if_neg (by omega), if_pos (by omega), show y - 18 = m by omega]
    · rw [if_neg h2]
      by_cases h3 : y = 12 + m
      · rw [if_pos h3, if_pos (by omega), show y - 12 = m by omega]
      · rw [if_neg h3]
        by_cases a1 : 12 ≤ y ∧ y < 12 + m
        · rw [if_pos a1, if_pos (by omega)]
        · rw [if_neg a1, if_neg (c := 12 ≤ y ∧ y < 12 + (m + 1)) (by omega)]
          by_cases a2 : 18 ≤ y ∧ y < 18 + m
          · rw [if_pos a2, if_pos (by omega)]
          · rw [if_neg a2, if_neg (c := 18 ≤ y ∧ y < 18 + (m + 1)) (by omega)]
            by_cases a3 : 6 ≤ y ∧ y < 6 + m
            · rw [if_pos a3, if_pos (by omega)]
            · rw [if_neg a3, if_neg (by omega)]
theorem upd_self {f : Nat → Int32} {k : Nat} {x : Int32} (h : f k = x) : upd f k x = f := by
  funext y
  unfold upd
  by_cases e : y = k
  · rw [if_pos e, e, h]
  · rw [if_neg e]
theorem upd_at {f : Nat → Int32} {k y : Nat} {x : Int32} (h : y ≠ k) : upd f k x y = f y := if_neg h
theorem hVm_at {V : Nat → Int32} {r C2 : Nat → Nat} {Fj : Nat → Option Nat} {m y : Nat} (h1 : ¬ (12 ≤ y ∧ y < 12 + m)) (h2 : ¬ (18 ≤ y ∧ y < 18 + m)) (h3 : ¬ (6 ≤ y ∧ y < 6 + m)) : hVm V r C2 Fj m y = V y := by
  unfold hVm
  rw [if_neg h1, if_neg h2, if_neg h3]
def hVe (n : Nat) (V : Nat → Int32) (r C2 : Nat → Nat) (Fj : Nat → Option Nat) (T s' : Nat) : Nat → Int32 := upd (upd (upd (hVm V r C2 Fj n) 24 (nI T)) 27 (nI s')) 26 (V 26 + 1)
section Mhd
variable (sta : mj_S) (d : Nat) (th tr wh : Int32) (q : Nat) (dr rd : Option Nat) (F : Nat → Int32) (wd : Int64) (ac im lw tk st : Int32) (sh ru : Int64) (rz aw al sd : Int32) (D : Nat → Nat) (hi er se : Int32) (MA : Nat → Nat → Nat) (V P : Nat → Int32) (r sn : Nat → Nat) (g f : Nat → Option Nat)
theorem s_Mhold (a s L : Nat) (SN C : Nat → Nat) (ha : a ≤ 16) (hs : s < 65537) (h27 : V 27 = nI s) (hV : vN V L SN C) (hG : okG D MA SN C L) : mj_Sx sta (d + 4) 270 [.ref 151] (wg (mo th tr wh (some q) rd F wd (nI a) im lw tk st sh ru rz aw al sd) q D hi er se (MA 1) (MA 3) (MA 4) V r sn g f ++ [(154, aI 448 P)]) (fun v w => v = some (.int (nI (gmg (qS D MA L SN C (dR (D 1) s)) (qT D MA L SN (dR (D 1) s)) (qG D MA L SN C (dR (D 1) s)) (D 1)))) ∧ ∃ lw tk st sd r sn g f, w = wg (mo 0 0 (-1) (some q) rd F wd (nI (min (a + 1) 16)) im lw tk st sh ru rz aw al sd) q D hi er se (MA 1) (MA 3) (MA 4) (hVe (D 1) V (dR (D 1) s) (cpy C (MA 3) (qG D MA L SN C (dR (D 1) s))) (fun m => sdr (qG D MA L SN C (dR (D 1) s)) m (D 1) 0) (qT D MA L SN (dR (D 1) s)) (dS (D 1) s)) r sn g f ++ [(154, aI 448 (remP a V P))]) := by
  refine mj_Sx.mk m_X10_hold (by decide) n_X10_hold rfl (fun h0 hv => ?_)
  generalize hT : mj_rx m_X10_hold h0 _ _ = T
  have hG2 := hG
  obtain ⟨hn, h1, ht, hL, hW, hA, hK, hsn, hC⟩ := hG2
  have hpr := dR_prm (n := D 1) (s := s)
  have hT6 : (qT D MA L SN (dR (D 1) s)) < 64 := cms_lt' hn hpr (D 1) (Nat.le_refl _)
  have hS6 : (qS D MA L SN C (dR (D 1) s)) < 64 := rns_lt hn _
  have hGok := qG_ok (D := D) (DA := MA) (lw := L) (sn := SN) (C := C) (r := dR (D 1) s) hn
  have hpay := fun m y => qG_pay (D := D) (DA := MA) (lw := L) (sn := SN) (C := C) (r := dR (D 1) s) (m := m) (q := y)
  repeat (first | refine g_px rfl rfl rfl ?_)
  refine g_put hv 0 rfl rfl rfl rfl rfl rfl (fun h hv => ?_)
  have hv : mj_Vw h0 (wg (mo 0 tr wh (some q) rd F wd (nI a) im lw tk st sh ru rz aw al sd) q D hi er se (MA 1) (MA 3) (MA 4) V r sn g f ++ [(154, aI 448 P)]) h := hv
  repeat (first | refine g_px rfl rfl rfl ?_ | refine g_get hv 0 rfl rfl rfl rfl ?_)
  refine g_callV hv [0, 5, 10] 0 rfl rfl rfl rfl rfl rfl rfl rfl (by decide) (s_Mremembers sta (d + 2) 0 tr wh (some q) rd F wd im lw tk st sh ru rz aw al sd V P a ha) (fun v w' h hp hk2 hv => ?_)
  obtain ⟨rfl, rfl⟩ := hp
  generalize min (a + 1) 16 = a' at *
  generalize remP a V P = P' at *
  have hv : mj_Vw h0 (wg (mo 0 tr wh (some q) rd F wd (nI a') im lw tk st sh ru rz aw al sd) q D hi er se (MA 1) (MA 3) (MA 4) V r sn g f ++ [(154, aI 448 P')]) h := hv
  repeat (first | refine g_px rfl rfl rfl ?_)
  refine g_callV hv [0, 5, 7] 0 rfl rfl rfl rfl rfl rfl rfl rfl (by decide) (s_MasNow sta (d + 2) 0 tr wh q rd F wd (nI a') im lw tk st sh ru rz aw al sd V L SN sn hV.1 hV.2.1) (fun v w' h hp hk2 hv => ?_)
  obtain ⟨rfl, rfl⟩ := hp
  have hv : mj_Vw h0 (wg (mo 0 tr wh (some q) rd F wd (nI a') im (nI L) tk st sh ru rz aw al sd) q D hi er se (MA 1) (MA 3) (MA 4) V r SN g f ++ [(154, aI 448 P')]) h := hv
  repeat (first | refine g_px rfl rfl rfl ?_ | refine g_get hv 0 rfl rfl rfl rfl ?_)
  refine g_vI (L := 28) hv 5 (k := 27) (by decide) (by decide) rfl rfl ?_
  rw [h27]
  refine g_put hv 0 rfl rfl rfl rfl rfl rfl (fun h hv => ?_)
  have hv : mj_Vw h0 (wg (mo 0 tr wh (some q) rd F wd (nI a') im (nI L) tk st sh ru rz aw al (nI s)) q D hi er se (MA 1) (MA 3) (MA 4) V r SN g f ++ [(154, aI 448 P')]) h := hv
  repeat (first | refine g_px rfl rfl rfl ?_)
  refine g_callV hv [0, 1, 6] 0 rfl rfl rfl rfl rfl rfl rfl rfl (by decide) (s_MdrawsRow sta (d + 1) 0 tr wh q rd F wd (nI a') im (nI L) tk st sh ru rz aw al D hi er se r s hs hn) (fun v w' h hp hk2 hv => ?_)
  obtain ⟨rfl, rfl⟩ := hp
  have hv : mj_Vw h0 (wg (mo 0 tr wh (some q) rd F wd (nI a') im (nI L) tk st sh ru rz aw al (nI (dS (D 1) s))) q D hi er se (MA 1) (MA 3) (MA 4) V (dR (D 1) s) SN g f ++ [(154, aI 448 P')]) h := hv
  repeat (first | refine g_px rfl rfl rfl ?_)
  refine g_callV hv [0, 1, 2, 3, 4, 5, 6, 7, 8, 9] 0 rfl rfl rfl rfl rfl rfl rfl rfl (by decide) (s_Mplays sta d 0 tr wh q rd F wd (nI a') im tk st sh ru rz aw al (nI (dS (D 1) s)) D hi er se (MA 1) (MA 3) (MA 4) V (dR (D 1) s) SN g f L C hV.2.2 hpr hn ht hL hW hA hK hsn hC) (fun v w' h hp hk2 hv => ?_)
  obtain ⟨rfl, rfl⟩ := hp
  have e : rnf (D 1) (rT (D 1) (D 0) L SN (MA 4) (dR (D 1) s)) (dR (D 1) s) SN (MA 1) (MA 3) C (D 1) = (fun m => sdr (qG D MA L SN C (dR (D 1) s)) m (D 1) 0) := funext fun m => rnf_sdr (MA := MA) (lw := L) (sn := SN) (C := C) hpr m
  rw [e] at hv
  have hF6 : ∀ m y, sdr (qG D MA L SN C (dR (D 1) s)) m (D 1) 0 = some y → y < 6 := fun m y e => by have := sdr_at e; omega
  have hv : mj_Vw h0 (wg (mo 0 tr wh (some q) rd F wd (nI a') im (nI L) (nI (qT D MA L SN (dR (D 1) s))) (nI (qS D MA L SN C (dR (D 1) s))) sh ru rz aw al (nI (dS (D 1) s))) q D hi er se (MA 1) (MA 3) (MA 4) V (dR (D 1) s) SN (mix (D 1) g (qG D MA L SN C (dR (D 1) s))) (mix (D 1) f (fun m => sdr (qG D MA L SN C (dR (D 1) s)) m (D 1) 0)) ++ [(154, aI 448 P')]) h := hv
  generalize hTe : (qT D MA L SN (dR (D 1) s)) = Tj at *
  generalize hSe : (qS D MA L SN C (dR (D 1) s)) = Sj at *
  generalize hGe : (qG D MA L SN C (dR (D 1) s)) = Gj at *
  generalize hRe : dR (D 1) s = rj at *
  generalize hse : dS (D 1) s = s' at *
  have hGm : ∀ m x, m < D 1 → mix (D 1) g Gj m = some x → x < 6 := fun m x hm e => by
    rw [show mix (D 1) g Gj m = Gj m from if_pos hm] at e
    exact hGok m x e
  have loop : ∀ j k h, k + j = D 1 → mj_Vw h0 (wg (mo 0 tr wh (some q) rd F wd (nI a') im (nI L) (nI Tj) (nI Sj) sh ru rz aw al (nI s')) q D hi er se (MA 1) (MA 3) (MA 4) (hVm V rj (cpy C (MA 3) Gj) (fun m => sdr Gj m (D 1) 0) k) rj SN (mix (D 1) g Gj) (mix (D 1) f (fun m => sdr Gj m (D 1) 0)) ++ [(154, aI 448 P')]) h → mj_go sta (mj_Cl sta (d + 3)) m_X10_hold T 47 [some (.ref 151), some (.int (nI k))] [] h := by
    intro j
    induction j with
    | zero =>
      intro k h hk hv
      have hk : k = D 1 := by omega
      subst hk
      repeat (first | refine g_px rfl rfl rfl ?_ | refine g_get hv 0 rfl rfl rfl rfl ?_ | refine g_get hv 1 rfl rfl rfl rfl ?_)
      refine g_ic rfl (fun cq => ?_) (fun cq => ?_)
      · repeat (first | refine g_px rfl rfl rfl ?_ | refine g_get hv 0 rfl rfl rfl rfl ?_)
        refine g_vIs (L := 28) hv 5 (k := 24) (by decide) (by decide) rfl rfl (fun h hv => ?_)
        repeat (first | refine g_px rfl rfl rfl ?_ | refine g_get hv 0 rfl rfl rfl rfl ?_)
        refine g_vIs (L := 28) hv 5 (k := 27) (by decide) (by decide) rfl rfl (fun h hv => ?_)
        repeat (first | refine g_px rfl rfl rfl ?_ | refine g_get hv 0 rfl rfl rfl rfl ?_)
        refine g_vI (L := 28) hv 5 (k := 26) (by decide) (by decide) rfl rfl ?_
        rw [show upd (upd (hVm V rj (cpy C (MA 3) Gj) (fun m => sdr Gj m (D 1) 0) (D 1)) 24 (nI Tj)) 27 (nI s') 26 = V 26 by rw [upd_at (by decide), upd_at (by decide), hVm_at (by omega) (by omega) (by omega)]]
        refine g_run 2 rfl ?_
        refine g_vIs (L := 28) hv 5 (k := 26) (by decide) (by decide) rfl rfl (fun h hv => ?_)
        have hv : mj_Vw h0 (wg (mo 0 tr wh (some q) rd F wd (nI a') im (nI L) (nI Tj) (nI Sj) sh ru rz aw al (nI s')) q D hi er se (MA 1) (MA 3) (MA 4) (hVe (D 1) V rj (cpy C (MA 3) Gj) (fun m => sdr Gj m (D 1) 0) Tj s') rj SN (mix (D 1) g Gj) (mix (D 1) f (fun m => sdr Gj m (D 1) 0)) ++ [(154, aI 448 P')]) h := hv
        repeat (first | refine g_px rfl rfl rfl ?_)
        refine g_callV hv [0, 1, 8] 0 rfl rfl rfl rfl rfl rfl rfl rfl (by decide) (s_Mgoing sta (d + 1) 0 tr wh q rd F wd (nI a') im (nI L) sh ru rz aw al (nI s') D hi er se (mix (D 1) g Gj) Sj Tj hS6 hT6 hn hGm) (fun v w' h hp hk2 hv => ?_)
        obtain ⟨rfl, rfl⟩ := hp
        rw [gmg_mix (D 1) (Nat.le_refl _)]
        have hv : mj_Vw h0 (wg (mo 0 tr wh (some q) rd F wd (nI a') im (nI L) (nI Tj) (nI Sj) sh ru rz aw al (nI s')) q D hi er se (MA 1) (MA 3) (MA 4) (hVe (D 1) V rj (cpy C (MA 3) Gj) (fun m => sdr Gj m (D 1) 0) Tj s') rj SN (mix (D 1) g Gj) (mix (D 1) f (fun m => sdr Gj m (D 1) 0)) ++ [(154, aI 448 P')]) h := hv
        refine g_callV hv [0] 0 rfl rfl rfl rfl rfl rfl rfl rfl (by decide) (s_Mgood sta (d + 2) 0 tr wh (some q) rd F wd (nI a') im (nI L) (nI Tj) (nI Sj) sh ru rz aw al (nI s') _) (fun v w' h hp hk2 hv => ?_)
        obtain ⟨rfl, rfl⟩ := hp
        subst hT
        exact g_iret hv rfl rfl rfl rfl ⟨rfl, _, _, _, _, _, _, _, _, rfl⟩
      · simp (disch := omega) only [mj_cp, k_6, k_7, k_8, k_9, k_10, k_12, k_15, k_16, k_18, k_20, k_24, k_25, k_26, k_27, k_28, k_32, k_36, k_48, k_57, k_59, k_63, k_74, k_75, k_84, k_90, k_97, k_99, k_100, k_122, k_200, k_255, k_420, k_448, k_720, k_800, k_999, k_bit, k_shl, fa_and, nI_add, bl_1, bl_0, bl_n1, bl_n0, bl_i1, nI_lt0, nI_0le, nI_eq0, nI_eqT, nI_leI, nI_ltI, nI_eq, Nat.not_le, Nat.not_lt, Bool.not_eq_true, Bool.not_eq_false, not_true_eq_false, not_false_eq_true, Decidable.not_not] at cq
        omega
    | succ j ih =>
      intro k h hk hv
      have hk6 : k < 6 := by omega
      have hCk := hC k
      have hVk : V (6 + k) = nI (C k) := hV.2.2 k hk6
      have next : ∀ h, mj_Vw h0 (wg (mo 0 tr wh (some q) rd F wd (nI a') im (nI L) (nI Tj) (nI Sj) sh ru rz aw al (nI s')) q D hi er se (MA 1) (MA 3) (MA 4) (hVm V rj (cpy C (MA 3) Gj) (fun m => sdr Gj m (D 1) 0) (k + 1)) rj SN (mix (D 1) g Gj) (mix (D 1) f (fun m => sdr Gj m (D 1) 0)) ++ [(154, aI 448 P')]) h → mj_go sta (mj_Cl sta (d + 3)) m_X10_hold T 125 [some (.ref 151), some (.int (nI k))] [] h := by
        intro h hv
        refine g_run 2 rfl ?_
        have hnx := ih (k + 1) h (by omega) hv
        rw [nI_succ] at hnx
        exact hnx
      have hst := hVm_s (V := V) (r := rj) (C2 := cpy C (MA 3) Gj) (Fj := fun m => sdr Gj m (D 1) 0) hk6
      have hat : upd (upd (hVm V rj (cpy C (MA 3) Gj) (fun m => sdr Gj m (D 1) 0) k) (12 + k) (nI (rj k))) (18 + k) (snd (sdr Gj k (D 1) 0)) (6 + k) = nI (C k) := by
        rw [upd_at (by omega), upd_at (by omega), hVm_at (by omega) (by omega) (by omega), hVk]
      repeat (first | refine g_px rfl rfl rfl ?_ | refine g_get hv 0 rfl rfl rfl rfl ?_ | refine g_get hv 1 rfl rfl rfl rfl ?_)
      refine g_ic rfl (fun cq => ?_) (fun cq => ?_)
      · simp (disch := omega) only [mj_cp, k_6, k_7, k_8, k_9, k_10, k_12, k_15, k_16, k_18, k_20, k_24, k_25, k_26, k_27, k_28, k_32, k_36, k_48, k_57, k_59, k_63, k_74, k_75, k_84, k_90, k_97, k_99, k_100, k_122, k_200, k_255, k_420, k_448, k_720, k_800, k_999, k_bit, k_shl, fa_and, nI_add, bl_1, bl_0, bl_n1, bl_n0, bl_i1, nI_lt0, nI_0le, nI_eq0, nI_eqT, nI_leI, nI_ltI, nI_eq, Nat.not_le, Nat.not_lt, Bool.not_eq_true, Bool.not_eq_false, not_true_eq_false, not_false_eq_true, Decidable.not_not] at cq
        omega
      · repeat (first | refine g_px rfl rfl rfl ?_ | refine g_get hv 0 rfl rfl rfl rfl ?_)
        rw [show (Int8.ofInt 12).toInt32 + nI k = nI (12 + k) from nI_add 12 k]
        refine g_n6 hv 6 hk6 rfl rfl ?_
        refine g_vIs (L := 28) hv 5 (k := 12 + k) (by omega) (by decide) rfl rfl (fun h hv => ?_)
        repeat (first | refine g_px rfl rfl rfl ?_ | refine g_get hv 0 rfl rfl rfl rfl ?_)
        rw [show (Int8.ofInt 18).toInt32 + nI k = nI (18 + k) from nI_add 18 k]
        refine g_s6 hv 9 hk6 rfl rfl ?_
        rw [show mix (D 1) f (fun m => sdr Gj m (D 1) 0) k = sdr Gj k (D 1) 0 from if_pos (by omega)]
        refine g_vIs (L := 28) hv 5 (k := 18 + k) (by omega) (by decide) rfl rfl (fun h hv => ?_)
        have hv : mj_Vw h0 (wg (mo 0 tr wh (some q) rd F wd (nI a') im (nI L) (nI Tj) (nI Sj) sh ru rz aw al (nI s')) q D hi er se (MA 1) (MA 3) (MA 4) (upd (upd (hVm V rj (cpy C (MA 3) Gj) (fun m => sdr Gj m (D 1) 0) k) (12 + k) (nI (rj k))) (18 + k) (snd (sdr Gj k (D 1) 0))) rj SN (mix (D 1) g Gj) (mix (D 1) f (fun m => sdr Gj m (D 1) 0)) ++ [(154, aI 448 P')]) h := hv
        repeat (first | refine g_px rfl rfl rfl ?_ | refine g_get hv 0 rfl rfl rfl rfl ?_)
        refine g_s6 hv 8 hk6 rfl rfl ?_
        rw [show mix (D 1) g Gj k = Gj k from if_pos (by omega)]
        repeat (first | refine g_px rfl rfl rfl ?_)
        cases eg : Gj k with
        | none =>
          refine g_ic rfl (fun cq => ?_) (fun cq => absurd rfl cq)
          refine next h ?_
          have hc : cpy C (MA 3) Gj k = C k := by rw [cpy, eg]
          rw [hc, upd_self hat] at hst
          rw [← hst]
          exact hv
        | some y =>
          have hy := hGok k y eg
          have hle := hpay k y eg
          refine g_ic rfl (fun cq => absurd cq (fun z => by have := (snd_n2 (o := some y) (fun x hx => by cases hx; omega)).mp z; cases this)) (fun cq => ?_)
          repeat (first | refine g_px rfl rfl rfl ?_ | refine g_get hv 0 rfl rfl rfl rfl ?_)
          rw [show (Int8.ofInt 6).toInt32 + nI k = nI (6 + k) from nI_add 6 k]
          refine g_vI (L := 28) hv 5 (k := 6 + k) (by omega) (by decide) rfl rfl ?_
          rw [hat]
          repeat (first | refine g_px rfl rfl rfl ?_ | refine g_get hv 0 rfl rfl rfl rfl ?_ | refine g_get hv 1 rfl rfl rfl rfl ?_)
          refine g_s6 hv 8 hk6 rfl rfl ?_
          rw [show mix (D 1) g Gj k = some y from (if_pos (show k < D 1 by omega)).trans eg]
          refine g_n6 hv 3 hy rfl rfl ?_
          refine g_run 1 rfl ?_
          rw [show nI (C k) - nI (MA 3 y) = nI (cpy C (MA 3) Gj k) by rw [cpy, eg]; exact pk_sub hle.1]
          refine g_vIs (L := 28) hv 5 (k := 6 + k) (by omega) (by decide) rfl rfl (fun h hv => ?_)
          refine next h ?_
          rw [← hst]
          exact hv
  refine g_run 2 rfl ?_
  exact loop (D 1) 0 h (by omega) (by rw [hVm_0]; exact hv)
end Mhd
