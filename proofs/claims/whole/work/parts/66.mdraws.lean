/-! the reference: drafts by draws -/
theorem prm_swp {n : Nat} {r : Nat → Nat} {i j : Nat} (h : prm n r) (hi : i < n) (hj : j < n) : prm n (swp r i j) := by
  have e : ∀ x, swp r i j x = r (if x = j then i else if x = i then j else x) := fun x => by
    unfold swp va_up
    by_cases h1 : x = j
    · rw [if_pos h1, if_pos h1]
    · rw [if_neg h1, if_neg h1]
      by_cases h2 : x = i
      · rw [if_pos h2, if_pos h2]
      · rw [if_neg h2, if_neg h2]
  have hb : ∀ x, x < n → (if x = j then i else if x = i then j else x) < n := fun x hx => by
    split
    · exact hi
    · split
      · exact hj
      · exact hx
  refine ⟨fun x hx => by rw [e]; exact h.1 _ (hb x hx), fun x y hx hy hxy => ?_⟩
  rw [e, e]
  refine h.2 _ _ (hb x hx) (hb y hy) ?_
  by_cases a1 : x = j
  · rw [if_pos a1]
    by_cases a2 : y = j
    · omega
    · rw [if_neg a2]
      by_cases a3 : y = i
      · rw [if_pos a3]; omega
      · rw [if_neg a3]; omega
  · rw [if_neg a1]
    by_cases b1 : x = i
    · rw [if_pos b1]
      by_cases a2 : y = j
      · rw [if_pos a2]; omega
      · rw [if_neg a2]
        by_cases a3 : y = i
        · omega
        · rw [if_neg a3]; omega
    · rw [if_neg b1]
      by_cases a2 : y = j
      · rw [if_pos a2]; omega
      · rw [if_neg a2]
        by_cases a3 : y = i
        · rw [if_pos a3]; omega
        · rw [if_neg a3]; exact hxy
theorem drw_prm {n : Nat} : ∀ i s (r : Nat → Nat), i ≤ n → prm n r → prm n (drw i s r).2
  | 0, s, r, _, h => h
  | 1, s, r, _, h => h
  | i + 2, s, r, hi, h => by
    rw [drw]
    have := Nat.mod_lt (nsd s) (show 0 < i + 2 by omega)
    exact drw_prm (i + 1) _ _ (by omega) (prm_swp h (by omega) (by omega))
theorem dR_prm {n s : Nat} : prm n (dR n s) := drw_prm n s _ (Nat.le_refl _) ⟨fun i hi => hi, fun i j _ _ h => h⟩
section Mdr
variable (sta : mj_S) (d : Nat) (th tr wh : Int32) (q : Nat) (dr rd : Option Nat) (F : Nat → Int32) (wd : Int64) (ac im lw tk st : Int32) (sh ru : Int64) (rz aw al sd : Int32) (D : Nat → Nat) (hi er se : Int32) (r : Nat → Nat)
theorem s_MdrawsRow (s : Nat) (hs : s < 65537) (hn : D 1 ≤ 6) : mj_Sx sta (d + 2) 262 [.ref 151] [(mo th tr wh (some q) rd F wd ac im lw tk st sh ru rz aw al (nI s)), mdh q D hi er se, (156, an r)] (fun v w => v = none ∧ w = [(mo th tr wh (some q) rd F wd ac im lw tk st sh ru rz aw al (nI (dS (D 1) s))), mdh q D hi er se, (156, an (dR (D 1) s))]) := by
  refine mj_Sx.mk m_X10_drawsRow (by decide) n_X10_drawsRow rfl (fun h0 hv => ?_)
  generalize hT : mj_rx m_X10_drawsRow h0 _ _ = T
  have fin : ∀ i s' h r', i < 2 → (s', r') = drw (D 1) s (fun i => i) → mj_Vw h0 [(mo th tr wh (some q) rd F wd ac im lw tk st sh ru rz aw al (nI s')), mdh q D hi er se, (156, an r')] h → mj_go sta (mj_Cl sta (d + 1)) m_X10_drawsRow T 12 [some (.ref 151), some (.int (nI i))] [] h := by
    intro i s' h r' hi2 he hv
    have e1 : s' = dS (D 1) s := congrArg Prod.fst he
    have e2 : r' = dR (D 1) s := congrArg Prod.snd he
    subst e1; subst e2
    repeat (first | refine g_px rfl rfl rfl ?_)
    refine g_ic rfl (fun cq => ?_) (fun cq => ?_)
    · subst hT
      exact g_vret hv rfl rfl rfl ⟨rfl, rfl⟩
    · have cq : ¬ nI i ≤ nI 1 := cq
      rw [nI_leI (by omega) (by decide)] at cq
      omega
  have loop : ∀ i s' h r', i ≤ D 1 → s' < 65537 → drw i s' r' = drw (D 1) s (fun i => i) → mj_Vw h0 [(mo th tr wh (some q) rd F wd ac im lw tk st sh ru rz aw al (nI s')), mdh q D hi er se, (156, an r')] h → mj_go sta (mj_Cl sta (d + 1)) m_X10_drawsRow T 12 [some (.ref 151), some (.int (nI i))] [] h := by
    intro i
    induction i with
    | zero => intro s' h r' hi2 hs' he hv; exact fin 0 s' h r' (by omega) he hv
    | succ i ih =>
      intro s' h r' hi2 hs' he hv
      cases i with
      | zero => exact fin 1 s' h r' (by omega) he hv
      | succ i =>
        rw [drw] at he
        have hsl := nsd_lt s'
        have hml := Nat.mod_lt (nsd s') (show 0 < i + 2 by omega)
        repeat (first | refine g_px rfl rfl rfl ?_)
        refine g_ic rfl (fun cq => ?_) (fun cq => ?_)
        · have cq : nI (i + 1 + 1) ≤ nI 1 := cq
          rw [nI_leI (by omega) (by decide)] at cq
          omega
        · refine g_run 3 rfl ?_
          refine g_get hv 0 rfl rfl rfl rfl ?_
          refine g_run 5 rfl ?_
          refine g_lrem (fun z => absurd z (by decide)) rfl ?_
          rw [nI_l (by omega), show Int64.ofNat 75 * lN s' + Int64.ofNat 74 - (Int64.ofNat 75 * lN s' + Int64.ofNat 74) / Int64.ofNat 65537 * Int64.ofNat 65537 = lN (nsd s') by
            rw [show Int64.ofNat 75 = lN 75 from rfl, show Int64.ofNat 74 = lN 74 from rfl, show Int64.ofNat 65537 = lN 65537 from rfl, lN_mul, lN_add]
            exact pk_lRem (b := 65537) (by omega) (by decide) (by decide)]
          refine g_run 1 rfl ?_
          rw [lN_i]
          refine g_put hv 0 rfl rfl rfl rfl rfl rfl (fun h hv => ?_)
          refine g_run 2 rfl ?_
          refine g_get hv 0 rfl rfl rfl rfl ?_
          refine g_run 1 rfl ?_
          refine g_irem (nI_ne0 (by omega) (by omega)) rfl ?_
          rw [pk_rem (by omega) (by omega) (by omega)]
          refine g_run 3 rfl ?_
          rw [show nI (i + 1 + 1) - Int32.ofInt 1 = nI (i + 1) from nI_pred (i + 1)]
          have hv : mj_Vw h0 ([(mo th tr wh (some q) rd F wd ac im lw tk st sh ru rz aw al (nI (nsd s'))), mdh q D hi er se, (156, an r')]) h := hv
          refine g_callV hv [0, 2] 0 rfl rfl rfl rfl rfl rfl rfl rfl (by decide) (s_Mswaps sta d th tr wh (some q) rd F wd ac im lw tk st sh ru rz aw al (nI (nsd s')) r' (nsd s' % (i + 2)) (i + 1) (by omega) (by omega)) (fun v w' h hp hk2 hv => ?_)
          obtain ⟨rfl, rfl⟩ := hp
          have hv : mj_Vw h0 ([(mo th tr wh (some q) rd F wd ac im lw tk st sh ru rz aw al (nI (nsd s'))), mdh q D hi er se, (156, an (swp r' (nsd s' % (i + 2)) (i + 1)))]) h := hv
          refine g_run 2 rfl ?_
          have hnx := ih (nsd s') h _ (by omega) hsl he hv
          rw [show nI (i + 1 + 1) + Int32.ofInt (-1) = nI (i + 1) from nI_m1 (by omega)]
          exact hnx
  repeat (first | refine g_px rfl rfl rfl ?_)
  refine g_callV hv [0, 2] 0 rfl rfl rfl rfl rfl rfl rfl rfl (by decide) (s_MfirstRow sta d th tr wh (some q) rd F wd ac im lw tk st sh ru rz aw al (nI s) r) (fun v w' h hp hk2 hv => ?_)
  obtain ⟨rfl, rfl⟩ := hp
  have hv : mj_Vw h0 ([(mo th tr wh (some q) rd F wd ac im lw tk st sh ru rz aw al (nI s)), mdh q D hi er se, (156, an (fun i => i))]) h := hv
  refine g_run 1 rfl ?_
  refine g_get hv 0 rfl rfl rfl rfl ?_
  refine g_get hv 1 rfl rfl rfl rfl ?_
  refine g_run 1 rfl ?_
  exact loop (D 1) s h _ (Nat.le_refl _) hs rfl hv
theorem s_MrefusesDrafts0 (x y : Int32) : mj_Sx sta (d + 1) 263 [.ref 151, .int (bl false), .int x, .int y] [] (fun v w => v = some (.int 1) ∧ w = []) := by
  refine mj_Sx.mk m_X10_refusesDrafts (by decide) n_X10_refusesDrafts rfl (fun h0 hv => ?_)
  generalize hT : mj_rx m_X10_refusesDrafts h0 _ _ = T
  repeat (first | refine g_px rfl rfl rfl ?_)
  refine g_if rfl (fun cq => absurd cq (cpF (by decide))) (fun cq => ?_)
  repeat (first | refine g_px rfl rfl rfl ?_)
  subst hT
  exact g_iret hv rfl rfl rfl rfl ⟨rfl, rfl⟩
theorem s_MrefusesDrafts (x y : Int32) : mj_Sx sta (d + 2) 263 [.ref 151, .int (bl true), .int x, .int y] [] (fun v w => v = some (.int (if inR 65537 x && inD y then 0 else 2)) ∧ w = []) := by
  refine mj_Sx.mk m_X10_refusesDrafts (by decide) n_X10_refusesDrafts rfl (fun h0 hv => ?_)
  generalize hT : mj_rx m_X10_refusesDrafts h0 _ _ = T
  repeat (first | refine g_px rfl rfl rfl ?_)
  refine g_if rfl (fun cq => ?_) (fun cq => absurd (cpT (by decide)) cq)
  repeat (first | refine g_px rfl rfl rfl ?_)
  refine g_callS hv [] rfl rfl rfl rfl rfl rfl rfl (by decide) (s_Min sta d x _ _) (fun v w' h hp hk2 hv => ?_)
  obtain ⟨rfl, rfl⟩ := hp
  rw [show (decide (Int32.ofInt 0 ≤ x) && decide (x ≤ Int32.ofInt 65536)) = inR 65537 x from in_R 65536 (by decide) x]
  refine g_if rfl (fun cq => ?_) (fun cq => ?_)
  · have cq : bl (inR 65537 x) = 0 := cq
    rw [bl_0] at cq
    repeat (first | refine g_px rfl rfl rfl ?_)
    subst hT
    refine g_iret hv rfl rfl rfl rfl ?_
    exact ⟨by rw [cq]; rfl, rfl⟩
  · have cq : ¬ bl (inR 65537 x) = 0 := cq
    rw [bl_0, Bool.not_eq_false] at cq
    have h1 := cq
    repeat (first | refine g_px rfl rfl rfl ?_)
    refine g_callS hv [] rfl rfl rfl rfl rfl rfl rfl (by decide) (s_Min sta d y _ _) (fun v w' h hp hk2 hv => ?_)
    obtain ⟨rfl, rfl⟩ := hp
    rw [show (decide (Int32.ofInt 1 ≤ y) && decide (y ≤ (Int8.ofInt 90).toInt32)) = inD y from rfl]
    refine g_if rfl (fun cq => ?_) (fun cq => ?_)
    · have cq : bl (inD y) = 0 := cq
      rw [bl_0] at cq
      repeat (first | refine g_px rfl rfl rfl ?_)
      subst hT
      refine g_iret hv rfl rfl rfl rfl ?_
      exact ⟨by rw [h1, cq]; rfl, rfl⟩
    · have cq : ¬ bl (inD y) = 0 := cq
      rw [bl_0, Bool.not_eq_false] at cq
      repeat (first | refine g_px rfl rfl rfl ?_)
      subst hT
      refine g_iret hv rfl rfl rfl rfl ?_
      exact ⟨by rw [h1, cq]; rfl, rfl⟩
variable (MA : Nat → Nat → Nat) (V : Nat → Int32) (sn : Nat → Nat) (g f : Nat → Option Nat)
theorem s_Mdrafts (m s c L : Nat) (SN C : Nat → Nat) (hm : m < D 1) (hs : s < 65537) (hc : 1 ≤ c ∧ c ≤ 90) (hV : vN V L SN C) (hG : okG D MA SN C L) : mj_Sx sta (d + 4) 264 [.ref 151, (.int (nI m)), (.int (nI s)), (.int (nI c))] (wg (mo th tr wh (some q) rd F wd ac im lw tk st sh ru rz aw al sd) q D hi er se (MA 1) (MA 3) (MA 4) V r sn g f) (fun v w => v = some (.int (nI (cdw D MA L SN C m s false c))) ∧ ∃ lw tk st sd r sn g f, w = wg (mo 0 0 (-1) (some q) rd F wd ac im lw tk st sh ru rz aw al sd) q D hi er se (MA 1) (MA 3) (MA 4) V r sn g f) := by
  refine mj_Sx.mk m_X10_drafts (by decide) n_X10_drafts rfl (fun h0 hv => ?_)
  generalize hT : mj_rx m_X10_drafts h0 _ _ = T
  have hG2 := hG
  obtain ⟨hn, h1, ht, hL, hW, hA, hK, hsn, hC⟩ := hG2
  repeat (first | refine g_px rfl rfl rfl ?_)
  refine g_put hv 0 rfl rfl rfl rfl rfl rfl (fun h hv => ?_)
  have hv : mj_Vw h0 (wg (mo 0 tr wh (some q) rd F wd ac im lw tk st sh ru rz aw al sd) q D hi er se (MA 1) (MA 3) (MA 4) V r sn g f) h := hv
  repeat (first | refine g_px rfl rfl rfl ?_)
  refine g_callV hv [0, 1] 0 rfl rfl rfl rfl rfl rfl rfl rfl (by decide) (s_MisMan sta (d + 2) 0 tr wh q rd F wd ac im lw tk st sh ru rz aw al sd D hi er se (nI m) hn) (fun v w' h hp hk2 hv => ?_)
  obtain ⟨rfl, rfl⟩ := hp
  rw [inR_k hm (by omega)]
  have hv : mj_Vw h0 (wg (mo 0 tr wh (some q) rd F wd ac im lw tk st sh ru rz aw al sd) q D hi er se (MA 1) (MA 3) (MA 4) V r sn g f) h := hv
  repeat (first | refine g_px rfl rfl rfl ?_)
  refine g_callV hv [] 0 rfl rfl rfl rfl rfl rfl rfl rfl (by decide) (s_MrefusesDrafts sta (d + 1) (nI s) (nI c)) (fun v w' h hp hk2 hv => ?_)
  obtain ⟨rfl, rfl⟩ := hp
  rw [inR_k hs (by decide), inD_k hc]
  have hv : mj_Vw h0 (wg (mo 0 tr wh (some q) rd F wd ac im lw tk st sh ru rz aw al sd) q D hi er se (MA 1) (MA 3) (MA 4) V r sn g f) h := hv
  repeat (first | refine g_px rfl rfl rfl ?_)
  refine g_if rfl (fun cq => ?_) (fun cq => absurd (cpT (by decide)) cq)
  repeat (first | refine g_px rfl rfl rfl ?_)
  refine g_callV hv [0, 5, 7] 0 rfl rfl rfl rfl rfl rfl rfl rfl (by decide) (s_MasNow sta (d + 2) 0 tr wh q rd F wd ac im lw tk st sh ru rz aw al sd V L SN sn hV.1 hV.2.1) (fun v w' h hp hk2 hv => ?_)
  obtain ⟨rfl, rfl⟩ := hp
  have hv : mj_Vw h0 (wg (mo 0 tr wh (some q) rd F wd ac im (nI L) tk st sh ru rz aw al sd) q D hi er se (MA 1) (MA 3) (MA 4) V r SN g f) h := hv
  repeat (first | refine g_px rfl rfl rfl ?_)
  refine g_put hv 0 rfl rfl rfl rfl rfl rfl (fun h hv => ?_)
  have hv : mj_Vw h0 (wg (mo 0 tr wh (some q) rd F wd ac im (nI L) tk st sh ru rz aw al (nI s)) q D hi er se (MA 1) (MA 3) (MA 4) V r SN g f) h := hv
  have loop : ∀ j k h r g f tk st, k + j = c → mj_Vw h0 (wg (mo 0 tr wh (some q) rd F wd ac im (nI L) tk st sh ru rz aw al (nI (dsk (D 1) s k))) q D hi er se (MA 1) (MA 3) (MA 4) V r SN g f) h → mj_go sta (mj_Cl sta (d + 3)) m_X10_drafts T 45 [some (.ref 151), some (.int (nI m)), some (.int (nI s)), some (.int (nI c)), some (.int 0), some (.int (nI (cdw D MA L SN C m s false k))), some (.int (nI k))] [] h := by
    intro j
    induction j with
    | zero =>
      intro k h r g f tk st hk hv
      have hk : k = c := by omega
      subst hk
      repeat (first | refine g_px rfl rfl rfl ?_)
      refine g_ic rfl (fun cq => ?_) (fun cq => absurd (nI_le (Nat.le_refl k) (by omega)) cq)
      repeat (first | refine g_px rfl rfl rfl ?_)
      refine g_callV hv [0] 0 rfl rfl rfl rfl rfl rfl rfl rfl (by decide) (s_Mgood sta (d + 2) 0 tr wh (some q) rd F wd ac im (nI L) tk st sh ru rz aw al (nI (dsk (D 1) s k)) _) (fun v w' h hp hk2 hv => ?_)
      obtain ⟨rfl, rfl⟩ := hp
      subst hT
      exact g_iret hv rfl rfl rfl rfl ⟨rfl, _, _, _, _, _, _, _, _, rfl⟩
    | succ j ih =>
      intro k h r g f tk st hk hv
      have hsd := dsk_lt (n := D 1) hs k
      have hpr := dR_prm (n := D 1) (s := dsk (D 1) s k)
      have hT6 : qT D MA L SN (dR (D 1) (dsk (D 1) s k)) < 64 := cms_lt' hn hpr (D 1) (Nat.le_refl _)
      have hS6 : qS D MA L SN C (dR (D 1) (dsk (D 1) s k)) < 64 := rns_lt hn _
      repeat (first | refine g_px rfl rfl rfl ?_)
      refine g_ic rfl (fun cq => ?_) (fun cq => ?_)
      · simp (disch := omega) only [mj_cp, k_6, k_7, k_8, k_9, k_10, k_12, k_15, k_16, k_18, k_20, k_24, k_25, k_26, k_27, k_28, k_32, k_36, k_48, k_57, k_59, k_63, k_74, k_75, k_84, k_90, k_97, k_99, k_100, k_122, k_200, k_255, k_420, k_448, k_720, k_800, k_999, k_bit, k_shl, fa_and, nI_add, bl_1, bl_0, bl_n1, bl_n0, bl_i1, nI_lt0, nI_0le, nI_eq0, nI_eqT, nI_leI, nI_ltI, nI_eq, Nat.not_le, Nat.not_lt, Bool.not_eq_true, Bool.not_eq_false, not_true_eq_false, not_false_eq_true, Decidable.not_not] at cq
        omega
      · repeat (first | refine g_px rfl rfl rfl ?_)
        refine g_callV hv [0, 1, 6] 0 rfl rfl rfl rfl rfl rfl rfl rfl (by decide) (s_MdrawsRow sta (d + 1) 0 tr wh q rd F wd ac im (nI L) tk st sh ru rz aw al D hi er se r (dsk (D 1) s k) hsd hn) (fun v w' h hp hk2 hv => ?_)
        obtain ⟨rfl, rfl⟩ := hp
        have hv : mj_Vw h0 (wg (mo 0 tr wh (some q) rd F wd ac im (nI L) tk st sh ru rz aw al (nI (dsk (D 1) s (k + 1)))) q D hi er se (MA 1) (MA 3) (MA 4) V (dR (D 1) (dsk (D 1) s k)) SN g f) h := hv
        repeat (first | refine g_px rfl rfl rfl ?_)
        refine g_callV hv [0, 1, 2, 3, 4, 5, 6, 7, 8, 9] 0 rfl rfl rfl rfl rfl rfl rfl rfl (by decide) (s_Mplays sta d 0 tr wh q rd F wd ac im tk st sh ru rz aw al (nI (dsk (D 1) s (k + 1))) D hi er se (MA 1) (MA 3) (MA 4) V (dR (D 1) (dsk (D 1) s k)) SN g f L C hV.2.2 hpr hn ht hL hW hA hK hsn hC) (fun v w' h hp hk2 hv => ?_)
        obtain ⟨rfl, rfl⟩ := hp
        have hv : mj_Vw h0 (wg (mo 0 tr wh (some q) rd F wd ac im (nI L) (nI (qT D MA L SN (dR (D 1) (dsk (D 1) s k)))) (nI (qS D MA L SN C (dR (D 1) (dsk (D 1) s k)))) sh ru rz aw al (nI (dsk (D 1) s (k + 1)))) q D hi er se (MA 1) (MA 3) (MA 4) V (dR (D 1) (dsk (D 1) s k)) SN _ _) h := hv
        repeat (first | refine g_px rfl rfl rfl ?_ | refine g_get hv 0 rfl rfl rfl rfl ?_)
        refine g_callS hv [] rfl rfl rfl rfl rfl rfl rfl (by decide) (s_Mbit sta (d + 2) (qT D MA L SN (dR (D 1) (dsk (D 1) s k))) m (by omega) (by omega)) (fun v w' h hp hk2 hv => ?_)
        obtain ⟨rfl, rfl⟩ := hp
        have hv : mj_Vw h0 (wg (mo 0 tr wh (some q) rd F wd ac im (nI L) (nI (qT D MA L SN (dR (D 1) (dsk (D 1) s k)))) (nI (qS D MA L SN C (dR (D 1) (dsk (D 1) s k)))) sh ru rz aw al (nI (dsk (D 1) s (k + 1)))) q D hi er se (MA 1) (MA 3) (MA 4) V (dR (D 1) (dsk (D 1) s k)) SN _ _) h := hv
        have hnx := ih (k + 1) h _ _ _ _ _ (by omega) hv
        have hst : cdw D MA L SN C m s false (k + 1) = cdw D MA L SN C m s false k + if (qT D MA L SN (dR (D 1) (dsk (D 1) s k))).testBit m then 1 else 0 := fb_ct_succ _ _
        rw [nI_succ, hst] at hnx
        refine g_if rfl (fun cq => ?_) (fun cq => ?_)
        · have cq : bl ((qT D MA L SN (dR (D 1) (dsk (D 1) s k))).testBit m) = 0 := cq
          rw [bl_0] at cq
          rw [cq, if_neg (by decide)] at hnx
          refine g_run 2 rfl ?_
          rw [show nI (cdw D MA L SN C m s false k) + Int32.ofInt 0 = nI (cdw D MA L SN C m s false k + 0) from nI_add _ 0]
          refine g_run 3 rfl ?_
          exact hnx
        · have cq : ¬ bl ((qT D MA L SN (dR (D 1) (dsk (D 1) s k))).testBit m) = 0 := cq
          rw [bl_0, Bool.not_eq_false] at cq
          rw [cq, if_pos rfl] at hnx
          refine g_run 3 rfl ?_
          rw [show nI (cdw D MA L SN C m s false k) + Int32.ofInt 1 = nI (cdw D MA L SN C m s false k + 1) from nI_add _ 1]
          refine g_run 3 rfl ?_
          exact hnx
  refine g_run 4 rfl ?_
  exact loop c 0 h _ _ _ _ _ (by omega) hv
theorem s_Mdrafts_x (m x y : Int32) (hn : D 1 ≤ 6) (hno : inR (D 1) m = false) : mj_Sx sta (d + 3) 264 [.ref 151, .int m, .int x, .int y] [(mo th tr wh (some q) rd F wd ac im lw tk st sh ru rz aw al sd), mdh q D hi er se] (fun v w => v = some (.int (-1)) ∧ w = [(mo 0 1 (-1) (some q) rd F wd ac im lw tk st sh ru rz aw al sd), mdh q D hi er se]) := by
  refine mj_Sx.mk m_X10_drafts (by decide) n_X10_drafts rfl (fun h0 hv => ?_)
  generalize hT : mj_rx m_X10_drafts h0 _ _ = T
  repeat (first | refine g_px rfl rfl rfl ?_)
  refine g_put hv 0 rfl rfl rfl rfl rfl rfl (fun h hv => ?_)
  have hv : mj_Vw h0 ([(mo 0 tr wh (some q) rd F wd ac im lw tk st sh ru rz aw al sd), mdh q D hi er se]) h := hv
  repeat (first | refine g_px rfl rfl rfl ?_)
  refine g_callV hv [0, 1] 0 rfl rfl rfl rfl rfl rfl rfl rfl (by decide) (s_MisMan sta (d + 1) 0 tr wh q rd F wd ac im lw tk st sh ru rz aw al sd D hi er se m hn) (fun v w' h hp hk2 hv => ?_)
  obtain ⟨rfl, rfl⟩ := hp
  rw [hno]
  have hv : mj_Vw h0 ([(mo 0 tr wh (some q) rd F wd ac im lw tk st sh ru rz aw al sd), mdh q D hi er se]) h := hv
  repeat (first | refine g_px rfl rfl rfl ?_)
  refine g_callV hv [] 0 rfl rfl rfl rfl rfl rfl rfl rfl (by decide) (s_MrefusesDrafts0 sta (d + 1) x y) (fun v w' h hp hk2 hv => ?_)
  obtain ⟨rfl, rfl⟩ := hp
  have hv : mj_Vw h0 ([(mo 0 tr wh (some q) rd F wd ac im lw tk st sh ru rz aw al sd), mdh q D hi er se]) h := hv
  repeat (first | refine g_px rfl rfl rfl ?_)
  refine g_if rfl (fun cq => absurd cq (cpF (by decide))) (fun cq => ?_)
  repeat (first | refine g_px rfl rfl rfl ?_)
  refine g_callV hv [0] 0 rfl rfl rfl rfl rfl rfl rfl rfl (by decide) (s_Mrefused sta (d + 1) 0 tr wh (some q) rd F wd ac im lw tk st sh ru rz aw al sd _) (fun v w' h hp hk2 hv => ?_)
  obtain ⟨rfl, rfl⟩ := hp
  subst hT
  exact g_iret hv rfl rfl rfl rfl ⟨rfl, rfl⟩
theorem s_Mdrafts_u (m x y : Int32) : mj_Sx sta (d + 3) 264 [.ref 151, .int m, .int x, .int y] [(mo th tr wh none rd F wd ac im lw tk st sh ru rz aw al sd)] (fun v w => v = some (.int (-1)) ∧ w = [(mo 0 1 (-1) none rd F wd ac im lw tk st sh ru rz aw al sd)]) := by
  refine mj_Sx.mk m_X10_drafts (by decide) n_X10_drafts rfl (fun h0 hv => ?_)
  generalize hT : mj_rx m_X10_drafts h0 _ _ = T
  repeat (first | refine g_px rfl rfl rfl ?_)
  refine g_put hv 0 rfl rfl rfl rfl rfl rfl (fun h hv => ?_)
  have hv : mj_Vw h0 ([(mo 0 tr wh none rd F wd ac im lw tk st sh ru rz aw al sd)]) h := hv
  repeat (first | refine g_px rfl rfl rfl ?_)
  refine g_callV hv [0] 0 rfl rfl rfl rfl rfl rfl rfl rfl (by decide) (s_MisMan_u sta (d + 1) 0 tr wh rd F wd ac im lw tk st sh ru rz aw al sd m) (fun v w' h hp hk2 hv => ?_)
  obtain ⟨rfl, rfl⟩ := hp
  have hv : mj_Vw h0 ([(mo 0 tr wh none rd F wd ac im lw tk st sh ru rz aw al sd)]) h := hv
  repeat (first | refine g_px rfl rfl rfl ?_)
  refine g_callV hv [] 0 rfl rfl rfl rfl rfl rfl rfl rfl (by decide) (s_MrefusesDrafts0 sta (d + 1) x y) (fun v w' h hp hk2 hv => ?_)
  obtain ⟨rfl, rfl⟩ := hp
  have hv : mj_Vw h0 ([(mo 0 tr wh none rd F wd ac im lw tk st sh ru rz aw al sd)]) h := hv
  repeat (first | refine g_px rfl rfl rfl ?_)
  refine g_if rfl (fun cq => absurd cq (cpF (by decide))) (fun cq => ?_)
  repeat (first | refine g_px rfl rfl rfl ?_)
  refine g_callV hv [0] 0 rfl rfl rfl rfl rfl rfl rfl rfl (by decide) (s_Mrefused sta (d + 1) 0 tr wh none rd F wd ac im lw tk st sh ru rz aw al sd _) (fun v w' h hp hk2 hv => ?_)
  obtain ⟨rfl, rfl⟩ := hp
  subst hT
  exact g_iret hv rfl rfl rfl rfl ⟨rfl, rfl⟩
theorem s_Mdrafts_2 (m : Nat) (x y : Int32) (hm : m < D 1) (hn : D 1 ≤ 6) (hno : (inR 65537 x && inD y) = false) : mj_Sx sta (d + 3) 264 [.ref 151, (.int (nI m)), .int x, .int y] [(mo th tr wh (some q) rd F wd ac im lw tk st sh ru rz aw al sd), mdh q D hi er se] (fun v w => v = some (.int (-1)) ∧ w = [(mo 0 2 (-1) (some q) rd F wd ac im lw tk st sh ru rz aw al sd), mdh q D hi er se]) := by
  refine mj_Sx.mk m_X10_drafts (by decide) n_X10_drafts rfl (fun h0 hv => ?_)
  generalize hT : mj_rx m_X10_drafts h0 _ _ = T
  repeat (first | refine g_px rfl rfl rfl ?_)
  refine g_put hv 0 rfl rfl rfl rfl rfl rfl (fun h hv => ?_)
  have hv : mj_Vw h0 ([(mo 0 tr wh (some q) rd F wd ac im lw tk st sh ru rz aw al sd), mdh q D hi er se]) h := hv
  repeat (first | refine g_px rfl rfl rfl ?_)
  refine g_callV hv [0, 1] 0 rfl rfl rfl rfl rfl rfl rfl rfl (by decide) (s_MisMan sta (d + 1) 0 tr wh q rd F wd ac im lw tk st sh ru rz aw al sd D hi er se (nI m) hn) (fun v w' h hp hk2 hv => ?_)
  obtain ⟨rfl, rfl⟩ := hp
  rw [inR_k hm (by omega)]
  have hv : mj_Vw h0 ([(mo 0 tr wh (some q) rd F wd ac im lw tk st sh ru rz aw al sd), mdh q D hi er se]) h := hv
  repeat (first | refine g_px rfl rfl rfl ?_)
  refine g_callV hv [] 0 rfl rfl rfl rfl rfl rfl rfl rfl (by decide) (s_MrefusesDrafts sta d x y) (fun v w' h hp hk2 hv => ?_)
  obtain ⟨rfl, rfl⟩ := hp
  rw [hno]
  have hv : mj_Vw h0 ([(mo 0 tr wh (some q) rd F wd ac im lw tk st sh ru rz aw al sd), mdh q D hi er se]) h := hv
  repeat (first | refine g_px rfl rfl rfl ?_)
  refine g_if rfl (fun cq => absurd cq (cpF (by decide))) (fun cq => ?_)
  repeat (first | refine g_px rfl rfl rfl ?_)
  refine g_callV hv [0] 0 rfl rfl rfl rfl rfl rfl rfl rfl (by decide) (s_Mrefused sta (d + 1) 0 tr wh (some q) rd F wd ac im lw tk st sh ru rz aw al sd _) (fun v w' h hp hk2 hv => ?_)
  obtain ⟨rfl, rfl⟩ := hp
  subst hT
  exact g_iret hv rfl rfl rfl rfl ⟨rfl, rfl⟩
theorem s_MsentIn (m s c L : Nat) (SN C : Nat → Nat) (hm : m < D 1) (hs : s < 65537) (hc : 1 ≤ c ∧ c ≤ 90) (hV : vN V L SN C) (hG : okG D MA SN C L) : mj_Sx sta (d + 4) 265 [.ref 151, (.int (nI m)), (.int (nI s)), (.int (nI c))] (wg (mo th tr wh (some q) rd F wd ac im lw tk st sh ru rz aw al sd) q D hi er se (MA 1) (MA 3) (MA 4) V r sn g f) (fun v w => v = some (.int (nI (cdw D MA L SN C m s true c))) ∧ ∃ lw tk st sd r sn g f, w = wg (mo 0 0 (-1) (some q) rd F wd ac im lw tk st sh ru rz aw al sd) q D hi er se (MA 1) (MA 3) (MA 4) V r sn g f) := by
  refine mj_Sx.mk m_X10_sentIn (by decide) n_X10_sentIn rfl (fun h0 hv => ?_)
  generalize hT : mj_rx m_X10_sentIn h0 _ _ = T
  have hG2 := hG
  obtain ⟨hn, h1, ht, hL, hW, hA, hK, hsn, hC⟩ := hG2
  repeat (first | refine g_px rfl rfl rfl ?_)
  refine g_put hv 0 rfl rfl rfl rfl rfl rfl (fun h hv => ?_)
  have hv : mj_Vw h0 (wg (mo 0 tr wh (some q) rd F wd ac im lw tk st sh ru rz aw al sd) q D hi er se (MA 1) (MA 3) (MA 4) V r sn g f) h := hv
  repeat (first | refine g_px rfl rfl rfl ?_)
  refine g_callV hv [0, 1] 0 rfl rfl rfl rfl rfl rfl rfl rfl (by decide) (s_MisMan sta (d + 2) 0 tr wh q rd F wd ac im lw tk st sh ru rz aw al sd D hi er se (nI m) hn) (fun v w' h hp hk2 hv => ?_)
  obtain ⟨rfl, rfl⟩ := hp
  rw [inR_k hm (by omega)]
  have hv : mj_Vw h0 (wg (mo 0 tr wh (some q) rd F wd ac im lw tk st sh ru rz aw al sd) q D hi er se (MA 1) (MA 3) (MA 4) V r sn g f) h := hv
  repeat (first | refine g_px rfl rfl rfl ?_)
  refine g_callV hv [] 0 rfl rfl rfl rfl rfl rfl rfl rfl (by decide) (s_MrefusesDrafts sta (d + 1) (nI s) (nI c)) (fun v w' h hp hk2 hv => ?_)
  obtain ⟨rfl, rfl⟩ := hp
  rw [inR_k hs (by decide), inD_k hc]
  have hv : mj_Vw h0 (wg (mo 0 tr wh (some q) rd F wd ac im lw tk st sh ru rz aw al sd) q D hi er se (MA 1) (MA 3) (MA 4) V r sn g f) h := hv
  repeat (first | refine g_px rfl rfl rfl ?_)
  refine g_if rfl (fun cq => ?_) (fun cq => absurd (cpT (by decide)) cq)
  repeat (first | refine g_px rfl rfl rfl ?_)
  refine g_callV hv [0, 5, 7] 0 rfl rfl rfl rfl rfl rfl rfl rfl (by decide) (s_MasNow sta (d + 2) 0 tr wh q rd F wd ac im lw tk st sh ru rz aw al sd V L SN sn hV.1 hV.2.1) (fun v w' h hp hk2 hv => ?_)
  obtain ⟨rfl, rfl⟩ := hp
  have hv : mj_Vw h0 (wg (mo 0 tr wh (some q) rd F wd ac im (nI L) tk st sh ru rz aw al sd) q D hi er se (MA 1) (MA 3) (MA 4) V r SN g f) h := hv
  repeat (first | refine g_px rfl rfl rfl ?_)
  refine g_put hv 0 rfl rfl rfl rfl rfl rfl (fun h hv => ?_)
  have hv : mj_Vw h0 (wg (mo 0 tr wh (some q) rd F wd ac im (nI L) tk st sh ru rz aw al (nI s)) q D hi er se (MA 1) (MA 3) (MA 4) V r SN g f) h := hv
  have loop : ∀ j k h r g f tk st, k + j = c → mj_Vw h0 (wg (mo 0 tr wh (some q) rd F wd ac im (nI L) tk st sh ru rz aw al (nI (dsk (D 1) s k))) q D hi er se (MA 1) (MA 3) (MA 4) V r SN g f) h → mj_go sta (mj_Cl sta (d + 3)) m_X10_sentIn T 45 [some (.ref 151), some (.int (nI m)), some (.int (nI s)), some (.int (nI c)), some (.int 0), some (.int (nI (cdw D MA L SN C m s true k))), some (.int (nI k))] [] h := by
    intro j
    induction j with
    | zero =>
      intro k h r g f tk st hk hv
      have hk : k = c := by omega
      subst hk
      repeat (first | refine g_px rfl rfl rfl ?_)
      refine g_ic rfl (fun cq => ?_) (fun cq => absurd (nI_le (Nat.le_refl k) (by omega)) cq)
      repeat (first | refine g_px rfl rfl rfl ?_)
      refine g_callV hv [0] 0 rfl rfl rfl rfl rfl rfl rfl rfl (by decide) (s_Mgood sta (d + 2) 0 tr wh (some q) rd F wd ac im (nI L) tk st sh ru rz aw al (nI (dsk (D 1) s k)) _) (fun v w' h hp hk2 hv => ?_)
      obtain ⟨rfl, rfl⟩ := hp
      subst hT
      exact g_iret hv rfl rfl rfl rfl ⟨rfl, _, _, _, _, _, _, _, _, rfl⟩
    | succ j ih =>
      intro k h r g f tk st hk hv
      have hsd := dsk_lt (n := D 1) hs k
      have hpr := dR_prm (n := D 1) (s := dsk (D 1) s k)
      have hT6 : qT D MA L SN (dR (D 1) (dsk (D 1) s k)) < 64 := cms_lt' hn hpr (D 1) (Nat.le_refl _)
      have hS6 : qS D MA L SN C (dR (D 1) (dsk (D 1) s k)) < 64 := rns_lt hn _
      repeat (first | refine g_px rfl rfl rfl ?_)
      refine g_ic rfl (fun cq => ?_) (fun cq => ?_)
      · simp (disch := omega) only [mj_cp, k_6, k_7, k_8, k_9, k_10, k_12, k_15, k_16, k_18, k_20, k_24, k_25, k_26, k_27, k_28, k_32, k_36, k_48, k_57, k_59, k_63, k_74, k_75, k_84, k_90, k_97, k_99, k_100, k_122, k_200, k_255, k_420, k_448, k_720, k_800, k_999, k_bit, k_shl, fa_and, nI_add, bl_1, bl_0, bl_n1, bl_n0, bl_i1, nI_lt0, nI_0le, nI_eq0, nI_eqT, nI_leI, nI_ltI, nI_eq, Nat.not_le, Nat.not_lt, Bool.not_eq_true, Bool.not_eq_false, not_true_eq_false, not_false_eq_true, Decidable.not_not] at cq
        omega
      · repeat (first | refine g_px rfl rfl rfl ?_)
        refine g_callV hv [0, 1, 6] 0 rfl rfl rfl rfl rfl rfl rfl rfl (by decide) (s_MdrawsRow sta (d + 1) 0 tr wh q rd F wd ac im (nI L) tk st sh ru rz aw al D hi er se r (dsk (D 1) s k) hsd hn) (fun v w' h hp hk2 hv => ?_)
        obtain ⟨rfl, rfl⟩ := hp
        have hv : mj_Vw h0 (wg (mo 0 tr wh (some q) rd F wd ac im (nI L) tk st sh ru rz aw al (nI (dsk (D 1) s (k + 1)))) q D hi er se (MA 1) (MA 3) (MA 4) V (dR (D 1) (dsk (D 1) s k)) SN g f) h := hv
        repeat (first | refine g_px rfl rfl rfl ?_)
        refine g_callV hv [0, 1, 2, 3, 4, 5, 6, 7, 8, 9] 0 rfl rfl rfl rfl rfl rfl rfl rfl (by decide) (s_Mplays sta d 0 tr wh q rd F wd ac im tk st sh ru rz aw al (nI (dsk (D 1) s (k + 1))) D hi er se (MA 1) (MA 3) (MA 4) V (dR (D 1) (dsk (D 1) s k)) SN g f L C hV.2.2 hpr hn ht hL hW hA hK hsn hC) (fun v w' h hp hk2 hv => ?_)
        obtain ⟨rfl, rfl⟩ := hp
        have hv : mj_Vw h0 (wg (mo 0 tr wh (some q) rd F wd ac im (nI L) (nI (qT D MA L SN (dR (D 1) (dsk (D 1) s k)))) (nI (qS D MA L SN C (dR (D 1) (dsk (D 1) s k)))) sh ru rz aw al (nI (dsk (D 1) s (k + 1)))) q D hi er se (MA 1) (MA 3) (MA 4) V (dR (D 1) (dsk (D 1) s k)) SN _ _) h := hv
        repeat (first | refine g_px rfl rfl rfl ?_ | refine g_get hv 0 rfl rfl rfl rfl ?_)
        refine g_callS hv [] rfl rfl rfl rfl rfl rfl rfl (by decide) (s_Mbit sta (d + 2) (qS D MA L SN C (dR (D 1) (dsk (D 1) s k))) m (by omega) (by omega)) (fun v w' h hp hk2 hv => ?_)
        obtain ⟨rfl, rfl⟩ := hp
        have hv : mj_Vw h0 (wg (mo 0 tr wh (some q) rd F wd ac im (nI L) (nI (qT D MA L SN (dR (D 1) (dsk (D 1) s k)))) (nI (qS D MA L SN C (dR (D 1) (dsk (D 1) s k)))) sh ru rz aw al (nI (dsk (D 1) s (k + 1)))) q D hi er se (MA 1) (MA 3) (MA 4) V (dR (D 1) (dsk (D 1) s k)) SN _ _) h := hv
        have hnx := ih (k + 1) h _ _ _ _ _ (by omega) hv
        have hst : cdw D MA L SN C m s true (k + 1) = cdw D MA L SN C m s true k + if (qS D MA L SN C (dR (D 1) (dsk (D 1) s k))).testBit m then 1 else 0 := fb_ct_succ _ _
        rw [nI_succ, hst] at hnx
        refine g_if rfl (fun cq => ?_) (fun cq => ?_)
        · have cq : bl ((qS D MA L SN C (dR (D 1) (dsk (D 1) s k))).testBit m) = 0 := cq
          rw [bl_0] at cq
          rw [cq, if_neg (by decide)] at hnx
          refine g_run 2 rfl ?_
          rw [show nI (cdw D MA L SN C m s true k) + Int32.ofInt 0 = nI (cdw D MA L SN C m s true k + 0) from nI_add _ 0]
          refine g_run 3 rfl ?_
          exact hnx
        · have cq : ¬ bl ((qS D MA L SN C (dR (D 1) (dsk (D 1) s k))).testBit m) = 0 := cq
          rw [bl_0, Bool.not_eq_false] at cq
          rw [cq, if_pos rfl] at hnx
          refine g_run 3 rfl ?_
          rw [show nI (cdw D MA L SN C m s true k) + Int32.ofInt 1 = nI (cdw D MA L SN C m s true k + 1) from nI_add _ 1]
          refine g_run 3 rfl ?_
          exact hnx
  refine g_run 4 rfl ?_
  exact loop c 0 h _ _ _ _ _ (by omega) hv
theorem s_MsentIn_x (m x y : Int32) (hn : D 1 ≤ 6) (hno : inR (D 1) m = false) : mj_Sx sta (d + 3) 265 [.ref 151, .int m, .int x, .int y] [(mo th tr wh (some q) rd F wd ac im lw tk st sh ru rz aw al sd), mdh q D hi er se] (fun v w => v = some (.int (-1)) ∧ w = [(mo 0 1 (-1) (some q) rd F wd ac im lw tk st sh ru rz aw al sd), mdh q D hi er se]) := by
  refine mj_Sx.mk m_X10_sentIn (by decide) n_X10_sentIn rfl (fun h0 hv => ?_)
  generalize hT : mj_rx m_X10_sentIn h0 _ _ = T
  repeat (first | refine g_px rfl rfl rfl ?_)
  refine g_put hv 0 rfl rfl rfl rfl rfl rfl (fun h hv => ?_)
  have hv : mj_Vw h0 ([(mo 0 tr wh (some q) rd F wd ac im lw tk st sh ru rz aw al sd), mdh q D hi er se]) h := hv
  repeat (first | refine g_px rfl rfl rfl ?_)
  refine g_callV hv [0, 1] 0 rfl rfl rfl rfl rfl rfl rfl rfl (by decide) (s_MisMan sta (d + 1) 0 tr wh q rd F wd ac im lw tk st sh ru rz aw al sd D hi er se m hn) (fun v w' h hp hk2 hv => ?_)
  obtain ⟨rfl, rfl⟩ := hp
  rw [hno]
  have hv : mj_Vw h0 ([(mo 0 tr wh (some q) rd F wd ac im lw tk st sh ru rz aw al sd), mdh q D hi er se]) h := hv
  repeat (first | refine g_px rfl rfl rfl ?_)
  refine g_callV hv [] 0 rfl rfl rfl rfl rfl rfl rfl rfl (by decide) (s_MrefusesDrafts0 sta (d + 1) x y) (fun v w' h hp hk2 hv => ?_)
  obtain ⟨rfl, rfl⟩ := hp
  have hv : mj_Vw h0 ([(mo 0 tr wh (some q) rd F wd ac im lw tk st sh ru rz aw al sd), mdh q D hi er se]) h := hv
  repeat (first | refine g_px rfl rfl rfl ?_)
  refine g_if rfl (fun cq => absurd cq (cpF (by decide))) (fun cq => ?_)
  repeat (first | refine g_px rfl rfl rfl ?_)
  refine g_callV hv [0] 0 rfl rfl rfl rfl rfl rfl rfl rfl (by decide) (s_Mrefused sta (d + 1) 0 tr wh (some q) rd F wd ac im lw tk st sh ru rz aw al sd _) (fun v w' h hp hk2 hv => ?_)
  obtain ⟨rfl, rfl⟩ := hp
  subst hT
  exact g_iret hv rfl rfl rfl rfl ⟨rfl, rfl⟩
theorem s_MsentIn_u (m x y : Int32) : mj_Sx sta (d + 3) 265 [.ref 151, .int m, .int x, .int y] [(mo th tr wh none rd F wd ac im lw tk st sh ru rz aw al sd)] (fun v w => v = some (.int (-1)) ∧ w = [(mo 0 1 (-1) none rd F wd ac im lw tk st sh ru rz aw al sd)]) := by
  refine mj_Sx.mk m_X10_sentIn (by decide) n_X10_sentIn rfl (fun h0 hv => ?_)
  generalize hT : mj_rx m_X10_sentIn h0 _ _ = T
  repeat (first | refine g_px rfl rfl rfl ?_)
  refine g_put hv 0 rfl rfl rfl rfl rfl rfl (fun h hv => ?_)
  have hv : mj_Vw h0 ([(mo 0 tr wh none rd F wd ac im lw tk st sh ru rz aw al sd)]) h := hv
  repeat (first | refine g_px rfl rfl rfl ?_)
  refine g_callV hv [0] 0 rfl rfl rfl rfl rfl rfl rfl rfl (by decide) (s_MisMan_u sta (d + 1) 0 tr wh rd F wd ac im lw tk st sh ru rz aw al sd m) (fun v w' h hp hk2 hv => ?_)
  obtain ⟨rfl, rfl⟩ := hp
  have hv : mj_Vw h0 ([(mo 0 tr wh none rd F wd ac im lw tk st sh ru rz aw al sd)]) h := hv
  repeat (first | refine g_px rfl rfl rfl ?_)
  refine g_callV hv [] 0 rfl rfl rfl rfl rfl rfl rfl rfl (by decide) (s_MrefusesDrafts0 sta (d + 1) x y) (fun v w' h hp hk2 hv => ?_)
  obtain ⟨rfl, rfl⟩ := hp
  have hv : mj_Vw h0 ([(mo 0 tr wh none rd F wd ac im lw tk st sh ru rz aw al sd)]) h := hv
  repeat (first | refine g_px rfl rfl rfl ?_)
  refine g_if rfl (fun cq => absurd cq (cpF (by decide))) (fun cq => ?_)
  repeat (first | refine g_px rfl rfl rfl ?_)
  refine g_callV hv [0] 0 rfl rfl rfl rfl rfl rfl rfl rfl (by decide) (s_Mrefused sta (d + 1) 0 tr wh none rd F wd ac im lw tk st sh ru rz aw al sd _) (fun v w' h hp hk2 hv => ?_)
  obtain ⟨rfl, rfl⟩ := hp
  subst hT
  exact g_iret hv rfl rfl rfl rfl ⟨rfl, rfl⟩
theorem s_MsentIn_2 (m : Nat) (x y : Int32) (hm : m < D 1) (hn : D 1 ≤ 6) (hno : (inR 65537 x && inD y) = false) : mj_Sx sta (d + 3) 265 [.ref 151, (.int (nI m)), .int x, .int y] [(mo th tr wh (some q) rd F wd ac im lw tk st sh ru rz aw al sd), mdh q D hi er se] (fun v w => v = some (.int (-1)) ∧ w = [(mo 0 2 (-1) (some q) rd F wd ac im lw tk st sh ru rz aw al sd), mdh q D hi er se]) := by
  refine mj_Sx.mk m_X10_sentIn (by decide) n_X10_sentIn rfl (fun h0 hv => ?_)
  generalize hT : mj_rx m_X10_sentIn h0 _ _ = T
  repeat (first | refine g_px rfl rfl rfl ?_)
  refine g_put hv 0 rfl rfl rfl rfl rfl rfl (fun h hv => ?_)
  have hv : mj_Vw h0 ([(mo 0 tr wh (some q) rd F wd ac im lw tk st sh ru rz aw al sd), mdh q D hi er se]) h := hv
  repeat (first | refine g_px rfl rfl rfl ?_)
  refine g_callV hv [0, 1] 0 rfl rfl rfl rfl rfl rfl rfl rfl (by decide) (s_MisMan sta (d + 1) 0 tr wh q rd F wd ac im lw tk st sh ru rz aw al sd D hi er se (nI m) hn) (fun v w' h hp hk2 hv => ?_)
  obtain ⟨rfl, rfl⟩ := hp
  rw [inR_k hm (by omega)]
  have hv : mj_Vw h0 ([(mo 0 tr wh (some q) rd F wd ac im lw tk st sh ru rz aw al sd), mdh q D hi er se]) h := hv
  repeat (first | refine g_px rfl rfl rfl ?_)
  refine g_callV hv [] 0 rfl rfl rfl rfl rfl rfl rfl rfl (by decide) (s_MrefusesDrafts sta d x y) (fun v w' h hp hk2 hv => ?_)
  obtain ⟨rfl, rfl⟩ := hp
  rw [hno]
  have hv : mj_Vw h0 ([(mo 0 tr wh (some q) rd F wd ac im lw tk st sh ru rz aw al sd), mdh q D hi er se]) h := hv
  repeat (first | refine g_px rfl rfl rfl ?_)
  refine g_if rfl (fun cq => absurd cq (cpF (by decide))) (fun cq => ?_)
  repeat (first | refine g_px rfl rfl rfl ?_)
  refine g_callV hv [0] 0 rfl rfl rfl rfl rfl rfl rfl rfl (by decide) (s_Mrefused sta (d + 1) 0 tr wh (some q) rd F wd ac im lw tk st sh ru rz aw al sd _) (fun v w' h hp hk2 hv => ?_)
  obtain ⟨rfl, rfl⟩ := hp
  subst hT
  exact g_iret hv rfl rfl rfl rfl ⟨rfl, rfl⟩
theorem s_MlossIn (s c L : Nat) (SN C : Nat → Nat) (hs : s < 65537) (hc : 1 ≤ c ∧ c ≤ 90) (hV : vN V L SN C) (hG : okG D MA SN C L) : mj_Sx sta (d + 5) 266 [.ref 151, (.int (nI s)), (.int (nI c))] (wg (mo th tr wh (some q) rd F wd ac im lw tk st sh ru rz aw al sd) q D hi er se (MA 1) (MA 3) (MA 4) V r sn g f) (fun v w => v = some (.int (nI (lsI D MA L SN C s c))) ∧ ∃ lw tk st sd r sn g f, w = wg (mo 0 0 (-1) (some q) rd F wd ac im lw tk st sh ru rz aw al sd) q D hi er se (MA 1) (MA 3) (MA 4) V r sn g f) := by
  refine mj_Sx.mk m_X10_lossIn (by decide) n_X10_lossIn rfl (fun h0 hv => ?_)
  generalize hT : mj_rx m_X10_lossIn h0 _ _ = T
  have hG2 := hG
  obtain ⟨hn, h1, ht, hL, hW, hA, hK, hsn, hC⟩ := hG2
  have hp6 := p6 hn
  repeat (first | refine g_px rfl rfl rfl ?_)
  refine g_put hv 0 rfl rfl rfl rfl rfl rfl (fun h hv => ?_)
  have hv : mj_Vw h0 (wg (mo 0 tr wh (some q) rd F wd ac im lw tk st sh ru rz aw al sd) q D hi er se (MA 1) (MA 3) (MA 4) V r sn g f) h := hv
  repeat (first | refine g_px rfl rfl rfl ?_ | refine g_get hv 0 rfl rfl rfl rfl ?_)
  refine g_callV hv [] 0 rfl rfl rfl rfl rfl rfl rfl rfl (by decide) (s_MrefusesDrafts sta (d + 2) (nI s) (nI c)) (fun v w' h hp hk2 hv => ?_)
  obtain ⟨rfl, rfl⟩ := hp
  rw [inR_k hs (by decide), inD_k hc]
  have hv : mj_Vw h0 (wg (mo 0 tr wh (some q) rd F wd ac im lw tk st sh ru rz aw al sd) q D hi er se (MA 1) (MA 3) (MA 4) V r sn g f) h := hv
  repeat (first | refine g_px rfl rfl rfl ?_)
  refine g_if rfl (fun cq => ?_) (fun cq => absurd (cpT (by decide)) cq)
  repeat (first | refine g_px rfl rfl rfl ?_)
  refine g_callV hv [0, 5, 7] 0 rfl rfl rfl rfl rfl rfl rfl rfl (by decide) (s_MasNow sta (d + 3) 0 tr wh q rd F wd ac im lw tk st sh ru rz aw al sd V L SN sn hV.1 hV.2.1) (fun v w' h hp hk2 hv => ?_)
  obtain ⟨rfl, rfl⟩ := hp
  have hv : mj_Vw h0 (wg (mo 0 tr wh (some q) rd F wd ac im (nI L) tk st sh ru rz aw al sd) q D hi er se (MA 1) (MA 3) (MA 4) V r SN g f) h := hv
  repeat (first | refine g_px rfl rfl rfl ?_)
  refine g_put hv 0 rfl rfl rfl rfl rfl rfl (fun h hv => ?_)
  have hv : mj_Vw h0 (wg (mo 0 tr wh (some q) rd F wd ac im (nI L) tk st sh ru rz aw al (nI s)) q D hi er se (MA 1) (MA 3) (MA 4) V r SN g f) h := hv
  have loop : ∀ j k h r g f tk st, k + j = c → mj_Vw h0 (wg (mo 0 tr wh (some q) rd F wd ac im (nI L) tk st sh ru rz aw al (nI (dsk (D 1) s k))) q D hi er se (MA 1) (MA 3) (MA 4) V r SN g f) h → mj_go sta (mj_Cl sta (d + 4)) m_X10_lossIn T 49 [some (.ref 151), some (.int (nI s)), some (.int (nI c)), some (.int 0), some (.int (nI (lsI D MA L SN C s k))), some (.int (nI k))] [] h := by
    intro j
    induction j with
    | zero =>
      intro k h r g f tk st hk hv
      have hk : k = c := by omega
      subst hk
      repeat (first | refine g_px rfl rfl rfl ?_)
      refine g_ic rfl (fun cq => ?_) (fun cq => absurd (nI_le (Nat.le_refl k) (by omega)) cq)
      repeat (first | refine g_px rfl rfl rfl ?_)
      refine g_callV hv [0] 0 rfl rfl rfl rfl rfl rfl rfl rfl (by decide) (s_Mgood sta (d + 3) 0 tr wh (some q) rd F wd ac im (nI L) tk st sh ru rz aw al (nI (dsk (D 1) s k)) _) (fun v w' h hp hk2 hv => ?_)
      obtain ⟨rfl, rfl⟩ := hp
      subst hT
      exact g_iret hv rfl rfl rfl rfl ⟨rfl, _, _, _, _, _, _, _, _, rfl⟩
    | succ j ih =>
      intro k h r g f tk st hk hv
      have hsd := dsk_lt (n := D 1) hs k
      have hpr := dR_prm (n := D 1) (s := dsk (D 1) s k)
      have hT6 : qT D MA L SN (dR (D 1) (dsk (D 1) s k)) < 64 := cms_lt' hn hpr (D 1) (Nat.le_refl _)
      have hGok := qG_ok (D := D) (DA := MA) (lw := L) (sn := SN) (C := C) (r := dR (D 1) (dsk (D 1) s k)) hn
      repeat (first | refine g_px rfl rfl rfl ?_)
      refine g_ic rfl (fun cq => ?_) (fun cq => ?_)
      · simp (disch := omega) only [mj_cp, k_6, k_7, k_8, k_9, k_10, k_12, k_15, k_16, k_18, k_20, k_24, k_25, k_26, k_27, k_28, k_32, k_36, k_48, k_57, k_59, k_63, k_74, k_75, k_84, k_90, k_97, k_99, k_100, k_122, k_200, k_255, k_420, k_448, k_720, k_800, k_999, k_bit, k_shl, fa_and, nI_add, bl_1, bl_0, bl_n1, bl_n0, bl_i1, nI_lt0, nI_0le, nI_eq0, nI_eqT, nI_leI, nI_ltI, nI_eq, Nat.not_le, Nat.not_lt, Bool.not_eq_true, Bool.not_eq_false, not_true_eq_false, not_false_eq_true, Decidable.not_not] at cq
        omega
      · repeat (first | refine g_px rfl rfl rfl ?_)
        refine g_callV hv [0, 1, 6] 0 rfl rfl rfl rfl rfl rfl rfl rfl (by decide) (s_MdrawsRow sta (d + 2) 0 tr wh q rd F wd ac im (nI L) tk st sh ru rz aw al D hi er se r (dsk (D 1) s k) hsd hn) (fun v w' h hp hk2 hv => ?_)
        obtain ⟨rfl, rfl⟩ := hp
        have hv : mj_Vw h0 (wg (mo 0 tr wh (some q) rd F wd ac im (nI L) tk st sh ru rz aw al (nI (dsk (D 1) s (k + 1)))) q D hi er se (MA 1) (MA 3) (MA 4) V (dR (D 1) (dsk (D 1) s k)) SN g f) h := hv
        repeat (first | refine g_px rfl rfl rfl ?_)
        refine g_callV hv [0, 1, 2, 3, 4, 5, 6, 7, 8, 9] 0 rfl rfl rfl rfl rfl rfl rfl rfl (by decide) (s_Mplays sta (d + 1) 0 tr wh q rd F wd ac im tk st sh ru rz aw al (nI (dsk (D 1) s (k + 1))) D hi er se (MA 1) (MA 3) (MA 4) V (dR (D 1) (dsk (D 1) s k)) SN g f L C hV.2.2 hpr hn ht hL hW hA hK hsn hC) (fun v w' h hp hk2 hv => ?_)
        obtain ⟨rfl, rfl⟩ := hp
        generalize rnf (D 1) (rT (D 1) (D 0) L SN (MA 4) (dR (D 1) (dsk (D 1) s k))) (dR (D 1) (dsk (D 1) s k)) SN (MA 1) (MA 3) C (D 1) = fj at hv
        have hv : mj_Vw h0 (wg (mo 0 tr wh (some q) rd F wd ac im (nI L) (nI (qT D MA L SN (dR (D 1) (dsk (D 1) s k)))) (nI (qS D MA L SN C (dR (D 1) (dsk (D 1) s k)))) sh ru rz aw al (nI (dsk (D 1) s (k + 1)))) q D hi er se (MA 1) (MA 3) (MA 4) V (dR (D 1) (dsk (D 1) s k)) SN (mix (D 1) g (qG D MA L SN C (dR (D 1) (dsk (D 1) s k)))) (mix (D 1) f fj)) h := hv
        have hGm : ∀ m x, m < D 1 → mix (D 1) g (qG D MA L SN C (dR (D 1) (dsk (D 1) s k))) m = some x → x < 6 := fun m x hm e => by
          rw [show mix (D 1) g (qG D MA L SN C (dR (D 1) (dsk (D 1) s k))) m = (qG D MA L SN C (dR (D 1) (dsk (D 1) s k))) m from if_pos hm] at e
          exact hGok m x e
        repeat (first | refine g_px rfl rfl rfl ?_)
        refine g_callV hv [0, 1] 0 rfl rfl rfl rfl rfl rfl rfl rfl (by decide) (s_Meverybody sta (d + 3) 0 tr wh q rd F wd ac im (nI L) (nI (qT D MA L SN (dR (D 1) (dsk (D 1) s k)))) (nI (qS D MA L SN C (dR (D 1) (dsk (D 1) s k)))) sh ru rz aw al (nI (dsk (D 1) s (k + 1))) D hi er se hn) (fun v w' h hp hk2 hv => ?_)
        obtain ⟨rfl, rfl⟩ := hp
        have hv : mj_Vw h0 (wg (mo 0 tr wh (some q) rd F wd ac im (nI L) (nI (qT D MA L SN (dR (D 1) (dsk (D 1) s k)))) (nI (qS D MA L SN C (dR (D 1) (dsk (D 1) s k)))) sh ru rz aw al (nI (dsk (D 1) s (k + 1)))) q D hi er se (MA 1) (MA 3) (MA 4) V (dR (D 1) (dsk (D 1) s k)) SN (mix (D 1) g (qG D MA L SN C (dR (D 1) (dsk (D 1) s k)))) (mix (D 1) f fj)) h := hv
        refine g_callV hv [0, 1, 2, 3, 8] 0 rfl rfl rfl rfl rfl rfl rfl rfl (by decide) (s_MlossOfAll sta (d + 1) 0 tr wh q rd F wd ac im (nI L) (nI (qS D MA L SN C (dR (D 1) (dsk (D 1) s k)))) sh ru rz aw al (nI (dsk (D 1) s (k + 1))) D hi er se (MA 1) (MA 3) (mix (D 1) g (qG D MA L SN C (dR (D 1) (dsk (D 1) s k)))) (qT D MA L SN (dR (D 1) (dsk (D 1) s k))) (2 ^ D 1 - 1) hT6 (by omega) hn hGm) (fun v w' h hp hk2 hv => ?_)
        obtain ⟨rfl, rfl⟩ := hp
        have hv : mj_Vw h0 (wg (mo 0 tr wh (some q) rd F wd ac im (nI L) (nI (qT D MA L SN (dR (D 1) (dsk (D 1) s k)))) (nI (qS D MA L SN C (dR (D 1) (dsk (D 1) s k)))) sh ru rz aw al (nI (dsk (D 1) s (k + 1)))) q D hi er se (MA 1) (MA 3) (MA 4) V (dR (D 1) (dsk (D 1) s k)) SN (mix (D 1) g (qG D MA L SN C (dR (D 1) (dsk (D 1) s k)))) (mix (D 1) f fj)) h := hv
        rw [lsc_mix]
        have hnx := ih (k + 1) h _ _ _ _ _ (by omega) hv
        have hst : lsI D MA L SN C s (k + 1) = lsI D MA L SN C s k + fb_sm (lsc (2 ^ D 1 - 1) (qT D MA L SN (dR (D 1) (dsk (D 1) s k))) (qG D MA L SN C (dR (D 1) (dsk (D 1) s k))) (MA 1) (MA 3)) (D 1) := by
          unfold lsI
          rw [fb_sm_succ]
          congr 1
          refine fb_sm_cong (fun m hm => ?_)
          unfold lsc
          rw [Nat.testBit_two_pow_sub_one, decide_eq_true hm, if_pos rfl]
        rw [nI_succ, hst] at hnx
        refine g_run 1 rfl ?_
        rw [nI_add]
        refine g_run 3 rfl ?_
        exact hnx
  refine g_run 4 rfl ?_
  exact loop c 0 h _ _ _ _ _ (by omega) hv
theorem s_MlossIn_u (x y : Int32) : mj_Sx sta (d + 3) 266 [.ref 151, .int x, .int y] [(mo th tr wh none rd F wd ac im lw tk st sh ru rz aw al sd)] (fun v w => v = some (.int (-1)) ∧ w = [(mo 0 1 (-1) none rd F wd ac im lw tk st sh ru rz aw al sd)]) := by
  refine mj_Sx.mk m_X10_lossIn (by decide) n_X10_lossIn rfl (fun h0 hv => ?_)
  generalize hT : mj_rx m_X10_lossIn h0 _ _ = T
  repeat (first | refine g_px rfl rfl rfl ?_)
  refine g_put hv 0 rfl rfl rfl rfl rfl rfl (fun h hv => ?_)
  have hv : mj_Vw h0 ([(mo 0 tr wh none rd F wd ac im lw tk st sh ru rz aw al sd)]) h := hv
  repeat (first | refine g_px rfl rfl rfl ?_ | refine g_get hv 0 rfl rfl rfl rfl ?_)
  refine g_callV hv [] 0 rfl rfl rfl rfl rfl rfl rfl rfl (by decide) (s_MrefusesDrafts0 sta (d + 1) x y) (fun v w' h hp hk2 hv => ?_)
  obtain ⟨rfl, rfl⟩ := hp
  have hv : mj_Vw h0 ([(mo 0 tr wh none rd F wd ac im lw tk st sh ru rz aw al sd)]) h := hv
  repeat (first | refine g_px rfl rfl rfl ?_)
  refine g_if rfl (fun cq => absurd cq (cpF (by decide))) (fun cq => ?_)
  repeat (first | refine g_px rfl rfl rfl ?_)
  refine g_callV hv [0] 0 rfl rfl rfl rfl rfl rfl rfl rfl (by decide) (s_Mrefused sta (d + 1) 0 tr wh none rd F wd ac im lw tk st sh ru rz aw al sd _) (fun v w' h hp hk2 hv => ?_)
  obtain ⟨rfl, rfl⟩ := hp
  subst hT
  exact g_iret hv rfl rfl rfl rfl ⟨rfl, rfl⟩
theorem s_MlossIn_2 (x y : Int32) (hno : (inR 65537 x && inD y) = false) : mj_Sx sta (d + 3) 266 [.ref 151, .int x, .int y] [(mo th tr wh (some q) rd F wd ac im lw tk st sh ru rz aw al sd)] (fun v w => v = some (.int (-1)) ∧ w = [(mo 0 2 (-1) (some q) rd F wd ac im lw tk st sh ru rz aw al sd)]) := by
  refine mj_Sx.mk m_X10_lossIn (by decide) n_X10_lossIn rfl (fun h0 hv => ?_)
  generalize hT : mj_rx m_X10_lossIn h0 _ _ = T
  repeat (first | refine g_px rfl rfl rfl ?_)
  refine g_put hv 0 rfl rfl rfl rfl rfl rfl (fun h hv => ?_)
  have hv : mj_Vw h0 ([(mo 0 tr wh (some q) rd F wd ac im lw tk st sh ru rz aw al sd)]) h := hv
  repeat (first | refine g_px rfl rfl rfl ?_ | refine g_get hv 0 rfl rfl rfl rfl ?_)
  refine g_callV hv [] 0 rfl rfl rfl rfl rfl rfl rfl rfl (by decide) (s_MrefusesDrafts sta d x y) (fun v w' h hp hk2 hv => ?_)
  obtain ⟨rfl, rfl⟩ := hp
  rw [hno]
  have hv : mj_Vw h0 ([(mo 0 tr wh (some q) rd F wd ac im lw tk st sh ru rz aw al sd)]) h := hv
  repeat (first | refine g_px rfl rfl rfl ?_)
  refine g_if rfl (fun cq => absurd cq (cpF (by decide))) (fun cq => ?_)
  repeat (first | refine g_px rfl rfl rfl ?_)
  refine g_callV hv [0] 0 rfl rfl rfl rfl rfl rfl rfl rfl (by decide) (s_Mrefused sta (d + 1) 0 tr wh (some q) rd F wd ac im lw tk st sh ru rz aw al sd _) (fun v w' h hp hk2 hv => ?_)
  obtain ⟨rfl, rfl⟩ := hp
  subst hT
  exact g_iret hv rfl rfl rfl rfl ⟨rfl, rfl⟩
end Mdr
