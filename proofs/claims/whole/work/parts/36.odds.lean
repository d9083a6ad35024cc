/-! LowNumber: odds -/
theorem inR_k {k n : Nat} (h : k < n) (hn : n < 2 ^ 31) : inR n (nI k) = true := by rw [inR_nI (by omega) hn, decide_eq_true h]
section Odds
variable (sta : mj_S) (d : Nat) (tr : Int32) (sl : Bool) (a b : Nat) (D : Nat → Nat) (DA : Nat → Nat → Nat) (N : Nat → Nat) (NA : Nat → Nat → Nat) (g : Nat → Option Nat) (X : CX)
theorem s_taken (k : Nat) (hk : k < D 1) (lo : Bool) (hF : stF sta) (hD : okD D DA) (h1 : 1 ≤ D 1) (hN : okN N NA g) (hX : okX X) (hs : sl = false → csk D DA (N 0) (NA 0) (NA 1) X) : mj_Sx sta (d + 6) 83 [.ref 0, (.int (nI k)), .int (bl lo)] (wod tr true a b sl D DA N NA g X) (fun v w => v = some (.long (lN (pfr (tot D DA (N 0) (NA 0) (NA 1) (fun T _ => if T.testBit k then 1 else 0)) (fac (D 1)) lo))) ∧ ∃ X', okX X' ∧ csk D DA (N 0) (NA 0) (NA 1) X' ∧ w = wod 0 true a b false D DA N NA g X') := by
  refine mj_Sx.mk m_X8_taken (by decide) n_X8_taken rfl (fun h0 hv => ?_)
  generalize hT : mj_rx m_X8_taken h0 _ _ = T
  have hD2 := hD
  obtain ⟨d0, d1, d3, d4, d5, d6, d7, d8, d2, a0, a1, a2, a3, a4, a5⟩ := hD2
  have hW : bd 1000 (DA 1) := bd_le a1 (by decide)
  have hA : bd 1000 (DA 3) := bd_le a3 (by decide)
  repeat (first | refine g_px rfl rfl rfl ?_)
  refine g_callV hv [0, 1] 0 rfl rfl rfl rfl rfl rfl rfl rfl (by decide) (s_isMan sta (d + 4) tr true sl a b D (nI k) d1) (fun v w' h hp hk2 hv => ?_)
  obtain ⟨rfl, rfl⟩ := hp
  rw [inR_k hk (by omega)]
  refine g_if rfl (fun cq => ?_) (fun cq => absurd (show ¬ bl true = 0 by decide) cq)
  have hv : mj_Vw h0 (wod tr true a b sl D DA N NA g X) h := hv
  repeat (first | refine g_px rfl rfl rfl ?_)
  refine g_callV hv [0, 1, 2, 3, 4, 5, 6, 7, 8, 9, 10, 11, 12, 13, 14, 15, 16, 17, 18, 19] 0 rfl rfl rfl rfl rfl rfl rfl rfl (by decide) (s_table sta d tr sl a b D DA N NA g X hF hD h1 hN hX hs) (fun v w' h hp hk2 hv => ?_)
  obtain ⟨rfl, ⟨⟨tb, sb, cl, mn⟩, r', g', ct, K, G, E⟩, hX', hc, rfl⟩ := hp
  have hmn : mn = nI (D 1) := hc.1
  subst hmn
  have hX2 := hX'
  obtain ⟨x1, x2, x3, x4, x5⟩ := hX2
  have hv : mj_Vw h0 (wod tr true a b false D DA N NA g ((tb, sb, cl, nI (D 1)), r', g', ct, K, G, E)) h := hv
  repeat (first | refine g_px rfl rfl rfl ?_ | refine g_get hv 0 rfl rfl rfl rfl ?_ | refine g_get hv 1 rfl rfl rfl rfl ?_)
  refine g_callV hv [13, 17, 18, 19] 13 rfl rfl rfl rfl rfl rfl rfl rfl (by decide) (s_wTaken sta (d + 3) 130 ct (D 1) k K G E x3 x5 x2 (by omega)) (fun v w' h hp hk2 hv => ?_)
  obtain ⟨rfl, rfl⟩ := hp
  have e : fb_sm (fun x => if (K x).testBit k then E x else 0) ct = tot D DA (N 0) (NA 0) (NA 1) (fun T _ => if T.testBit k then 1 else 0) := csk_if ⟨h1, d1⟩ hc (fun T _ => T.testBit k)
  rw [e]
  have hb := tot_le (DA := DA) (lw := N 0) (sn := NA 0) (C := NA 1) (φ := fun T _ => if T.testBit k then 1 else 0) (c := 1) d1 (fun T g => by split <;> omega)
  generalize tot D DA (N 0) (NA 0) (NA 1) (fun T _ => if T.testBit k then 1 else 0) = U at *
  have hv : mj_Vw h0 (wod tr true a b false D DA N NA g ((tb, sb, cl, nI (D 1)), r', g', ct, K, G, E)) h := hv
  repeat (first | refine g_px rfl rfl rfl ?_)
  refine g_callV hv [0, 1] 0 rfl rfl rfl rfl rfl rfl rfl rfl (by decide) (s_odds sta hF (d + 2) U tr true false lo a b D d1 (by omega)) (fun v w' h hp hk2 hv => ?_)
  obtain ⟨rfl, rfl⟩ := hp
  subst hT
  exact g_lret hv rfl rfl rfl ⟨rfl, ((tb, sb, cl, nI (D 1)), r', g', ct, K, G, E), hX', hc, rfl⟩
theorem s_goes (k : Nat) (hk : k < D 1) (lo : Bool) (hF : stF sta) (hD : okD D DA) (h1 : 1 ≤ D 1) (hN : okN N NA g) (hX : okX X) (hs : sl = false → csk D DA (N 0) (NA 0) (NA 1) X) : mj_Sx sta (d + 6) 84 [.ref 0, (.int (nI k)), .int (bl lo)] (wod tr true a b sl D DA N NA g X) (fun v w => v = some (.long (lN (pfr (tot D DA (N 0) (NA 0) (NA 1) (fun T g => if gos (D 1) T g k then 1 else 0)) (fac (D 1)) lo))) ∧ ∃ X', okX X' ∧ csk D DA (N 0) (NA 0) (NA 1) X' ∧ w = wod 0 true a b false D DA N NA g X') := by
  refine mj_Sx.mk m_X8_goes (by decide) n_X8_goes rfl (fun h0 hv => ?_)
  generalize hT : mj_rx m_X8_goes h0 _ _ = T
  have hD2 := hD
  obtain ⟨d0, d1, d3, d4, d5, d6, d7, d8, d2, a0, a1, a2, a3, a4, a5⟩ := hD2
  have hW : bd 1000 (DA 1) := bd_le a1 (by decide)
  have hA : bd 1000 (DA 3) := bd_le a3 (by decide)
  repeat (first | refine g_px rfl rfl rfl ?_)
  refine g_callV hv [0, 1] 0 rfl rfl rfl rfl rfl rfl rfl rfl (by decide) (s_isMan sta (d + 4) tr true sl a b D (nI k) d1) (fun v w' h hp hk2 hv => ?_)
  obtain ⟨rfl, rfl⟩ := hp
  rw [inR_k hk (by omega)]
  refine g_if rfl (fun cq => ?_) (fun cq => absurd (show ¬ bl true = 0 by decide) cq)
  have hv : mj_Vw h0 (wod tr true a b sl D DA N NA g X) h := hv
  repeat (first | refine g_px rfl rfl rfl ?_)
  refine g_callV hv [0, 1, 2, 3, 4, 5, 6, 7, 8, 9, 10, 11, 12, 13, 14, 15, 16, 17, 18, 19] 0 rfl rfl rfl rfl rfl rfl rfl rfl (by decide) (s_table sta d tr sl a b D DA N NA g X hF hD h1 hN hX hs) (fun v w' h hp hk2 hv => ?_)
  obtain ⟨rfl, ⟨⟨tb, sb, cl, mn⟩, r', g', ct, K, G, E⟩, hX', hc, rfl⟩ := hp
  have hmn : mn = nI (D 1) := hc.1
  subst hmn
  have hX2 := hX'
  obtain ⟨x1, x2, x3, x4, x5⟩ := hX2
  have hv : mj_Vw h0 (wod tr true a b false D DA N NA g ((tb, sb, cl, nI (D 1)), r', g', ct, K, G, E)) h := hv
  repeat (first | refine g_px rfl rfl rfl ?_ | refine g_get hv 0 rfl rfl rfl rfl ?_ | refine g_get hv 1 rfl rfl rfl rfl ?_)
  refine g_callV hv [13, 17, 18, 19] 13 rfl rfl rfl rfl rfl rfl rfl rfl (by decide) (s_wGoing sta (d + 2) 130 ct (D 1) k K G E x3 x4 x5 x2 (by omega) d1) (fun v w' h hp hk2 hv => ?_)
  obtain ⟨rfl, rfl⟩ := hp
  have e : fb_sm (fun x => if gos (D 1) (K x) (G x) k then E x else 0) ct = tot D DA (N 0) (NA 0) (NA 1) (fun T g => if gos (D 1) T g k then 1 else 0) := csk_if ⟨h1, d1⟩ hc (fun T g => gos (D 1) T g k)
  rw [e]
  have hb := tot_le (DA := DA) (lw := N 0) (sn := NA 0) (C := NA 1) (φ := fun T g => if gos (D 1) T g k then 1 else 0) (c := 1) d1 (fun T g => by split <;> omega)
  generalize tot D DA (N 0) (NA 0) (NA 1) (fun T g => if gos (D 1) T g k then 1 else 0) = U at *
  have hv : mj_Vw h0 (wod tr true a b false D DA N NA g ((tb, sb, cl, nI (D 1)), r', g', ct, K, G, E)) h := hv
  repeat (first | refine g_px rfl rfl rfl ?_)
  refine g_callV hv [0, 1] 0 rfl rfl rfl rfl rfl rfl rfl rfl (by decide) (s_odds sta hF (d + 2) U tr true false lo a b D d1 (by omega)) (fun v w' h hp hk2 hv => ?_)
  obtain ⟨rfl, rfl⟩ := hp
  subst hT
  exact g_lret hv rfl rfl rfl ⟨rfl, ((tb, sb, cl, nI (D 1)), r', g', ct, K, G, E), hX', hc, rfl⟩
theorem s_goesFor (k q : Nat) (hk : k < D 1) (hq : q < D 1) (hne : k ≠ q) (lo : Bool) (hF : stF sta) (hD : okD D DA) (h1 : 1 ≤ D 1) (hN : okN N NA g) (hX : okX X) (hs : sl = false → csk D DA (N 0) (NA 0) (NA 1) X) : mj_Sx sta (d + 6) 85 [.ref 0, (.int (nI k)), (.int (nI q)), .int (bl lo)] (wod tr true a b sl D DA N NA g X) (fun v w => v = some (.long (lN (pfr (tot D DA (N 0) (NA 0) (NA 1) (fun _ g => if decide (g q = some k) then 1 else 0)) (fac (D 1)) lo))) ∧ ∃ X', okX X' ∧ csk D DA (N 0) (NA 0) (NA 1) X' ∧ w = wod 0 true a b false D DA N NA g X') := by
  refine mj_Sx.mk m_X8_goesFor (by decide) n_X8_goesFor rfl (fun h0 hv => ?_)
  generalize hT : mj_rx m_X8_goesFor h0 _ _ = T
  have hD2 := hD
  obtain ⟨d0, d1, d3, d4, d5, d6, d7, d8, d2, a0, a1, a2, a3, a4, a5⟩ := hD2
  have hW : bd 1000 (DA 1) := bd_le a1 (by decide)
  have hA : bd 1000 (DA 3) := bd_le a3 (by decide)
  repeat (first | refine g_px rfl rfl rfl ?_)
  refine g_callV hv [0, 1] 0 rfl rfl rfl rfl rfl rfl rfl rfl (by decide) (s_isMan sta (d + 4) tr true sl a b D (nI k) d1) (fun v w' h hp hk2 hv => ?_)
  obtain ⟨rfl, rfl⟩ := hp
  rw [inR_k hk (by omega)]
  refine g_if rfl (fun cq => absurd cq (show ¬ bl true = 0 by decide)) (fun cq => ?_)
  have hv : mj_Vw h0 (wod tr true a b sl D DA N NA g X) h := hv
  repeat (first | refine g_px rfl rfl rfl ?_)
  refine g_callV hv [0, 1] 0 rfl rfl rfl rfl rfl rfl rfl rfl (by decide) (s_isMan sta (d + 4) tr true sl a b D (nI q) d1) (fun v w' h hp hk2 hv => ?_)
  obtain ⟨rfl, rfl⟩ := hp
  rw [inR_k hq (by omega)]
  refine g_if rfl (fun cq => absurd cq (show ¬ bl true = 0 by decide)) (fun cq => ?_)
  have hv : mj_Vw h0 (wod tr true a b sl D DA N NA g X) h := hv
  repeat (first | refine g_px rfl rfl rfl ?_)
  refine g_ic rfl (fun cq => ?_) (fun cq => absurd (fun z => hne ((nI_eq (by omega) (by omega)).mp z)) cq)
  repeat (first | refine g_px rfl rfl rfl ?_)
  refine g_callV hv [0, 1, 2, 3, 4, 5, 6, 7, 8, 9, 10, 11, 12, 13, 14, 15, 16, 17, 18, 19] 0 rfl rfl rfl rfl rfl rfl rfl rfl (by decide) (s_table sta d tr sl a b D DA N NA g X hF hD h1 hN hX hs) (fun v w' h hp hk2 hv => ?_)
  obtain ⟨rfl, ⟨⟨tb, sb, cl, mn⟩, r', g', ct, K, G, E⟩, hX', hc, rfl⟩ := hp
  have hmn : mn = nI (D 1) := hc.1
  subst hmn
  have hX2 := hX'
  obtain ⟨x1, x2, x3, x4, x5⟩ := hX2
  have hv : mj_Vw h0 (wod tr true a b false D DA N NA g ((tb, sb, cl, nI (D 1)), r', g', ct, K, G, E)) h := hv
  repeat (first | refine g_px rfl rfl rfl ?_ | refine g_get hv 0 rfl rfl rfl rfl ?_ | refine g_get hv 1 rfl rfl rfl rfl ?_)
  refine g_callV hv [13, 17, 18, 19] 13 rfl rfl rfl rfl rfl rfl rfl rfl (by decide) (s_wSent sta (d + 3) 130 ct (D 1) k K G E q x4 x5 x2 (by omega) (by omega)) (fun v w' h hp hk2 hv => ?_)
  obtain ⟨rfl, rfl⟩ := hp
  have e : fb_sm (fun x => if decide (G x q = some k) then E x else 0) ct = tot D DA (N 0) (NA 0) (NA 1) (fun _ g => if decide (g q = some k) then 1 else 0) := csk_if ⟨h1, d1⟩ hc (fun _ g => decide (g q = some k))
  rw [e]
  have hb := tot_le (DA := DA) (lw := N 0) (sn := NA 0) (C := NA 1) (φ := fun _ g => if decide (g q = some k) then 1 else 0) (c := 1) d1 (fun T g => by split <;> omega)
  generalize tot D DA (N 0) (NA 0) (NA 1) (fun _ g => if decide (g q = some k) then 1 else 0) = U at *
  have hv : mj_Vw h0 (wod tr true a b false D DA N NA g ((tb, sb, cl, nI (D 1)), r', g', ct, K, G, E)) h := hv
  repeat (first | refine g_px rfl rfl rfl ?_)
  refine g_callV hv [0, 1] 0 rfl rfl rfl rfl rfl rfl rfl rfl (by decide) (s_odds sta hF (d + 2) U tr true false lo a b D d1 (by omega)) (fun v w' h hp hk2 hv => ?_)
  obtain ⟨rfl, rfl⟩ := hp
  subst hT
  exact g_lret hv rfl rfl rfl ⟨rfl, ((tb, sb, cl, nI (D 1)), r', g', ct, K, G, E), hX', hc, rfl⟩
theorem s_loss (k : Nat) (hk : k < D 1) (lo : Bool) (hF : stF sta) (hD : okD D DA) (h1 : 1 ≤ D 1) (hN : okN N NA g) (hX : okX X) (hs : sl = false → csk D DA (N 0) (NA 0) (NA 1) X) : mj_Sx sta (d + 6) 86 [.ref 0, (.int (nI k)), .int (bl lo)] (wod tr true a b sl D DA N NA g X) (fun v w => v = some (.long (lN (pfr (tot D DA (N 0) (NA 0) (NA 1) (fun T g => fb_sm (lsc (2 ^ k) T g (DA 1) (DA 3)) (D 1))) (fac (D 1)) lo))) ∧ ∃ X', okX X' ∧ csk D DA (N 0) (NA 0) (NA 1) X' ∧ w = wod 0 true a b false D DA N NA g X') := by
  refine mj_Sx.mk m_X8_loss (by decide) n_X8_loss rfl (fun h0 hv => ?_)
  generalize hT : mj_rx m_X8_loss h0 _ _ = T
  have hD2 := hD
  obtain ⟨d0, d1, d3, d4, d5, d6, d7, d8, d2, a0, a1, a2, a3, a4, a5⟩ := hD2
  have hW : bd 1000 (DA 1) := bd_le a1 (by decide)
  have hA : bd 1000 (DA 3) := bd_le a3 (by decide)
  repeat (first | refine g_px rfl rfl rfl ?_)
  refine g_callV hv [0, 1] 0 rfl rfl rfl rfl rfl rfl rfl rfl (by decide) (s_isMan sta (d + 4) tr true sl a b D (nI k) d1) (fun v w' h hp hk2 hv => ?_)
  obtain ⟨rfl, rfl⟩ := hp
  rw [inR_k hk (by omega)]
  refine g_if rfl (fun cq => ?_) (fun cq => absurd (show ¬ bl true = 0 by decide) cq)
  have hv : mj_Vw h0 (wod tr true a b sl D DA N NA g X) h := hv
  repeat (first | refine g_px rfl rfl rfl ?_)
  refine g_callV hv [0, 1, 2, 3, 4, 5, 6, 7, 8, 9, 10, 11, 12, 13, 14, 15, 16, 17, 18, 19] 0 rfl rfl rfl rfl rfl rfl rfl rfl (by decide) (s_table sta d tr sl a b D DA N NA g X hF hD h1 hN hX hs) (fun v w' h hp hk2 hv => ?_)
  obtain ⟨rfl, ⟨⟨tb, sb, cl, mn⟩, r', g', ct, K, G, E⟩, hX', hc, rfl⟩ := hp
  have hmn : mn = nI (D 1) := hc.1
  subst hmn
  have hX2 := hX'
  obtain ⟨x1, x2, x3, x4, x5⟩ := hX2
  have hv : mj_Vw h0 (wod tr true a b false D DA N NA g ((tb, sb, cl, nI (D 1)), r', g', ct, K, G, E)) h := hv
  repeat (first | refine g_px rfl rfl rfl ?_ | refine g_get hv 0 rfl rfl rfl rfl ?_ | refine g_get hv 1 rfl rfl rfl rfl ?_)
  rw [k_shl (show k < 31 by omega)]
  refine g_callV hv [13, 17, 18, 1, 3, 5, 19] 13 rfl rfl rfl rfl rfl rfl rfl rfl (by decide) (s_lossOf sta (d + 2) 130 a ct (D 1) (2 ^ k) (D 0) (nI (D 2)) (nI (D 3)) (nI (D 4)) (nI (D 5)) (nI (D 6)) (nI (D 7)) (nI (D 8)) K G E (DA 1) (DA 3) x3 x4 x5 x2 d1 hW hA) (fun v w' h hp hk2 hv => ?_)
  obtain ⟨rfl, rfl⟩ := hp
  have e : fb_sm (fun x => E x * fb_sm (lsc (2 ^ k) (K x) (G x) (DA 1) (DA 3)) (D 1)) ct = tot D DA (N 0) (NA 0) (NA 1) (fun T g => fb_sm (lsc (2 ^ k) T g (DA 1) (DA 3)) (D 1)) := csk_sum ⟨h1, d1⟩ hc (fun T g => fb_sm (lsc (2 ^ k) T g (DA 1) (DA 3)) (D 1))
  rw [e]
  have hb := tot_le (DA := DA) (lw := N 0) (sn := NA 0) (C := NA 1) (φ := fun T g => fb_sm (lsc (2 ^ k) T g (DA 1) (DA 3)) (D 1)) (c := 6000) d1 (fun T g => lss_lt hW hA d1)
  generalize tot D DA (N 0) (NA 0) (NA 1) (fun T g => fb_sm (lsc (2 ^ k) T g (DA 1) (DA 3)) (D 1)) = U at *
  have hv : mj_Vw h0 (wod tr true a b false D DA N NA g ((tb, sb, cl, nI (D 1)), r', g', ct, K, G, E)) h := hv
  repeat (first | refine g_px rfl rfl rfl ?_)
  refine g_callV hv [0, 1] 0 rfl rfl rfl rfl rfl rfl rfl rfl (by decide) (s_odds sta hF (d + 2) U tr true false lo a b D d1 (by omega)) (fun v w' h hp hk2 hv => ?_)
  obtain ⟨rfl, rfl⟩ := hp
  subst hT
  exact g_lret hv rfl rfl rfl ⟨rfl, ((tb, sb, cl, nI (D 1)), r', g', ct, K, G, E), hX', hc, rfl⟩
theorem s_ruin (k y : Nat) (hk0 : 0 < k) (hk : k < 2 ^ D 1) (hy : y < 1000) (lo : Bool) (hF : stF sta) (hD : okD D DA) (h1 : 1 ≤ D 1) (hN : okN N NA g) (hX : okX X) (hs : sl = false → csk D DA (N 0) (NA 0) (NA 1) X) : mj_Sx sta (d + 6) 88 [.ref 0, (.int (nI k)), (.int (nI y)), .int (bl lo)] (wod tr true a b sl D DA N NA g X) (fun v w => v = some (.long (lN (pfr (tot D DA (N 0) (NA 0) (NA 1) (fun T g => if decide (y < fb_sm (lsc k T g (DA 1) (DA 3)) (D 1)) then 1 else 0)) (fac (D 1)) lo))) ∧ ∃ X', okX X' ∧ csk D DA (N 0) (NA 0) (NA 1) X' ∧ w = wod 0 true a b false D DA N NA g X') := by
  refine mj_Sx.mk m_X8_ruin (by decide) n_X8_ruin rfl (fun h0 hv => ?_)
  generalize hT : mj_rx m_X8_ruin h0 _ _ = T
  have hD2 := hD
  obtain ⟨d0, d1, d3, d4, d5, d6, d7, d8, d2, a0, a1, a2, a3, a4, a5⟩ := hD2
  have hW : bd 1000 (DA 1) := bd_le a1 (by decide)
  have hA : bd 1000 (DA 3) := bd_le a3 (by decide)
  repeat (first | refine g_px rfl rfl rfl ?_)
  refine g_callV hv [0, 1] 0 rfl rfl rfl rfl rfl rfl rfl rfl (by decide) (s_isClub sta (d + 3) tr true sl a b D (nI k) d1) (fun v w' h hp hk2 hv => ?_)
  obtain ⟨rfl, rfl⟩ := hp
  rw [inR_k hk (by have := p6 d1; omega)]
  refine g_if rfl (fun cq => absurd cq (show ¬ bl true = 0 by decide)) (fun cq => ?_)
  have hv : mj_Vw h0 (wod tr true a b sl D DA N NA g X) h := hv
  have hp6 := p6 d1
  repeat (first | refine g_px rfl rfl rfl ?_)
  refine g_if rfl (fun cq => ?_) (fun cq => absurd (nI_ne0 (n := k) hk0 (by omega)) cq)
  repeat (first | refine g_px rfl rfl rfl ?_)
  refine g_if rfl (fun cq => absurd cq (nI_pos (by omega))) (fun cq => ?_)
  repeat (first | refine g_px rfl rfl rfl ?_)
  refine g_ic rfl (fun cq => ?_) (fun cq => absurd (nI_le (a := y) (b := 999) (by omega) (by decide)) cq)
  repeat (first | refine g_px rfl rfl rfl ?_)
  refine g_callV hv [0, 1, 2, 3, 4, 5, 6, 7, 8, 9, 10, 11, 12, 13, 14, 15, 16, 17, 18, 19] 0 rfl rfl rfl rfl rfl rfl rfl rfl (by decide) (s_table sta d tr sl a b D DA N NA g X hF hD h1 hN hX hs) (fun v w' h hp hk2 hv => ?_)
  obtain ⟨rfl, ⟨⟨tb, sb, cl, mn⟩, r', g', ct, K, G, E⟩, hX', hc, rfl⟩ := hp
  have hmn : mn = nI (D 1) := hc.1
  subst hmn
  have hX2 := hX'
  obtain ⟨x1, x2, x3, x4, x5⟩ := hX2
  have hv : mj_Vw h0 (wod tr true a b false D DA N NA g ((tb, sb, cl, nI (D 1)), r', g', ct, K, G, E)) h := hv
  repeat (first | refine g_px rfl rfl rfl ?_ | refine g_get hv 0 rfl rfl rfl rfl ?_ | refine g_get hv 1 rfl rfl rfl rfl ?_)
  refine g_callV hv [13, 17, 18, 1, 3, 5, 19] 13 rfl rfl rfl rfl rfl rfl rfl rfl (by decide) (s_wLosing sta (d + 2) 130 a ct (D 1) k (D 0) (nI (D 2)) (nI (D 3)) (nI (D 4)) (nI (D 5)) (nI (D 6)) (nI (D 7)) (nI (D 8)) K G E (DA 1) (DA 3) y hy x3 x4 x5 x2 d1 hW hA) (fun v w' h hp hk2 hv => ?_)
  obtain ⟨rfl, rfl⟩ := hp
  have e : fb_sm (fun x => if decide (y < fb_sm (lsc k (K x) (G x) (DA 1) (DA 3)) (D 1)) then E x else 0) ct = tot D DA (N 0) (NA 0) (NA 1) (fun T g => if decide (y < fb_sm (lsc k T g (DA 1) (DA 3)) (D 1)) then 1 else 0) := csk_if ⟨h1, d1⟩ hc (fun T g => decide (y < fb_sm (lsc k T g (DA 1) (DA 3)) (D 1)))
  rw [e]
  have hb := tot_le (DA := DA) (lw := N 0) (sn := NA 0) (C := NA 1) (φ := fun T g => if decide (y < fb_sm (lsc k T g (DA 1) (DA 3)) (D 1)) then 1 else 0) (c := 1) d1 (fun T g => by split <;> omega)
  generalize tot D DA (N 0) (NA 0) (NA 1) (fun T g => if decide (y < fb_sm (lsc k T g (DA 1) (DA 3)) (D 1)) then 1 else 0) = U at *
  have hv : mj_Vw h0 (wod tr true a b false D DA N NA g ((tb, sb, cl, nI (D 1)), r', g', ct, K, G, E)) h := hv
  repeat (first | refine g_px rfl rfl rfl ?_)
  refine g_callV hv [0, 1] 0 rfl rfl rfl rfl rfl rfl rfl rfl (by decide) (s_odds sta hF (d + 2) U tr true false lo a b D d1 (by omega)) (fun v w' h hp hk2 hv => ?_)
  obtain ⟨rfl, rfl⟩ := hp
  subst hT
  exact g_lret hv rfl rfl rfl ⟨rfl, ((tb, sb, cl, nI (D 1)), r', g', ct, K, G, E), hX', hc, rfl⟩
theorem s_shortOf  (lo : Bool) (hF : stF sta) (hD : okD D DA) (h1 : 1 ≤ D 1) (hN : okN N NA g) (hX : okX X) (hs : sl = false → csk D DA (N 0) (NA 0) (NA 1) X) : mj_Sx sta (d + 6) 90 [.ref 0, .int (bl lo)] (wod tr true a b sl D DA N NA g X) (fun v w => v = some (.long (lN (pfr (tot D DA (N 0) (NA 0) (NA 1) (fun T _ => if decide (pop T < D 0) then 1 else 0)) (fac (D 1)) lo))) ∧ ∃ X', okX X' ∧ csk D DA (N 0) (NA 0) (NA 1) X' ∧ w = wod 0 true a b false D DA N NA g X') := by
  refine mj_Sx.mk m_X8_shortOf (by decide) n_X8_shortOf rfl (fun h0 hv => ?_)
  generalize hT : mj_rx m_X8_shortOf h0 _ _ = T
  have hD2 := hD
  obtain ⟨d0, d1, d3, d4, d5, d6, d7, d8, d2, a0, a1, a2, a3, a4, a5⟩ := hD2
  have hW : bd 1000 (DA 1) := bd_le a1 (by decide)
  have hA : bd 1000 (DA 3) := bd_le a3 (by decide)
  repeat (first | refine g_px rfl rfl rfl ?_ | refine g_get hv 0 rfl rfl rfl rfl ?_)
  refine g_if rfl (fun cq => ?_) (fun cq => absurd (show ¬ bl true = 0 by decide) cq)
  repeat (first | refine g_px rfl rfl rfl ?_)
  refine g_callV hv [0, 1, 2, 3, 4, 5, 6, 7, 8, 9, 10, 11, 12, 13, 14, 15, 16, 17, 18, 19] 0 rfl rfl rfl rfl rfl rfl rfl rfl (by decide) (s_table sta d tr sl a b D DA N NA g X hF hD h1 hN hX hs) (fun v w' h hp hk2 hv => ?_)
  obtain ⟨rfl, ⟨⟨tb, sb, cl, mn⟩, r', g', ct, K, G, E⟩, hX', hc, rfl⟩ := hp
  have hmn : mn = nI (D 1) := hc.1
  subst hmn
  have hX2 := hX'
  obtain ⟨x1, x2, x3, x4, x5⟩ := hX2
  have hv : mj_Vw h0 (wod tr true a b false D DA N NA g ((tb, sb, cl, nI (D 1)), r', g', ct, K, G, E)) h := hv
  repeat (first | refine g_px rfl rfl rfl ?_ | refine g_get hv 0 rfl rfl rfl rfl ?_ | refine g_get hv 1 rfl rfl rfl rfl ?_)
  refine g_callV hv [13, 17, 18, 1, 3, 5, 19] 13 rfl rfl rfl rfl rfl rfl rfl rfl (by decide) (s_wUnfilled sta (d + 3) 130 a ct (D 1) (D 0) (nI (D 2)) (nI (D 3)) (nI (D 4)) (nI (D 5)) (nI (D 6)) (nI (D 7)) (nI (D 8)) K G E (DA 1) (DA 3) (by omega) x3 x5 x2) (fun v w' h hp hk2 hv => ?_)
  obtain ⟨rfl, rfl⟩ := hp
  have e : fb_sm (fun x => if decide (pop (K x) < D 0) then E x else 0) ct = tot D DA (N 0) (NA 0) (NA 1) (fun T _ => if decide (pop T < D 0) then 1 else 0) := csk_if ⟨h1, d1⟩ hc (fun T _ => decide (pop T < D 0))
  rw [e]
  have hb := tot_le (DA := DA) (lw := N 0) (sn := NA 0) (C := NA 1) (φ := fun T _ => if decide (pop T < D 0) then 1 else 0) (c := 1) d1 (fun T g => by split <;> omega)
  generalize tot D DA (N 0) (NA 0) (NA 1) (fun T _ => if decide (pop T < D 0) then 1 else 0) = U at *
  have hv : mj_Vw h0 (wod tr true a b false D DA N NA g ((tb, sb, cl, nI (D 1)), r', g', ct, K, G, E)) h := hv
  repeat (first | refine g_px rfl rfl rfl ?_)
  refine g_callV hv [0, 1] 0 rfl rfl rfl rfl rfl rfl rfl rfl (by decide) (s_odds sta hF (d + 2) U tr true false lo a b D d1 (by omega)) (fun v w' h hp hk2 hv => ?_)
  obtain ⟨rfl, rfl⟩ := hp
  subst hT
  exact g_lret hv rfl rfl rfl ⟨rfl, ((tb, sb, cl, nI (D 1)), r', g', ct, K, G, E), hX', hc, rfl⟩
theorem s_club (k : Nat) (hk0 : 0 < k) (hk : k < 2 ^ D 1) (lo : Bool) (hF : stF sta) (hD : okD D DA) (h1 : 1 ≤ D 1) (hN : okN N NA g) (hX : okX X) (hs : sl = false → csk D DA (N 0) (NA 0) (NA 1) X) : mj_Sx sta (d + 6) 87 [.ref 0, (.int (nI k)), .int (bl lo)] (wod tr true a b sl D DA N NA g X) (fun v w => v = some (.long (lN (pfr (tot D DA (N 0) (NA 0) (NA 1) (fun T g => fb_sm (lsc k T g (DA 1) (DA 3)) (D 1))) (fac (D 1) * pop k) lo))) ∧ ∃ X', okX X' ∧ csk D DA (N 0) (NA 0) (NA 1) X' ∧ w = wod 0 true a b false D DA N NA g X') := by
  refine mj_Sx.mk m_X8_club (by decide) n_X8_club rfl (fun h0 hv => ?_)
  generalize hT : mj_rx m_X8_club h0 _ _ = T
  have hD2 := hD
  obtain ⟨d0, d1, d3, d4, d5, d6, d7, d8, d2, a0, a1, a2, a3, a4, a5⟩ := hD2
  have hW : bd 1000 (DA 1) := bd_le a1 (by decide)
  have hA : bd 1000 (DA 3) := bd_le a3 (by decide)
  repeat (first | refine g_px rfl rfl rfl ?_)
  refine g_callV hv [0, 1] 0 rfl rfl rfl rfl rfl rfl rfl rfl (by decide) (s_isClub sta (d + 3) tr true sl a b D (nI k) d1) (fun v w' h hp hk2 hv => ?_)
  obtain ⟨rfl, rfl⟩ := hp
  rw [inR_k hk (by have := p6 d1; omega)]
  refine g_if rfl (fun cq => absurd cq (show ¬ bl true = 0 by decide)) (fun cq => ?_)
  have hv : mj_Vw h0 (wod tr true a b sl D DA N NA g X) h := hv
  have hp6 := p6 d1
  have hpop := pop_lt k
  have hfc := fac_720 (D 1) d1
  repeat (first | refine g_px rfl rfl rfl ?_)
  refine g_if rfl (fun cq => ?_) (fun cq => absurd (nI_ne0 (n := k) hk0 (by omega)) cq)
  obtain ⟨F, hF1, hF2⟩ := id hF
  repeat (first | refine g_px rfl rfl rfl ?_ | refine g_get hv 0 rfl rfl rfl rfl ?_ | refine g_get hv 1 rfl rfl rfl rfl ?_)
  refine g_sald hv hF1 rfl (vp_in_nI (by omega) (by decide)) ?_
  rw [nI_clamp (by omega), hF2 _ (by omega)]
  repeat (first | refine g_px rfl rfl rfl ?_)
  refine g_callS hv [] rfl rfl rfl rfl rfl rfl rfl (by simp) (s_bits sta (d + 4) k (by omega)) (fun v w' h hp hk2 hv => ?_)
  obtain ⟨rfl, rfl⟩ := hp
  have hv : mj_Vw h0 (wod tr true a b sl D DA N NA g X) h := hv
  refine g_run 2 rfl ?_
  rw [nI_l (n := fac (D 1)) (by omega), nI_l (n := pop k) (by omega), lN_mul]
  repeat (first | refine g_px rfl rfl rfl ?_)
  refine g_callV hv [0, 1, 2, 3, 4, 5, 6, 7, 8, 9, 10, 11, 12, 13, 14, 15, 16, 17, 18, 19] 0 rfl rfl rfl rfl rfl rfl rfl rfl (by decide) (s_table sta d tr sl a b D DA N NA g X hF hD h1 hN hX hs) (fun v w' h hp hk2 hv => ?_)
  obtain ⟨rfl, ⟨⟨tb, sb, cl, mn⟩, r', g', ct, K, G, E⟩, hX', hc, rfl⟩ := hp
  have hmn : mn = nI (D 1) := hc.1
  subst hmn
  have hX2 := hX'
  obtain ⟨x1, x2, x3, x4, x5⟩ := hX2
  have hv : mj_Vw h0 (wod tr true a b false D DA N NA g ((tb, sb, cl, nI (D 1)), r', g', ct, K, G, E)) h := hv
  repeat (first | refine g_px rfl rfl rfl ?_ | refine g_get hv 0 rfl rfl rfl rfl ?_)
  refine g_callV hv [13, 17, 18, 1, 3, 5, 19] 13 rfl rfl rfl rfl rfl rfl rfl rfl (by decide) (s_lossOf sta (d + 2) 130 a ct (D 1) k (D 0) (nI (D 2)) (nI (D 3)) (nI (D 4)) (nI (D 5)) (nI (D 6)) (nI (D 7)) (nI (D 8)) K G E (DA 1) (DA 3) x3 x4 x5 x2 d1 hW hA) (fun v w' h hp hk2 hv => ?_)
  obtain ⟨rfl, rfl⟩ := hp
  have e : fb_sm (fun x => E x * fb_sm (lsc k (K x) (G x) (DA 1) (DA 3)) (D 1)) ct = tot D DA (N 0) (NA 0) (NA 1) (fun T g => fb_sm (lsc k T g (DA 1) (DA 3)) (D 1)) := csk_sum ⟨h1, d1⟩ hc (fun T g => fb_sm (lsc k T g (DA 1) (DA 3)) (D 1))
  rw [e]
  have hb := tot_le (DA := DA) (lw := N 0) (sn := NA 0) (C := NA 1) (φ := fun T g => fb_sm (lsc k T g (DA 1) (DA 3)) (D 1)) (c := 6000) d1 (fun T g => lss_lt hW hA d1)
  have hmu : fac (D 1) * pop k ≤ 720 * 6 := Nat.mul_le_mul hfc hpop
  generalize tot D DA (N 0) (NA 0) (NA 1) (fun T g => fb_sm (lsc k T g (DA 1) (DA 3)) (D 1)) = U at *
  have hv : mj_Vw h0 (wod tr true a b false D DA N NA g ((tb, sb, cl, nI (D 1)), r', g', ct, K, G, E)) h := hv
  repeat (first | refine g_px rfl rfl rfl ?_)
  refine g_callV hv [0] 0 rfl rfl rfl rfl rfl rfl rfl rfl (by decide) (s_part sta (d + 3) U (fac (D 1) * pop k) tr true false lo a b (by omega) (by omega)) (fun v w' h hp hk2 hv => ?_)
  obtain ⟨rfl, rfl⟩ := hp
  subst hT
  exact g_lret hv rfl rfl rfl ⟨rfl, ((tb, sb, cl, nI (D 1)), r', g', ct, K, G, E), hX', hc, rfl⟩
end Odds
