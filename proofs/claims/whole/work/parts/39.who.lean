/-! LowNumber: who went -/
theorem lkA_bit {n wn : Nat} {we K E : Nat → Nat} {G : Nat → Nat → Option Nat} (m : Nat) : ∀ x, (∀ c, c < x → 0 < E c) → (lkA n wn we K G x).testBit m = (decide (m < n) && decide (fb_sm (fun c => if fts n we (G c) wn && !(K c).testBit m then E c else 0) x = 0))
  | 0, _ => by
    rw [lkA, Nat.testBit_two_pow_sub_one]
    simp [fb_sm]
  | x + 1, hE => by
    have ih := lkA_bit (n := n) (wn := wn) (we := we) (K := K) (E := E) (G := G) m x (fun c hc => hE c (by omega))
    have hx := hE x (by omega)
    rw [lkA, fb_sm_succ]
    cases hf : fts n we (G x) wn with
    | false =>
      rw [if_neg (by decide), ih]
      simp
    | true =>
      rw [if_pos rfl, Nat.testBit_and, ih]
      cases hk : (K x).testBit m with
      | true => simp
      | false =>
        simp
        intro _ _
        omega
section Who
variable (D : Nat → Nat) (DA : Nat → Nat → Nat) (lw : Nat) (sn C : Nat → Nat)
def ftT : Nat := tot D DA lw sn C (fun _ g => if fts (D 1) (DA 5) g (D 8) then 1 else 0)
def cnT (k s : Nat) : Nat := tot D DA lw sn C (fun _ g => if fts (D 1) (DA 5) g (D 8) && decide (k < D 8) && decide (sdr g (DA 5 k) (D 1) 0 = some s) then 1 else 0)
def atT : Nat := if 0 < ftT D DA lw sn C then lkA (D 1) (D 8) (DA 5) (fun j => qT D DA lw sn (lx (D 1) j)) (fun j => qG D DA lw sn C (lx (D 1) j)) (fac (D 1)) else 0
end Who
theorem csk_pos {D : Nat → Nat} {DA : Nat → Nat → Nat} {lw : Nat} {sn C : Nat → Nat} {X : CX} (h : csk D DA lw sn C X) : ∀ c, c < xct X → 0 < xE X c := fun c hc => by
  obtain ⟨-, r0, -, h2⟩ := h
  rw [(h2 c hc).2.2]
  exact fac_pos _
theorem cnT_lt {D : Nat → Nat} {DA : Nat → Nat → Nat} {lw : Nat} {sn C : Nat → Nat} (hn : D 1 ≤ 6) (k : Nat) : bd 1000 (cnT D DA lw sn C k) := fun s => by
  have : cnT D DA lw sn C k s ≤ 720 * 1 := tot_le hn (fun T g => by split <;> omega)
  omega
theorem ftT_lt {D : Nat → Nat} {DA : Nat → Nat → Nat} {lw : Nat} {sn C : Nat → Nat} (hn : D 1 ≤ 6) : ftT D DA lw sn C < 1000 := by
  have : ftT D DA lw sn C ≤ 720 * 1 := tot_le hn (fun T g => by split <;> omega)
  omega
abbrev wlv (tr : Int32) (dr : Bool) (a b : Nat) (sl : Bool) (D : Nat → Nat) (DA : Nat → Nat → Nat) (N : Nat → Nat) (NA : Nat → Nat → Nat) (g : Nat → Option Nat) (X : CX) (fi ti : Int32) (c : Nat → Nat → Nat) : mj_W := [wob tr dr a b sl] ++ dv a D DA ++ nv 19 N NA g ++ cs7 130 X ++ wwt fi ti c
section Who2
variable (sta : mj_S) (d : Nat) (tr : Int32) (sl : Bool) (a b : Nat) (D : Nat → Nat) (DA : Nat → Nat → Nat) (N : Nat → Nat) (NA : Nat → Nat → Nat) (g : Nat → Option Nat) (X : CX) (fi ti : Int32) (c : Nat → Nat → Nat)
theorem s_Look (hF : stF sta) (hD : okD D DA) (h1 : 1 ≤ D 1) (hN : okN N NA g) (hX : okX X) (hs : sl = false → csk D DA (N 0) (NA 0) (NA 1) X) :
    mj_Sx sta (d + 6) 103 [.ref 0] (wlv tr true a b sl D DA N NA g X fi ti c) (fun v w => v = some (.ref 146) ∧ ∃ X', okX X' ∧ csk D DA (N 0) (NA 0) (NA 1) X' ∧ w = wlv tr true a b false D DA N NA g X' (nI (ftT D DA (N 0) (NA 0) (NA 1))) (nI (atT D DA (N 0) (NA 0) (NA 1))) (cnT D DA (N 0) (NA 0) (NA 1))) := by
  refine mj_Sx.mk m_X8_look (by decide) n_X8_look rfl (fun h0 hv => ?_)
  generalize hT : mj_rx m_X8_look h0 _ _ = T
  have hD2 := hD
  obtain ⟨d0, d1, d3, d4, d5, d6, d7, d8, d2, a0, a1, a2, a3, a4, a5⟩ := hD2
  repeat (first | refine g_px rfl rfl rfl ?_ | refine g_get hv 0 rfl rfl rfl rfl ?_)
  refine g_callV hv [0, 1, 2, 3, 4, 5, 6, 7, 8, 9, 10, 11, 12, 13, 14, 15, 16, 17, 18, 19] 0 rfl rfl rfl rfl rfl rfl rfl rfl (by decide) (s_table sta d tr sl a b D DA N NA g X hF hD h1 hN hX hs) (fun v w' h hp hk2 hv => ?_)
  obtain ⟨rfl, ⟨⟨tb, sb, cl, mn⟩, r', g', ct, K, G, E⟩, hX', hc, rfl⟩ := hp
  have hmn : mn = nI (D 1) := hc.1
  subst hmn
  have hX2 := hX'
  obtain ⟨x1, x2, x3, x4, x5⟩ := hX2
  have hv : mj_Vw h0 (wlv tr true a b false D DA N NA g ((tb, sb, cl, nI (D 1)), r', g', ct, K, G, E) fi ti c) h := hv
  refine g_callV hv [20, 21, 22, 23, 24, 13, 18, 1, 7, 17, 19] 20 rfl rfl rfl rfl rfl rfl rfl rfl (by decide) (s_look sta (d + 1) 130 a (D 1) (D 8) ct (nI (D 0)) (nI (D 2)) (nI (D 3)) (nI (D 4)) (nI (D 5)) (nI (D 6)) (nI (D 7)) (DA 5) K E G fi ti c x4 x3 x5 x2 d8 d1 a5) (fun v w' h hp hk2 hv => ?_)
  obtain ⟨rfl, rfl⟩ := hp
  have e1 : lkF (D 1) (D 8) (DA 5) E G ct = ftT D DA (N 0) (NA 0) (NA 1) := csk_if ⟨h1, d1⟩ hc (fun _ g => fts (D 1) (DA 5) g (D 8))
  have e2 : lkC (D 1) (D 8) (DA 5) E G ct = cnT D DA (N 0) (NA 0) (NA 1) := by
    funext k s
    exact csk_if ⟨h1, d1⟩ hc (fun _ g => fts (D 1) (DA 5) g (D 8) && decide (k < D 8) && decide (sdr g (DA 5 k) (D 1) 0 = some s))
  have e3 : lkA (D 1) (D 8) (DA 5) K G ct = lkA (D 1) (D 8) (DA 5) (fun j => qT D DA (N 0) (NA 0) (lx (D 1) j)) (fun j => qG D DA (N 0) (NA 0) (NA 1) (lx (D 1) j)) (fac (D 1)) := by
    apply Nat.eq_of_testBit_eq
    intro m
    rw [lkA_bit (E := E) m ct (csk_pos hc), lkA_bit (E := fun _ => 1) m (fac (D 1)) (fun _ _ => Nat.one_pos)]
    have := csk_if ⟨h1, d1⟩ hc (fun T g => fts (D 1) (DA 5) g (D 8) && !T.testBit m)
    rw [show fb_sm (fun c => if fts (D 1) (DA 5) (G c) (D 8) && !(K c).testBit m then E c else 0) ct = _ from this]
    rfl
  have e4 : (if 0 < lkF (D 1) (D 8) (DA 5) E G ct then lkA (D 1) (D 8) (DA 5) K G ct else 0) = atT D DA (N 0) (NA 0) (NA 1) := by
    rw [e1, e3]
    rfl
  rw [e4, e1, e2] at hv
  have hv : mj_Vw h0 (wlv tr true a b false D DA N NA g ((tb, sb, cl, nI (D 1)), r', g', ct, K, G, E) (nI (ftT D DA (N 0) (NA 0) (NA 1))) (nI (atT D DA (N 0) (NA 0) (NA 1))) (cnT D DA (N 0) (NA 0) (NA 1))) h := hv
  repeat (first | refine g_px rfl rfl rfl ?_ | refine g_get hv 0 rfl rfl rfl rfl ?_)
  subst hT
  exact g_aret hv rfl rfl rfl ⟨rfl, ((tb, sb, cl, nI (D 1)), r', g', ct, K, G, E), hX', hc, rfl⟩
theorem s_rows  (hF : stF sta) (hD : okD D DA) (h1 : 1 ≤ D 1) (hN : okN N NA g) (hX : okX X) (hs : sl = false → csk D DA (N 0) (NA 0) (NA 1) X) : mj_Sx sta (d + 7) 97 [.ref 0] (wlv tr true a b sl D DA N NA g X fi ti c) (fun v w => v = some (.int (nI (ftT D DA (N 0) (NA 0) (NA 1)))) ∧ ∃ X', okX X' ∧ csk D DA (N 0) (NA 0) (NA 1) X' ∧ w = wlv 0 true a b false D DA N NA g X' (nI (ftT D DA (N 0) (NA 0) (NA 1))) (nI (atT D DA (N 0) (NA 0) (NA 1))) (cnT D DA (N 0) (NA 0) (NA 1))) := by
  refine mj_Sx.mk m_X8_rows (by decide) n_X8_rows rfl (fun h0 hv => ?_)
  generalize hT : mj_rx m_X8_rows h0 _ _ = T
  have hD2 := hD
  obtain ⟨d0, d1, d3, d4, d5, d6, d7, d8, d2, a0, a1, a2, a3, a4, a5⟩ := hD2
  repeat (first | refine g_px rfl rfl rfl ?_ | refine g_get hv 0 rfl rfl rfl rfl ?_)
  refine g_if rfl (fun cq => ?_) (fun cq => absurd (show ¬ bl true = 0 by decide) cq)
  repeat (first | refine g_px rfl rfl rfl ?_)
  refine g_callV hv [0, 1, 2, 3, 4, 5, 6, 7, 8, 9, 10, 11, 12, 13, 14, 15, 16, 17, 18, 19, 20, 21, 22, 23, 24] 0 rfl rfl rfl rfl rfl rfl rfl rfl (by decide) (s_Look sta d tr sl a b D DA N NA g X fi ti c hF hD h1 hN hX hs) (fun v w' h hp hk2 hv => ?_)
  obtain ⟨rfl, X', hX', hc, rfl⟩ := hp
  have hv : mj_Vw h0 (wlv tr true a b false D DA N NA g X' (nI (ftT D DA (N 0) (NA 0) (NA 1))) (nI (atT D DA (N 0) (NA 0) (NA 1))) (cnT D DA (N 0) (NA 0) (NA 1))) h := hv
  repeat (first | refine g_px rfl rfl rfl ?_ | refine g_get hv 20 rfl rfl rfl rfl ?_)
  refine g_callV hv [0] 0 rfl rfl rfl rfl rfl rfl rfl rfl (by decide) (s_answer' sta (d + 5) tr true false a b _) (fun v w' h hp hk2 hv => ?_)
  obtain ⟨rfl, rfl⟩ := hp
  subst hT
  exact g_iret hv rfl rfl rfl rfl ⟨rfl, X', hX', hc, rfl⟩
theorem s_surelyTaken  (hF : stF sta) (hD : okD D DA) (h1 : 1 ≤ D 1) (hN : okN N NA g) (hX : okX X) (hs : sl = false → csk D DA (N 0) (NA 0) (NA 1) X) : mj_Sx sta (d + 7) 102 [.ref 0] (wlv tr true a b sl D DA N NA g X fi ti c) (fun v w => v = some (.int (nI (atT D DA (N 0) (NA 0) (NA 1)))) ∧ ∃ X', okX X' ∧ csk D DA (N 0) (NA 0) (NA 1) X' ∧ w = wlv 0 true a b false D DA N NA g X' (nI (ftT D DA (N 0) (NA 0) (NA 1))) (nI (atT D DA (N 0) (NA 0) (NA 1))) (cnT D DA (N 0) (NA 0) (NA 1))) := by
  refine mj_Sx.mk m_X8_surelyTaken (by decide) n_X8_surelyTaken rfl (fun h0 hv => ?_)
  generalize hT : mj_rx m_X8_surelyTaken h0 _ _ = T
  have hD2 := hD
  obtain ⟨d0, d1, d3, d4, d5, d6, d7, d8, d2, a0, a1, a2, a3, a4, a5⟩ := hD2
  repeat (first | refine g_px rfl rfl rfl ?_ | refine g_get hv 0 rfl rfl rfl rfl ?_)
  refine g_if rfl (fun cq => ?_) (fun cq => absurd (show ¬ bl true = 0 by decide) cq)
  repeat (first | refine g_px rfl rfl rfl ?_)
  refine g_callV hv [0, 1, 2, 3, 4, 5, 6, 7, 8, 9, 10, 11, 12, 13, 14, 15, 16, 17, 18, 19, 20, 21, 22, 23, 24] 0 rfl rfl rfl rfl rfl rfl rfl rfl (by decide) (s_Look sta d tr sl a b D DA N NA g X fi ti c hF hD h1 hN hX hs) (fun v w' h hp hk2 hv => ?_)
  obtain ⟨rfl, X', hX', hc, rfl⟩ := hp
  have hv : mj_Vw h0 (wlv tr true a b false D DA N NA g X' (nI (ftT D DA (N 0) (NA 0) (NA 1))) (nI (atT D DA (N 0) (NA 0) (NA 1))) (cnT D DA (N 0) (NA 0) (NA 1))) h := hv
  repeat (first | refine g_px rfl rfl rfl ?_ | refine g_get hv 20 rfl rfl rfl rfl ?_)
  refine g_callV hv [0] 0 rfl rfl rfl rfl rfl rfl rfl rfl (by decide) (s_answer' sta (d + 5) tr true false a b _) (fun v w' h hp hk2 hv => ?_)
  obtain ⟨rfl, rfl⟩ := hp
  subst hT
  exact g_iret hv rfl rfl rfl rfl ⟨rfl, X', hX', hc, rfl⟩
theorem s_ask  (hF : stF sta) (hD : okD D DA) (h1 : 1 ≤ D 1) (hN : okN N NA g) (hX : okX X) (hs : sl = false → csk D DA (N 0) (NA 0) (NA 1) X) : mj_Sx sta (d + 7) 100 [.ref 0] (wlv tr true a b sl D DA N NA g X fi ti c) (fun v w => v = some (.int (snd (if 0 < ftT D DA (N 0) (NA 0) (NA 1) then (bst (cnT D DA (N 0) (NA 0) (NA 1)) (D 1) (D 8)).1 else none))) ∧ ∃ X', okX X' ∧ csk D DA (N 0) (NA 0) (NA 1) X' ∧ w = wlv 0 true a b false D DA N NA g X' (nI (ftT D DA (N 0) (NA 0) (NA 1))) (nI (atT D DA (N 0) (NA 0) (NA 1))) (cnT D DA (N 0) (NA 0) (NA 1))) := by
  refine mj_Sx.mk m_X8_ask (by decide) n_X8_ask rfl (fun h0 hv => ?_)
  generalize hT : mj_rx m_X8_ask h0 _ _ = T
  have hD2 := hD
  obtain ⟨d0, d1, d3, d4, d5, d6, d7, d8, d2, a0, a1, a2, a3, a4, a5⟩ := hD2
  repeat (first | refine g_px rfl rfl rfl ?_ | refine g_get hv 0 rfl rfl rfl rfl ?_)
  refine g_if rfl (fun cq => ?_) (fun cq => absurd (show ¬ bl true = 0 by decide) cq)
  repeat (first | refine g_px rfl rfl rfl ?_)
  refine g_callV hv [0, 1, 2, 3, 4, 5, 6, 7, 8, 9, 10, 11, 12, 13, 14, 15, 16, 17, 18, 19, 20, 21, 22, 23, 24] 0 rfl rfl rfl rfl rfl rfl rfl rfl (by decide) (s_Look sta d tr sl a b D DA N NA g X fi ti c hF hD h1 hN hX hs) (fun v w' h hp hk2 hv => ?_)
  obtain ⟨rfl, X', hX', hc, rfl⟩ := hp
  have hv : mj_Vw h0 (wlv tr true a b false D DA N NA g X' (nI (ftT D DA (N 0) (NA 0) (NA 1))) (nI (atT D DA (N 0) (NA 0) (NA 1))) (cnT D DA (N 0) (NA 0) (NA 1))) h := hv
  repeat (first | refine g_px rfl rfl rfl ?_ | refine g_get hv 0 rfl rfl rfl rfl ?_)
  refine g_callV hv [20, 21, 22, 23, 24, 1] 20 rfl rfl rfl rfl rfl rfl rfl rfl (by decide) (s_best sta (d + 3) a (D 1) (ftT D DA (N 0) (NA 0) (NA 1)) (D 8) (nI (atT D DA (N 0) (NA 0) (NA 1))) (nI (D 0)) (nI (D 2)) (nI (D 3)) (nI (D 4)) (nI (D 5)) (nI (D 6)) (nI (D 7)) (cnT D DA (N 0) (NA 0) (NA 1)) (ftT_lt d1) d8 d1 (fun k => cnT_lt d1 k)) (fun v w' h hp hk2 hv => ?_)
  obtain ⟨rfl, rfl⟩ := hp
  have hv : mj_Vw h0 (wlv tr true a b false D DA N NA g X' (nI (ftT D DA (N 0) (NA 0) (NA 1))) (nI (atT D DA (N 0) (NA 0) (NA 1))) (cnT D DA (N 0) (NA 0) (NA 1))) h := hv
  refine g_callV hv [0] 0 rfl rfl rfl rfl rfl rfl rfl rfl (by decide) (s_answer' sta (d + 5) tr true false a b _) (fun v w' h hp hk2 hv => ?_)
  obtain ⟨rfl, rfl⟩ := hp
  subst hT
  exact g_iret hv rfl rfl rfl rfl ⟨rfl, X', hX', hc, rfl⟩
theorem s_could (k : Nat) (hk : k < D 8) (hF : stF sta) (hD : okD D DA) (h1 : 1 ≤ D 1) (hN : okN N NA g) (hX : okX X) (hs : sl = false → csk D DA (N 0) (NA 0) (NA 1) X) : mj_Sx sta (d + 7) 98 [.ref 0, (.int (nI k))] (wlv tr true a b sl D DA N NA g X fi ti c) (fun v w => v = some (.int (nI (cbe (cnT D DA (N 0) (NA 0) (NA 1) k) (D 1)))) ∧ ∃ X', okX X' ∧ csk D DA (N 0) (NA 0) (NA 1) X' ∧ w = wlv 0 true a b false D DA N NA g X' (nI (ftT D DA (N 0) (NA 0) (NA 1))) (nI (atT D DA (N 0) (NA 0) (NA 1))) (cnT D DA (N 0) (NA 0) (NA 1))) := by
  refine mj_Sx.mk m_X8_could (by decide) n_X8_could rfl (fun h0 hv => ?_)
  generalize hT : mj_rx m_X8_could h0 _ _ = T
  have hD2 := hD
  obtain ⟨d0, d1, d3, d4, d5, d6, d7, d8, d2, a0, a1, a2, a3, a4, a5⟩ := hD2
  repeat (first | refine g_px rfl rfl rfl ?_)
  refine g_callV hv [0, 1] 0 rfl rfl rfl rfl rfl rfl rfl rfl (by decide) (s_isTold sta (d + 5) tr true sl a b D (nI k) d8) (fun v w' h hp hk2 hv => ?_)
  obtain ⟨rfl, rfl⟩ := hp
  rw [inR_k hk (by omega)]
  refine g_if rfl (fun cq => absurd cq (show ¬ bl true = 0 by decide)) (fun cq => ?_)
  have hv : mj_Vw h0 (wlv tr true a b sl D DA N NA g X fi ti c) h := hv
  repeat (first | refine g_px rfl rfl rfl ?_)
  refine g_callV hv [0, 1, 2, 3, 4, 5, 6, 7, 8, 9, 10, 11, 12, 13, 14, 15, 16, 17, 18, 19, 20, 21, 22, 23, 24] 0 rfl rfl rfl rfl rfl rfl rfl rfl (by decide) (s_Look sta d tr sl a b D DA N NA g X fi ti c hF hD h1 hN hX hs) (fun v w' h hp hk2 hv => ?_)
  obtain ⟨rfl, X', hX', hc, rfl⟩ := hp
  have hv : mj_Vw h0 (wlv tr true a b false D DA N NA g X' (nI (ftT D DA (N 0) (NA 0) (NA 1))) (nI (atT D DA (N 0) (NA 0) (NA 1))) (cnT D DA (N 0) (NA 0) (NA 1))) h := hv
  repeat (first | refine g_px rfl rfl rfl ?_ | refine g_get hv 0 rfl rfl rfl rfl ?_ | refine g_get hv 1 rfl rfl rfl rfl ?_)
  have nx : ∀ h, mj_Vw h0 (wlv tr true a b false D DA N NA g X' (nI (ftT D DA (N 0) (NA 0) (NA 1))) (nI (atT D DA (N 0) (NA 0) (NA 1))) (cnT D DA (N 0) (NA 0) (NA 1))) h → mj_go sta (mj_Cl sta (d + 6)) m_X8_could T 24 [some (.ref 0), some (.int (nI k))] [(.int (nI (cbe (cnT D DA (N 0) (NA 0) (NA 1) k) (D 1)))), (.ref 0)] h := by
    intro h hv
    refine g_callV hv [0] 0 rfl rfl rfl rfl rfl rfl rfl rfl (by decide) (s_answer' sta (d + 5) tr true false a b _) (fun v w' h hp hk2 hv => ?_)
    obtain ⟨rfl, rfl⟩ := hp
    repeat (first | refine g_px rfl rfl rfl ?_)
    subst hT
    exact g_iret hv rfl rfl rfl rfl ⟨rfl, X', hX', hc, rfl⟩
  have h3 : k = 0 ∨ k = 1 ∨ k = 2 := by omega
  rcases h3 with rfl | rfl | rfl
  · refine g_callV hv [20, 21, 22] 20 rfl rfl rfl rfl rfl rfl rfl rfl (by decide) (s_couldBe sta (d + 5) 0 (D 1) (nI (ftT D DA (N 0) (NA 0) (NA 1))) (nI (atT D DA (N 0) (NA 0) (NA 1))) _ (by omega) d1 (cnT_lt d1 _)) (fun v w' h hp hk2 hv => ?_)
    obtain ⟨rfl, rfl⟩ := hp
    exact nx h hv
  · refine g_callV hv [20, 21, 23] 20 rfl rfl rfl rfl rfl rfl rfl rfl (by decide) (s_couldBe sta (d + 5) 1 (D 1) (nI (ftT D DA (N 0) (NA 0) (NA 1))) (nI (atT D DA (N 0) (NA 0) (NA 1))) _ (by omega) d1 (cnT_lt d1 _)) (fun v w' h hp hk2 hv => ?_)
    obtain ⟨rfl, rfl⟩ := hp
    exact nx h hv
  · refine g_callV hv [20, 21, 24] 20 rfl rfl rfl rfl rfl rfl rfl rfl (by decide) (s_couldBe sta (d + 5) 2 (D 1) (nI (ftT D DA (N 0) (NA 0) (NA 1))) (nI (atT D DA (N 0) (NA 0) (NA 1))) _ (by omega) d1 (cnT_lt d1 _)) (fun v w' h hp hk2 hv => ?_)
    obtain ⟨rfl, rfl⟩ := hp
    exact nx h hv
theorem s_surely (k : Nat) (hk : k < D 8) (hF : stF sta) (hD : okD D DA) (h1 : 1 ≤ D 1) (hN : okN N NA g) (hX : okX X) (hs : sl = false → csk D DA (N 0) (NA 0) (NA 1) X) : mj_Sx sta (d + 7) 99 [.ref 0, (.int (nI k))] (wlv tr true a b sl D DA N NA g X fi ti c) (fun v w => v = some (.int (snd (mbe (cnT D DA (N 0) (NA 0) (NA 1) k) (ftT D DA (N 0) (NA 0) (NA 1)) (D 1) 0))) ∧ ∃ X', okX X' ∧ csk D DA (N 0) (NA 0) (NA 1) X' ∧ w = wlv 0 true a b false D DA N NA g X' (nI (ftT D DA (N 0) (NA 0) (NA 1))) (nI (atT D DA (N 0) (NA 0) (NA 1))) (cnT D DA (N 0) (NA 0) (NA 1))) := by
  refine mj_Sx.mk m_X8_surely (by decide) n_X8_surely rfl (fun h0 hv => ?_)
  generalize hT : mj_rx m_X8_surely h0 _ _ = T
  have hD2 := hD
  obtain ⟨d0, d1, d3, d4, d5, d6, d7, d8, d2, a0, a1, a2, a3, a4, a5⟩ := hD2
  repeat (first | refine g_px rfl rfl rfl ?_)
  refine g_callV hv [0, 1] 0 rfl rfl rfl rfl rfl rfl rfl rfl (by decide) (s_isTold sta (d + 5) tr true sl a b D (nI k) d8) (fun v w' h hp hk2 hv => ?_)
  obtain ⟨rfl, rfl⟩ := hp
  rw [inR_k hk (by omega)]
  refine g_if rfl (fun cq => absurd cq (show ¬ bl true = 0 by decide)) (fun cq => ?_)
  have hv : mj_Vw h0 (wlv tr true a b sl D DA N NA g X fi ti c) h := hv
  repeat (first | refine g_px rfl rfl rfl ?_)
  refine g_callV hv [0, 1, 2, 3, 4, 5, 6, 7, 8, 9, 10, 11, 12, 13, 14, 15, 16, 17, 18, 19, 20, 21, 22, 23, 24] 0 rfl rfl rfl rfl rfl rfl rfl rfl (by decide) (s_Look sta d tr sl a b D DA N NA g X fi ti c hF hD h1 hN hX hs) (fun v w' h hp hk2 hv => ?_)
  obtain ⟨rfl, X', hX', hc, rfl⟩ := hp
  have hv : mj_Vw h0 (wlv tr true a b false D DA N NA g X' (nI (ftT D DA (N 0) (NA 0) (NA 1))) (nI (atT D DA (N 0) (NA 0) (NA 1))) (cnT D DA (N 0) (NA 0) (NA 1))) h := hv
  repeat (first | refine g_px rfl rfl rfl ?_ | refine g_get hv 0 rfl rfl rfl rfl ?_ | refine g_get hv 1 rfl rfl rfl rfl ?_)
  have nx : ∀ h, mj_Vw h0 (wlv tr true a b false D DA N NA g X' (nI (ftT D DA (N 0) (NA 0) (NA 1))) (nI (atT D DA (N 0) (NA 0) (NA 1))) (cnT D DA (N 0) (NA 0) (NA 1))) h → mj_go sta (mj_Cl sta (d + 6)) m_X8_surely T 24 [some (.ref 0), some (.int (nI k))] [(.int (snd (mbe (cnT D DA (N 0) (NA 0) (NA 1) k) (ftT D DA (N 0) (NA 0) (NA 1)) (D 1) 0))), (.ref 0)] h := by
    intro h hv
    refine g_callV hv [0] 0 rfl rfl rfl rfl rfl rfl rfl rfl (by decide) (s_answer' sta (d + 5) tr true false a b _) (fun v w' h hp hk2 hv => ?_)
    obtain ⟨rfl, rfl⟩ := hp
    repeat (first | refine g_px rfl rfl rfl ?_)
    subst hT
    exact g_iret hv rfl rfl rfl rfl ⟨rfl, X', hX', hc, rfl⟩
  have h3 : k = 0 ∨ k = 1 ∨ k = 2 := by omega
  rcases h3 with rfl | rfl | rfl
  · refine g_callV hv [20, 21, 22] 20 rfl rfl rfl rfl rfl rfl rfl rfl (by decide) (s_mustBe sta (d + 5) 0 (D 1) (nI (atT D DA (N 0) (NA 0) (NA 1))) _ (ftT D DA (N 0) (NA 0) (NA 1)) (ftT_lt d1) (by omega) d1 (cnT_lt d1 _)) (fun v w' h hp hk2 hv => ?_)
    obtain ⟨rfl, rfl⟩ := hp
    exact nx h hv
  · refine g_callV hv [20, 21, 23] 20 rfl rfl rfl rfl rfl rfl rfl rfl (by decide) (s_mustBe sta (d + 5) 1 (D 1) (nI (atT D DA (N 0) (NA 0) (NA 1))) _ (ftT D DA (N 0) (NA 0) (NA 1)) (ftT_lt d1) (by omega) d1 (cnT_lt d1 _)) (fun v w' h hp hk2 hv => ?_)
    obtain ⟨rfl, rfl⟩ := hp
    exact nx h hv
  · refine g_callV hv [20, 21, 24] 20 rfl rfl rfl rfl rfl rfl rfl rfl (by decide) (s_mustBe sta (d + 5) 2 (D 1) (nI (atT D DA (N 0) (NA 0) (NA 1))) _ (ftT D DA (N 0) (NA 0) (NA 1)) (ftT_lt d1) (by omega) d1 (cnT_lt d1 _)) (fun v w' h hp hk2 hv => ?_)
    obtain ⟨rfl, rfl⟩ := hp
    exact nx h hv
theorem s_askLeaves  (hF : stF sta) (hD : okD D DA) (h1 : 1 ≤ D 1) (hN : okN N NA g) (hX : okX X) (hs : sl = false → csk D DA (N 0) (NA 0) (NA 1) X) : mj_Sx sta (d + 7) 101 [.ref 0] (wlv tr true a b sl D DA N NA g X fi ti c) (fun v w => v = some (.int (if 0 < ftT D DA (N 0) (NA 0) (NA 1) then (match (bst (cnT D DA (N 0) (NA 0) (NA 1)) (D 1) (D 8)).1 with | none => (-2 : Int32) | some k => nI (mst (cnT D DA (N 0) (NA 0) (NA 1) k) (D 1))) else -2)) ∧ ∃ X', okX X' ∧ csk D DA (N 0) (NA 0) (NA 1) X' ∧ w = wlv 0 true a b false D DA N NA g X' (nI (ftT D DA (N 0) (NA 0) (NA 1))) (nI (atT D DA (N 0) (NA 0) (NA 1))) (cnT D DA (N 0) (NA 0) (NA 1))) := by
  refine mj_Sx.mk m_X8_askLeaves (by decide) n_X8_askLeaves rfl (fun h0 hv => ?_)
  generalize hT : mj_rx m_X8_askLeaves h0 _ _ = T
  have hD2 := hD
  obtain ⟨d0, d1, d3, d4, d5, d6, d7, d8, d2, a0, a1, a2, a3, a4, a5⟩ := hD2
  repeat (first | refine g_px rfl rfl rfl ?_ | refine g_get hv 0 rfl rfl rfl rfl ?_)
  refine g_if rfl (fun cq => ?_) (fun cq => absurd (show ¬ bl true = 0 by decide) cq)
  repeat (first | refine g_px rfl rfl rfl ?_)
  refine g_callV hv [0, 1, 2, 3, 4, 5, 6, 7, 8, 9, 10, 11, 12, 13, 14, 15, 16, 17, 18, 19, 20, 21, 22, 23, 24] 0 rfl rfl rfl rfl rfl rfl rfl rfl (by decide) (s_Look sta d tr sl a b D DA N NA g X fi ti c hF hD h1 hN hX hs) (fun v w' h hp hk2 hv => ?_)
  obtain ⟨rfl, X', hX', hc, rfl⟩ := hp
  have hv : mj_Vw h0 (wlv tr true a b false D DA N NA g X' (nI (ftT D DA (N 0) (NA 0) (NA 1))) (nI (atT D DA (N 0) (NA 0) (NA 1))) (cnT D DA (N 0) (NA 0) (NA 1))) h := hv
  repeat (first | refine g_px rfl rfl rfl ?_ | refine g_get hv 0 rfl rfl rfl rfl ?_)
  refine g_callV hv [20, 21, 22, 23, 24, 1] 20 rfl rfl rfl rfl rfl rfl rfl rfl (by decide) (s_best sta (d + 3) a (D 1) (ftT D DA (N 0) (NA 0) (NA 1)) (D 8) (nI (atT D DA (N 0) (NA 0) (NA 1))) (nI (D 0)) (nI (D 2)) (nI (D 3)) (nI (D 4)) (nI (D 5)) (nI (D 6)) (nI (D 7)) (cnT D DA (N 0) (NA 0) (NA 1)) (ftT_lt d1) d8 d1 (fun k => cnT_lt d1 k)) (fun v w' h hp hk2 hv => ?_)
  obtain ⟨rfl, rfl⟩ := hp
  have hv : mj_Vw h0 (wlv tr true a b false D DA N NA g X' (nI (ftT D DA (N 0) (NA 0) (NA 1))) (nI (atT D DA (N 0) (NA 0) (NA 1))) (cnT D DA (N 0) (NA 0) (NA 1))) h := hv
  have hb := (bst_lt (n := D 1) (c := cnT D DA (N 0) (NA 0) (NA 1)) (fun k => cnT_lt d1 k) (D 8)).2
  have fin : ∀ h y, y = (if 0 < ftT D DA (N 0) (NA 0) (NA 1) then (match (bst (cnT D DA (N 0) (NA 0) (NA 1)) (D 1) (D 8)).1 with | none => (-2 : Int32) | some k => nI (mst (cnT D DA (N 0) (NA 0) (NA 1) k) (D 1))) else -2) → mj_Vw h0 (wlv tr true a b false D DA N NA g X' (nI (ftT D DA (N 0) (NA 0) (NA 1))) (nI (atT D DA (N 0) (NA 0) (NA 1))) (cnT D DA (N 0) (NA 0) (NA 1))) h → ∀ o, mj_go sta (mj_Cl sta (d + 6)) m_X8_askLeaves T 52 [some (.ref 0), o] [(.int y), (.ref 0)] h := by
    intro h y hy hv o
    refine g_callV hv [0] 0 rfl rfl rfl rfl rfl rfl rfl rfl (by decide) (s_answer' sta (d + 5) tr true false a b _) (fun v w' h hp hk2 hv => ?_)
    obtain ⟨rfl, rfl⟩ := hp
    subst hT
    exact g_iret hv rfl rfl rfl rfl ⟨by rw [hy], X', hX', hc, rfl⟩
  by_cases hf : 0 < ftT D DA (N 0) (NA 0) (NA 1)
  · rw [if_pos hf]
    cases hq : (bst (cnT D DA (N 0) (NA 0) (NA 1)) (D 1) (D 8)).1 with
    | none =>
      repeat (first | refine g_px rfl rfl rfl ?_)
      refine g_ic rfl (fun cq => absurd rfl cq) (fun cq => ?_)
      refine g_run 2 rfl ?_
      exact fin h _ (by rw [if_pos hf, hq]; rfl) hv _
    | some q =>
      have hq3 := hb q hq
      repeat (first | refine g_px rfl rfl rfl ?_)
      refine g_ic rfl (fun cq => ?_) (fun cq => ?_)
      · repeat (first | refine g_px rfl rfl rfl ?_ | refine g_get hv 0 rfl rfl rfl rfl ?_ | refine g_get hv 1 rfl rfl rfl rfl ?_)
        have h3 : q = 0 ∨ q = 1 ∨ q = 2 := by omega
        rcases h3 with rfl | rfl | rfl
        · refine g_callV hv [20, 21, 22] 20 rfl rfl rfl rfl rfl rfl rfl rfl (by decide) (s_mostLeft sta (d + 4) 0 (D 1) (nI (ftT D DA (N 0) (NA 0) (NA 1))) (nI (atT D DA (N 0) (NA 0) (NA 1))) _ (by omega) d1 (cnT_lt d1 _)) (fun v w' h hp hk2 hv => ?_)
          obtain ⟨rfl, rfl⟩ := hp
          exact fin h _ (by rw [if_pos hf, hq]) hv _
        · refine g_callV hv [20, 21, 23] 20 rfl rfl rfl rfl rfl rfl rfl rfl (by decide) (s_mostLeft sta (d + 4) 1 (D 1) (nI (ftT D DA (N 0) (NA 0) (NA 1))) (nI (atT D DA (N 0) (NA 0) (NA 1))) _ (by omega) d1 (cnT_lt d1 _)) (fun v w' h hp hk2 hv => ?_)
          obtain ⟨rfl, rfl⟩ := hp
          exact fin h _ (by rw [if_pos hf, hq]) hv _
        · refine g_callV hv [20, 21, 24] 20 rfl rfl rfl rfl rfl rfl rfl rfl (by decide) (s_mostLeft sta (d + 4) 2 (D 1) (nI (ftT D DA (N 0) (NA 0) (NA 1))) (nI (atT D DA (N 0) (NA 0) (NA 1))) _ (by omega) d1 (cnT_lt d1 _)) (fun v w' h hp hk2 hv => ?_)
          obtain ⟨rfl, rfl⟩ := hp
          exact fin h _ (by rw [if_pos hf, hq]) hv _
      · have cq : ¬ ¬ snd (some q) = (Int8.ofInt (-2)).toInt32 := cq
        rw [snd_n2 (fun q hq => by cases hq; omega)] at cq
        exact absurd (fun z => by cases z) cq
  · rw [if_neg hf]
    repeat (first | refine g_px rfl rfl rfl ?_)
    refine g_ic rfl (fun cq => absurd rfl cq) (fun cq => ?_)
    refine g_run 2 rfl ?_
    exact fin h _ (by rw [if_neg hf]; rfl) hv _
end Who2
