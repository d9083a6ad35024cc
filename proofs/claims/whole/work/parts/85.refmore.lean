/-! LowNumber: the refusals still wanting -/
section Rm
variable (sta : mj_S) (d : Nat) (tr : Int32) (dr sl : Bool) (a b : Nat) (D : Nat → Nat)
theorem s_goesFor_x (m z : Int32) (lo : Bool) (hn : D 1 ≤ 6) (hno : (dr && (inR (D 1) m && (inR (D 1) z && decide (m ≠ z)))) = false) : mj_Sx sta (d + 2) 85 [.ref 0, .int m, .int z, .int (bl lo)] [wob tr dr a b sl, dhd a D] (fun v w => v = some (.long (-1 : Int32).toInt64) ∧ w = [wob 1 dr a b sl, dhd a D]) := by
  refine mj_Sx.mk m_X8_goesFor (by decide) n_X8_goesFor rfl (fun h0 hv => ?_)
  generalize hT : mj_rx m_X8_goesFor h0 _ _ = T
  have fin : ∀ h, mj_Vw h0 [wob tr dr a b sl, dhd a D] h → mj_go sta (mj_Cl sta (d + 1)) m_X8_goesFor T 21 [some (.ref 0), some (.int m), some (.int z), some (.int (bl lo))] [] h := by
    intro h hv
    repeat (first | refine g_px rfl rfl rfl ?_)
    refine g_callV hv [0] 0 rfl rfl rfl rfl rfl rfl rfl rfl (by decide) (s_refuse' sta d tr dr sl a b 1) (fun v w' h hp hk2 hv => ?_)
    obtain ⟨rfl, rfl⟩ := hp
    repeat (first | refine g_px rfl rfl rfl ?_)
    subst hT
    exact g_lret hv rfl rfl rfl ⟨rfl, rfl⟩
  repeat (first | refine g_px rfl rfl rfl ?_)
  refine g_callV hv [0,1] 0 rfl rfl rfl rfl rfl rfl rfl rfl (by decide) (s_isMan sta d tr dr sl a b D m hn) (fun v w' h hp hk2 hv => ?_)
  obtain ⟨rfl, rfl⟩ := hp
  by_cases c1 : (dr && inR (D 1) m) = true
  · rw [c1]
    rw [Bool.and_eq_true] at c1
    obtain ⟨c0, c1⟩ := c1
    refine g_if rfl (fun cq => absurd cq (show ¬ bl true = 0 by decide)) (fun cq => ?_)
    have hv : mj_Vw h0 ([wob tr dr a b sl, dhd a D]) h := hv
    repeat (first | refine g_px rfl rfl rfl ?_)
    refine g_callV hv [0,1] 0 rfl rfl rfl rfl rfl rfl rfl rfl (by decide) (s_isMan sta d tr dr sl a b D z hn) (fun v w' h hp hk2 hv => ?_)
    obtain ⟨rfl, rfl⟩ := hp
    rw [c0, c1, Bool.true_and, Bool.true_and] at hno
    by_cases c2 : inR (D 1) z = true
    · rw [c2, Bool.true_and, decide_eq_false_iff_not, Decidable.not_not] at hno
      rw [c0, c2]
      refine g_if rfl (fun cq => absurd cq (show ¬ bl true = 0 by decide)) (fun cq => ?_)
      have hv : mj_Vw h0 ([wob tr dr a b sl, dhd a D]) h := hv
      repeat (first | refine g_px rfl rfl rfl ?_)
      refine g_ic rfl (fun cq => absurd hno cq) (fun cq => ?_)
      exact fin h hv
    · rw [Bool.not_eq_true] at c2
      rw [c2, Bool.and_false]
      refine g_if rfl (fun cq => ?_) (fun cq => absurd rfl cq)
      exact fin h hv
  · rw [Bool.not_eq_true] at c1
    rw [c1]
    refine g_if rfl (fun cq => ?_) (fun cq => absurd rfl cq)
    exact fin h hv
theorem s_sendsBy_x (x m : Int32) (hn : D 1 ≤ 6) (hno : (dr && inR (D 1) m) = false) : mj_Sx sta (d + 2) 78 [.ref 0, .int x, .int m] [wob tr dr a b sl, dhd a D] (fun v w => v = some (.int (-1)) ∧ w = [wob 1 dr a b sl, dhd a D]) := by
  refine mj_Sx.mk m_X8_sendsBy (by decide) n_X8_sendsBy rfl (fun h0 hv => ?_)
  generalize hT : mj_rx m_X8_sendsBy h0 _ _ = T
  repeat (first | refine g_px rfl rfl rfl ?_)
  refine g_callV hv [0,1] 0 rfl rfl rfl rfl rfl rfl rfl rfl (by decide) (s_isMan sta d tr dr sl a b D m hn) (fun v w' h hp hk2 hv => ?_)
  obtain ⟨rfl, rfl⟩ := hp
  rw [hno]
  refine g_if rfl (fun cq => ?_) (fun cq => absurd rfl cq)
  have hv : mj_Vw h0 ([wob tr dr a b sl, dhd a D]) h := hv
  repeat (first | refine g_px rfl rfl rfl ?_)
  refine g_if rfl (fun cq => ?_) (fun cq => absurd (show ¬ (1 : Int32) = 0 by decide) cq)
  repeat (first | refine g_px rfl rfl rfl ?_)
  refine g_callV hv [0] 0 rfl rfl rfl rfl rfl rfl rfl rfl (by decide) (s_refuse' sta d tr dr sl a b 1) (fun v w' h hp hk2 hv => ?_)
  obtain ⟨rfl, rfl⟩ := hp
  subst hT
  exact g_iret hv rfl rfl rfl rfl ⟨rfl, rfl⟩
theorem s_lossBy_x (x m : Int32) (hn : D 1 ≤ 6) (hno : (dr && inR (D 1) m) = false) : mj_Sx sta (d + 2) 79 [.ref 0, .int x, .int m] [wob tr dr a b sl, dhd a D] (fun v w => v = some (.int (-1)) ∧ w = [wob 1 dr a b sl, dhd a D]) := by
  refine mj_Sx.mk m_X8_lossBy (by decide) n_X8_lossBy rfl (fun h0 hv => ?_)
  generalize hT : mj_rx m_X8_lossBy h0 _ _ = T
  repeat (first | refine g_px rfl rfl rfl ?_)
  refine g_callV hv [0,1] 0 rfl rfl rfl rfl rfl rfl rfl rfl (by decide) (s_isMan sta d tr dr sl a b D m hn) (fun v w' h hp hk2 hv => ?_)
  obtain ⟨rfl, rfl⟩ := hp
  rw [hno]
  refine g_if rfl (fun cq => ?_) (fun cq => absurd rfl cq)
  have hv : mj_Vw h0 ([wob tr dr a b sl, dhd a D]) h := hv
  repeat (first | refine g_px rfl rfl rfl ?_)
  refine g_if rfl (fun cq => ?_) (fun cq => absurd (show ¬ (1 : Int32) = 0 by decide) cq)
  repeat (first | refine g_px rfl rfl rfl ?_)
  refine g_callV hv [0] 0 rfl rfl rfl rfl rfl rfl rfl rfl (by decide) (s_refuse' sta d tr dr sl a b 1) (fun v w' h hp hk2 hv => ?_)
  obtain ⟨rfl, rfl⟩ := hp
  subst hT
  exact g_iret hv rfl rfl rfl rfl ⟨rfl, rfl⟩
theorem s_takenBy_u (x : Int32) : mj_Sx sta (d + 2) 76 [.ref 0, .int x] [wob tr false a b sl] (fun v w => v = some (.int (-1)) ∧ w = [wob 1 false a b sl]) := by
  refine mj_Sx.mk m_X8_takenBy (by decide) n_X8_takenBy rfl (fun h0 hv => ?_)
  generalize hT : mj_rx m_X8_takenBy h0 _ _ = T
  repeat (first | refine g_px rfl rfl rfl ?_)
  refine g_callV hv [0] 0 rfl rfl rfl rfl rfl rfl rfl rfl (by decide) (s_levyBy0 sta d tr sl a b x) (fun v w' h hp hk2 hv => ?_)
  obtain ⟨rfl, rfl⟩ := hp
  repeat (first | refine g_px rfl rfl rfl ?_)
  refine g_if rfl (fun cq => ?_) (fun cq => absurd (show ¬ (1 : Int32) = 0 by decide) cq)
  repeat (first | refine g_px rfl rfl rfl ?_)
  refine g_callV hv [0] 0 rfl rfl rfl rfl rfl rfl rfl rfl (by decide) (s_refuse' sta d tr false sl a b 1) (fun v w' h hp hk2 hv => ?_)
  obtain ⟨rfl, rfl⟩ := hp
  subst hT
  exact g_iret hv rfl rfl rfl rfl ⟨rfl, rfl⟩
theorem s_goesBy_u (x : Int32) : mj_Sx sta (d + 2) 77 [.ref 0, .int x] [wob tr false a b sl] (fun v w => v = some (.int (-1)) ∧ w = [wob 1 false a b sl]) := by
  refine mj_Sx.mk m_X8_goesBy (by decide) n_X8_goesBy rfl (fun h0 hv => ?_)
  generalize hT : mj_rx m_X8_goesBy h0 _ _ = T
  repeat (first | refine g_px rfl rfl rfl ?_)
  refine g_callV hv [0] 0 rfl rfl rfl rfl rfl rfl rfl rfl (by decide) (s_levyBy0 sta d tr sl a b x) (fun v w' h hp hk2 hv => ?_)
  obtain ⟨rfl, rfl⟩ := hp
  repeat (first | refine g_px rfl rfl rfl ?_)
  refine g_if rfl (fun cq => ?_) (fun cq => absurd (show ¬ (1 : Int32) = 0 by decide) cq)
  repeat (first | refine g_px rfl rfl rfl ?_)
  refine g_callV hv [0] 0 rfl rfl rfl rfl rfl rfl rfl rfl (by decide) (s_refuse' sta d tr false sl a b 1) (fun v w' h hp hk2 hv => ?_)
  obtain ⟨rfl, rfl⟩ := hp
  subst hT
  exact g_iret hv rfl rfl rfl rfl ⟨rfl, rfl⟩
theorem s_club_0 (lo : Bool) (hn : D 1 ≤ 6) : mj_Sx sta (d + 3) 87 [.ref 0, .int 0, .int (bl lo)] [wob tr dr a b sl, dhd a D] (fun v w => v = some (.long (-1 : Int32).toInt64) ∧ w = [wob 1 dr a b sl, dhd a D]) := by
  cases hdr : dr with
  | false => exact s_club_x sta d tr false sl a b D 0 lo hn rfl
  | true =>
    refine mj_Sx.mk m_X8_club (by decide) n_X8_club rfl (fun h0 hv => ?_)
    generalize hT : mj_rx m_X8_club h0 _ _ = T
    repeat (first | refine g_px rfl rfl rfl ?_)
    refine g_callV hv [0,1] 0 rfl rfl rfl rfl rfl rfl rfl rfl (by decide) (s_isClub sta d tr true sl a b D 0 hn) (fun v w' h hp hk2 hv => ?_)
    obtain ⟨rfl, rfl⟩ := hp
    rw [show (true && inR (2 ^ D 1) 0) = true from inR_k (n := 2 ^ D 1) (k := 0) (Nat.two_pow_pos _) (by have := p6 hn; omega)]
    refine g_if rfl (fun cq => absurd cq (show ¬ bl true = 0 by decide)) (fun cq => ?_)
    have hv : mj_Vw h0 ([wob tr true a b sl, dhd a D]) h := hv
    repeat (first | refine g_px rfl rfl rfl ?_)
    refine g_if rfl (fun cq => absurd rfl cq) (fun cq => ?_)
    repeat (first | refine g_px rfl rfl rfl ?_)
    refine g_callV hv [0] 0 rfl rfl rfl rfl rfl rfl rfl rfl (by decide) (s_refuse' sta (d + 1) tr true sl a b 1) (fun v w' h hp hk2 hv => ?_)
    obtain ⟨rfl, rfl⟩ := hp
    repeat (first | refine g_px rfl rfl rfl ?_)
    subst hT
    exact g_lret hv rfl rfl rfl ⟨rfl, rfl⟩
theorem s_ruin_0 (y : Int32) (lo : Bool) (hn : D 1 ≤ 6) : mj_Sx sta (d + 3) 88 [.ref 0, .int 0, .int y, .int (bl lo)] [wob tr dr a b sl, dhd a D] (fun v w => v = some (.long (-1 : Int32).toInt64) ∧ w = [wob 1 dr a b sl, dhd a D]) := by
  cases hdr : dr with
  | false => exact s_ruin_x sta d tr false sl a b D 0 y lo hn rfl
  | true =>
    refine mj_Sx.mk m_X8_ruin (by decide) n_X8_ruin rfl (fun h0 hv => ?_)
    generalize hT : mj_rx m_X8_ruin h0 _ _ = T
    repeat (first | refine g_px rfl rfl rfl ?_)
    refine g_callV hv [0,1] 0 rfl rfl rfl rfl rfl rfl rfl rfl (by decide) (s_isClub sta d tr true sl a b D 0 hn) (fun v w' h hp hk2 hv => ?_)
    obtain ⟨rfl, rfl⟩ := hp
    rw [show (true && inR (2 ^ D 1) 0) = true from inR_k (n := 2 ^ D 1) (k := 0) (Nat.two_pow_pos _) (by have := p6 hn; omega)]
    refine g_if rfl (fun cq => absurd cq (show ¬ bl true = 0 by decide)) (fun cq => ?_)
    have hv : mj_Vw h0 ([wob tr true a b sl, dhd a D]) h := hv
    repeat (first | refine g_px rfl rfl rfl ?_)
    refine g_if rfl (fun cq => absurd rfl cq) (fun cq => ?_)
    repeat (first | refine g_px rfl rfl rfl ?_)
    refine g_callV hv [0] 0 rfl rfl rfl rfl rfl rfl rfl rfl (by decide) (s_refuse' sta (d + 1) tr true sl a b 1) (fun v w' h hp hk2 hv => ?_)
    obtain ⟨rfl, rfl⟩ := hp
    repeat (first | refine g_px rfl rfl rfl ?_)
    subst hT
    exact g_lret hv rfl rfl rfl ⟨rfl, rfl⟩
theorem s_ruin_2 (k : Nat) (z : Int32) (lo : Bool) (hk0 : 1 ≤ k) (hk : k < 2 ^ D 1) (hn : D 1 ≤ 6) (hno : inR 1000 z = false) : mj_Sx sta (d + 3) 88 [.ref 0, (.int (nI k)), .int z, .int (bl lo)] [wob tr true a b sl, dhd a D] (fun v w => v = some (.long (-1 : Int32).toInt64) ∧ w = [wob 2 true a b sl, dhd a D]) := by
  refine mj_Sx.mk m_X8_ruin (by decide) n_X8_ruin rfl (fun h0 hv => ?_)
  generalize hT : mj_rx m_X8_ruin h0 _ _ = T
  have hp6 := p6 hn
  repeat (first | refine g_px rfl rfl rfl ?_)
  refine g_callV hv [0,1] 0 rfl rfl rfl rfl rfl rfl rfl rfl (by decide) (s_isClub sta d tr true sl a b D (nI k) hn) (fun v w' h hp hk2 hv => ?_)
  obtain ⟨rfl, rfl⟩ := hp
  rw [inR_k hk (by omega)]
  refine g_if rfl (fun cq => absurd cq (show ¬ bl true = 0 by decide)) (fun cq => ?_)
  have hv : mj_Vw h0 ([wob tr true a b sl, dhd a D]) h := hv
  repeat (first | refine g_px rfl rfl rfl ?_)
  refine g_if rfl (fun cq => ?_) (fun cq => absurd (nI_ne0 (n := k) hk0 (by omega)) cq)
  have fin : ∀ h, mj_Vw h0 [wob tr true a b sl, dhd a D] h → mj_go sta (mj_Cl sta (d + 2)) m_X8_ruin T 30 [some (.ref 0), some (.int (nI k)), some (.int z), some (.int (bl lo))] [] h := by
    intro h hv
    repeat (first | refine g_px rfl rfl rfl ?_)
    refine g_callV hv [0] 0 rfl rfl rfl rfl rfl rfl rfl rfl (by decide) (s_refuse' sta (d + 1) tr true sl a b 2) (fun v w' h hp hk2 hv => ?_)
    obtain ⟨rfl, rfl⟩ := hp
    repeat (first | refine g_px rfl rfl rfl ?_)
    subst hT
    exact g_lret hv rfl rfl rfl ⟨rfl, rfl⟩
  repeat (first | refine g_px rfl rfl rfl ?_)
  refine g_if rfl (fun cq => ?_) (fun cq => ?_)
  · exact fin h hv
  · have cq : ¬ z < 0 := cq
    obtain ⟨y, hy, rfl⟩ := nI_of cq
    repeat (first | refine g_px rfl rfl rfl ?_)
    refine g_ic rfl (fun cq2 => ?_) (fun cq2 => ?_)
    · have cq2 : nI y ≤ nI 999 := cq2
      rw [nI_leI hy (by decide)] at cq2
      rw [inR_k (by omega) (by decide)] at hno
      cases hno
    · exact fin h hv
end Rm
