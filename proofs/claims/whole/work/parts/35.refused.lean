/-! LowNumber: refused calls -/
section Refused
variable (sta : mj_S) (d : Nat) (tr : Int32) (dr sl : Bool) (a b : Nat) (D : Nat → Nat)
theorem s_man_x (m what : Int32) (hn : D 1 ≤ 6) (hno : (dr && inR (D 1) m) = false) : mj_Sx sta (d + 2) 72 [.ref 0, .int m, .int what] [wob tr dr a b sl, dhd a D] (fun v w => v = some (.int (-1)) ∧ w = [wob 1 dr a b sl, dhd a D]) := by
  refine mj_Sx.mk m_X8_man (by decide) n_X8_man rfl (fun h0 hv => ?_)
  generalize hT : mj_rx m_X8_man h0 _ _ = T
  repeat (first | refine g_px rfl rfl rfl ?_)
  refine g_callV hv [0, 1] 0 rfl rfl rfl rfl rfl rfl rfl rfl (by simp) (s_isMan sta d tr dr sl a b D m hn) (fun v w' h hp hk2 hv => ?_)
  obtain ⟨rfl, rfl⟩ := hp
  rw [hno]
  refine g_if rfl (fun cq => absurd rfl cq) (fun cq => ?_)
  repeat (first | refine g_px rfl rfl rfl ?_)
  refine g_callV hv [0] 0 rfl rfl rfl rfl rfl rfl rfl rfl (by simp) (s_refuse' sta d tr dr sl a b 1) (fun v w' h hp hk2 hv => ?_)
  obtain ⟨rfl, rfl⟩ := hp
  subst hT
  exact g_iret hv rfl rfl rfl rfl ⟨rfl, rfl⟩
theorem s_wouldGo_x (m : Int32) (hn : D 1 ≤ 6) (hno : (dr && inR (D 1) m) = false) : mj_Sx sta (d + 2) 75 [.ref 0, .int m] [wob tr dr a b sl, dhd a D] (fun v w => v = some (.int (-1)) ∧ w = [wob 1 dr a b sl, dhd a D]) := by
  refine mj_Sx.mk m_X8_wouldGo (by decide) n_X8_wouldGo rfl (fun h0 hv => ?_)
  generalize hT : mj_rx m_X8_wouldGo h0 _ _ = T
  repeat (first | refine g_px rfl rfl rfl ?_)
  refine g_callV hv [0, 1] 0 rfl rfl rfl rfl rfl rfl rfl rfl (by simp) (s_isMan sta d tr dr sl a b D m hn) (fun v w' h hp hk2 hv => ?_)
  obtain ⟨rfl, rfl⟩ := hp
  rw [hno]
  refine g_if rfl (fun cq => absurd rfl cq) (fun cq => ?_)
  repeat (first | refine g_px rfl rfl rfl ?_)
  refine g_callV hv [0] 0 rfl rfl rfl rfl rfl rfl rfl rfl (by simp) (s_refuse' sta d tr dr sl a b 1) (fun v w' h hp hk2 hv => ?_)
  obtain ⟨rfl, rfl⟩ := hp
  subst hT
  exact g_iret hv rfl rfl rfl rfl ⟨rfl, rfl⟩
theorem s_firstTaken_x (m : Int32) (hn : D 1 ≤ 6) (hno : (dr && inR (D 1) m) = false) : mj_Sx sta (d + 2) 80 [.ref 0, .int m] [wob tr dr a b sl, dhd a D] (fun v w => v = some (.int (-1)) ∧ w = [wob 1 dr a b sl, dhd a D]) := by
  refine mj_Sx.mk m_X8_firstTaken (by decide) n_X8_firstTaken rfl (fun h0 hv => ?_)
  generalize hT : mj_rx m_X8_firstTaken h0 _ _ = T
  repeat (first | refine g_px rfl rfl rfl ?_)
  refine g_callV hv [0, 1] 0 rfl rfl rfl rfl rfl rfl rfl rfl (by simp) (s_isMan sta d tr dr sl a b D m hn) (fun v w' h hp hk2 hv => ?_)
  obtain ⟨rfl, rfl⟩ := hp
  rw [hno]
  refine g_if rfl (fun cq => absurd rfl cq) (fun cq => ?_)
  repeat (first | refine g_px rfl rfl rfl ?_)
  refine g_callV hv [0] 0 rfl rfl rfl rfl rfl rfl rfl rfl (by simp) (s_refuse' sta d tr dr sl a b 1) (fun v w' h hp hk2 hv => ?_)
  obtain ⟨rfl, rfl⟩ := hp
  subst hT
  exact g_iret hv rfl rfl rfl rfl ⟨rfl, rfl⟩
theorem s_taken_x (m : Int32) (lo : Bool) (hn : D 1 ≤ 6) (hno : (dr && inR (D 1) m) = false) : mj_Sx sta (d + 2) 83 [.ref 0, .int m, .int (bl lo)] [wob tr dr a b sl, dhd a D] (fun v w => v = some (.long (-1 : Int32).toInt64) ∧ w = [wob 1 dr a b sl, dhd a D]) := by
  refine mj_Sx.mk m_X8_taken (by decide) n_X8_taken rfl (fun h0 hv => ?_)
  generalize hT : mj_rx m_X8_taken h0 _ _ = T
  repeat (first | refine g_px rfl rfl rfl ?_)
  refine g_callV hv [0, 1] 0 rfl rfl rfl rfl rfl rfl rfl rfl (by simp) (s_isMan sta d tr dr sl a b D m hn) (fun v w' h hp hk2 hv => ?_)
  obtain ⟨rfl, rfl⟩ := hp
  rw [hno]
  refine g_if rfl (fun cq => absurd rfl cq) (fun cq => ?_)
  repeat (first | refine g_px rfl rfl rfl ?_)
  refine g_callV hv [0] 0 rfl rfl rfl rfl rfl rfl rfl rfl (by simp) (s_refuse' sta d tr dr sl a b 1) (fun v w' h hp hk2 hv => ?_)
  obtain ⟨rfl, rfl⟩ := hp
  repeat (first | refine g_px rfl rfl rfl ?_)
  subst hT
  exact g_lret hv rfl rfl rfl ⟨rfl, rfl⟩
theorem s_goes_x (m : Int32) (lo : Bool) (hn : D 1 ≤ 6) (hno : (dr && inR (D 1) m) = false) : mj_Sx sta (d + 2) 84 [.ref 0, .int m, .int (bl lo)] [wob tr dr a b sl, dhd a D] (fun v w => v = some (.long (-1 : Int32).toInt64) ∧ w = [wob 1 dr a b sl, dhd a D]) := by
  refine mj_Sx.mk m_X8_goes (by decide) n_X8_goes rfl (fun h0 hv => ?_)
  generalize hT : mj_rx m_X8_goes h0 _ _ = T
  repeat (first | refine g_px rfl rfl rfl ?_)
  refine g_callV hv [0, 1] 0 rfl rfl rfl rfl rfl rfl rfl rfl (by simp) (s_isMan sta d tr dr sl a b D m hn) (fun v w' h hp hk2 hv => ?_)
  obtain ⟨rfl, rfl⟩ := hp
  rw [hno]
  refine g_if rfl (fun cq => absurd rfl cq) (fun cq => ?_)
  repeat (first | refine g_px rfl rfl rfl ?_)
  refine g_callV hv [0] 0 rfl rfl rfl rfl rfl rfl rfl rfl (by simp) (s_refuse' sta d tr dr sl a b 1) (fun v w' h hp hk2 hv => ?_)
  obtain ⟨rfl, rfl⟩ := hp
  repeat (first | refine g_px rfl rfl rfl ?_)
  subst hT
  exact g_lret hv rfl rfl rfl ⟨rfl, rfl⟩
theorem s_loss_x (m : Int32) (lo : Bool) (hn : D 1 ≤ 6) (hno : (dr && inR (D 1) m) = false) : mj_Sx sta (d + 2) 86 [.ref 0, .int m, .int (bl lo)] [wob tr dr a b sl, dhd a D] (fun v w => v = some (.long (-1 : Int32).toInt64) ∧ w = [wob 1 dr a b sl, dhd a D]) := by
  refine mj_Sx.mk m_X8_loss (by decide) n_X8_loss rfl (fun h0 hv => ?_)
  generalize hT : mj_rx m_X8_loss h0 _ _ = T
  repeat (first | refine g_px rfl rfl rfl ?_)
  refine g_callV hv [0, 1] 0 rfl rfl rfl rfl rfl rfl rfl rfl (by simp) (s_isMan sta d tr dr sl a b D m hn) (fun v w' h hp hk2 hv => ?_)
  obtain ⟨rfl, rfl⟩ := hp
  rw [hno]
  refine g_if rfl (fun cq => absurd rfl cq) (fun cq => ?_)
  repeat (first | refine g_px rfl rfl rfl ?_)
  refine g_callV hv [0] 0 rfl rfl rfl rfl rfl rfl rfl rfl (by simp) (s_refuse' sta d tr dr sl a b 1) (fun v w' h hp hk2 hv => ?_)
  obtain ⟨rfl, rfl⟩ := hp
  repeat (first | refine g_px rfl rfl rfl ?_)
  subst hT
  exact g_lret hv rfl rfl rfl ⟨rfl, rfl⟩
theorem s_ifMarried_x (m : Int32) (lo : Bool) (hn : D 1 ≤ 6) (hno : (dr && inR (D 1) m) = false) : mj_Sx sta (d + 2) 91 [.ref 0, .int m, .int (bl lo)] [wob tr dr a b sl, dhd a D] (fun v w => v = some (.long (-1 : Int32).toInt64) ∧ w = [wob 1 dr a b sl, dhd a D]) := by
  refine mj_Sx.mk m_X8_ifMarried (by decide) n_X8_ifMarried rfl (fun h0 hv => ?_)
  generalize hT : mj_rx m_X8_ifMarried h0 _ _ = T
  repeat (first | refine g_px rfl rfl rfl ?_)
  refine g_callV hv [0, 1] 0 rfl rfl rfl rfl rfl rfl rfl rfl (by simp) (s_isMan sta d tr dr sl a b D m hn) (fun v w' h hp hk2 hv => ?_)
  obtain ⟨rfl, rfl⟩ := hp
  rw [hno]
  refine g_if rfl (fun cq => absurd rfl cq) (fun cq => ?_)
  repeat (first | refine g_px rfl rfl rfl ?_)
  refine g_callV hv [0] 0 rfl rfl rfl rfl rfl rfl rfl rfl (by simp) (s_refuse' sta d tr dr sl a b 1) (fun v w' h hp hk2 hv => ?_)
  obtain ⟨rfl, rfl⟩ := hp
  repeat (first | refine g_px rfl rfl rfl ?_)
  subst hT
  exact g_lret hv rfl rfl rfl ⟨rfl, rfl⟩
theorem s_marry_x (m : Int32) (hn : D 1 ≤ 6) (hno : (dr && inR (D 1) m) = false) : mj_Sx sta (d + 2) 117 [.ref 0, .int m] [wob tr dr a b sl, dhd a D] (fun v w => v = some (.int (bl false)) ∧ w = [wob 1 dr a b sl, dhd a D]) := by
  refine mj_Sx.mk m_X8_marry (by decide) n_X8_marry rfl (fun h0 hv => ?_)
  generalize hT : mj_rx m_X8_marry h0 _ _ = T
  repeat (first | refine g_px rfl rfl rfl ?_)
  refine g_callV hv [0, 1] 0 rfl rfl rfl rfl rfl rfl rfl rfl (by simp) (s_isMan sta d tr dr sl a b D m hn) (fun v w' h hp hk2 hv => ?_)
  obtain ⟨rfl, rfl⟩ := hp
  rw [hno]
  refine g_if rfl (fun cq => absurd rfl cq) (fun cq => ?_)
  repeat (first | refine g_px rfl rfl rfl ?_)
  refine g_callV hv [0] 0 rfl rfl rfl rfl rfl rfl rfl rfl (by simp) (s_deny sta d tr dr sl a b 1) (fun v w' h hp hk2 hv => ?_)
  obtain ⟨rfl, rfl⟩ := hp
  subst hT
  exact g_iret hv rfl rfl rfl rfl ⟨rfl, rfl⟩
theorem s_desert_x (m : Int32) (hn : D 1 ≤ 6) (hno : (dr && inR (D 1) m) = false) : mj_Sx sta (d + 2) 120 [.ref 0, .int m] [wob tr dr a b sl, dhd a D] (fun v w => v = some (.int (-1)) ∧ w = [wob 1 dr a b sl, dhd a D]) := by
  refine mj_Sx.mk m_X8_desert (by decide) n_X8_desert rfl (fun h0 hv => ?_)
  generalize hT : mj_rx m_X8_desert h0 _ _ = T
  repeat (first | refine g_px rfl rfl rfl ?_)
  refine g_callV hv [0, 1] 0 rfl rfl rfl rfl rfl rfl rfl rfl (by simp) (s_isMan sta d tr dr sl a b D m hn) (fun v w' h hp hk2 hv => ?_)
  obtain ⟨rfl, rfl⟩ := hp
  rw [hno]
  refine g_if rfl (fun cq => absurd rfl cq) (fun cq => ?_)
  repeat (first | refine g_px rfl rfl rfl ?_)
  refine g_callV hv [0] 0 rfl rfl rfl rfl rfl rfl rfl rfl (by simp) (s_refuse' sta d tr dr sl a b 1) (fun v w' h hp hk2 hv => ?_)
  obtain ⟨rfl, rfl⟩ := hp
  subst hT
  exact g_iret hv rfl rfl rfl rfl ⟨rfl, rfl⟩
theorem s_fate_x (m : Int32) (hn : D 1 ≤ 6) (hno : (dr && inR (D 1) m) = false) : mj_Sx sta (d + 2) 121 [.ref 0, .int m] [wob tr dr a b sl, dhd a D] (fun v w => v = some (.int (-1)) ∧ w = [wob 1 dr a b sl, dhd a D]) := by
  refine mj_Sx.mk m_X8_fate (by decide) n_X8_fate rfl (fun h0 hv => ?_)
  generalize hT : mj_rx m_X8_fate h0 _ _ = T
  repeat (first | refine g_px rfl rfl rfl ?_)
  refine g_callV hv [0, 1] 0 rfl rfl rfl rfl rfl rfl rfl rfl (by simp) (s_isMan sta d tr dr sl a b D m hn) (fun v w' h hp hk2 hv => ?_)
  obtain ⟨rfl, rfl⟩ := hp
  rw [hno]
  refine g_if rfl (fun cq => absurd rfl cq) (fun cq => ?_)
  repeat (first | refine g_px rfl rfl rfl ?_)
  refine g_callV hv [0] 0 rfl rfl rfl rfl rfl rfl rfl rfl (by simp) (s_refuse' sta d tr dr sl a b 1) (fun v w' h hp hk2 hv => ?_)
  obtain ⟨rfl, rfl⟩ := hp
  subst hT
  exact g_iret hv rfl rfl rfl rfl ⟨rfl, rfl⟩
theorem s_countDraws_x (m x y z : Int32) (hn : D 1 ≤ 6) (hno : (dr && inR (D 1) m) = false) : mj_Sx sta (d + 2) 114 [.ref 0, .int m, .int x, .int y, .int z] [wob tr dr a b sl, dhd a D] (fun v w => v = some (.int (-1)) ∧ w = [wob 1 dr a b sl, dhd a D]) := by
  refine mj_Sx.mk m_X8_countDraws (by decide) n_X8_countDraws rfl (fun h0 hv => ?_)
  generalize hT : mj_rx m_X8_countDraws h0 _ _ = T
  repeat (first | refine g_px rfl rfl rfl ?_)
  refine g_callV hv [0, 1] 0 rfl rfl rfl rfl rfl rfl rfl rfl (by simp) (s_isMan sta d tr dr sl a b D m hn) (fun v w' h hp hk2 hv => ?_)
  obtain ⟨rfl, rfl⟩ := hp
  rw [hno]
  refine g_if rfl (fun cq => absurd rfl cq) (fun cq => ?_)
  repeat (first | refine g_px rfl rfl rfl ?_)
  refine g_callV hv [0] 0 rfl rfl rfl rfl rfl rfl rfl rfl (by simp) (s_refuse' sta d tr dr sl a b 1) (fun v w' h hp hk2 hv => ?_)
  obtain ⟨rfl, rfl⟩ := hp
  subst hT
  exact g_iret hv rfl rfl rfl rfl ⟨rfl, rfl⟩
theorem s_could_x (m : Int32) (hn : D 8 ≤ 3) (hno : (dr && inR (D 8) m) = false) : mj_Sx sta (d + 2) 98 [.ref 0, .int m] [wob tr dr a b sl, dhd a D] (fun v w => v = some (.int (-1)) ∧ w = [wob 1 dr a b sl, dhd a D]) := by
  refine mj_Sx.mk m_X8_could (by decide) n_X8_could rfl (fun h0 hv => ?_)
  generalize hT : mj_rx m_X8_could h0 _ _ = T
  repeat (first | refine g_px rfl rfl rfl ?_)
  refine g_callV hv [0, 1] 0 rfl rfl rfl rfl rfl rfl rfl rfl (by simp) (s_isTold sta d tr dr sl a b D m hn) (fun v w' h hp hk2 hv => ?_)
  obtain ⟨rfl, rfl⟩ := hp
  rw [hno]
  refine g_if rfl (fun cq => ?_) (fun cq => absurd rfl cq)
  repeat (first | refine g_px rfl rfl rfl ?_)
  refine g_callV hv [0] 0 rfl rfl rfl rfl rfl rfl rfl rfl (by simp) (s_refuse' sta d tr dr sl a b 1) (fun v w' h hp hk2 hv => ?_)
  obtain ⟨rfl, rfl⟩ := hp
  repeat (first | refine g_px rfl rfl rfl ?_)
  subst hT
  exact g_iret hv rfl rfl rfl rfl ⟨rfl, rfl⟩
theorem s_surely_x (m : Int32) (hn : D 8 ≤ 3) (hno : (dr && inR (D 8) m) = false) : mj_Sx sta (d + 2) 99 [.ref 0, .int m] [wob tr dr a b sl, dhd a D] (fun v w => v = some (.int (-1)) ∧ w = [wob 1 dr a b sl, dhd a D]) := by
  refine mj_Sx.mk m_X8_surely (by decide) n_X8_surely rfl (fun h0 hv => ?_)
  generalize hT : mj_rx m_X8_surely h0 _ _ = T
  repeat (first | refine g_px rfl rfl rfl ?_)
  refine g_callV hv [0, 1] 0 rfl rfl rfl rfl rfl rfl rfl rfl (by simp) (s_isTold sta d tr dr sl a b D m hn) (fun v w' h hp hk2 hv => ?_)
  obtain ⟨rfl, rfl⟩ := hp
  rw [hno]
  refine g_if rfl (fun cq => ?_) (fun cq => absurd rfl cq)
  repeat (first | refine g_px rfl rfl rfl ?_)
  refine g_callV hv [0] 0 rfl rfl rfl rfl rfl rfl rfl rfl (by simp) (s_refuse' sta d tr dr sl a b 1) (fun v w' h hp hk2 hv => ?_)
  obtain ⟨rfl, rfl⟩ := hp
  repeat (first | refine g_px rfl rfl rfl ?_)
  subst hT
  exact g_iret hv rfl rfl rfl rfl ⟨rfl, rfl⟩
theorem s_lot_x (m : Int32) (hn : D 1 ≤ 6) (hno : (dr && inR (D 1) m) = false) : mj_Sx sta (d + 2) 123 [.ref 0, .int m] [wob tr dr a b sl, dhd a D] (fun v w => v = some (.int (-1)) ∧ w = [wob 1 dr a b sl, dhd a D]) := by
  refine mj_Sx.mk m_X8_lot (by decide) n_X8_lot rfl (fun h0 hv => ?_)
  generalize hT : mj_rx m_X8_lot h0 _ _ = T
  repeat (first | refine g_px rfl rfl rfl ?_)
  refine g_callV hv [0, 1] 0 rfl rfl rfl rfl rfl rfl rfl rfl (by simp) (s_isMan sta d tr dr sl a b D m hn) (fun v w' h hp hk2 hv => ?_)
  obtain ⟨rfl, rfl⟩ := hp
  rw [hno]
  refine g_if rfl (fun cq => ?_) (fun cq => absurd rfl cq)
  repeat (first | refine g_px rfl rfl rfl ?_)
  refine g_callV hv [0] 0 rfl rfl rfl rfl rfl rfl rfl rfl (by simp) (s_refuse' sta d tr dr sl a b 1) (fun v w' h hp hk2 hv => ?_)
  obtain ⟨rfl, rfl⟩ := hp
  repeat (first | refine g_px rfl rfl rfl ?_)
  subst hT
  exact g_iret hv rfl rfl rfl rfl ⟨rfl, rfl⟩
theorem s_club_x (m : Int32) (lo : Bool) (hn : D 1 ≤ 6) (hno : (dr && inR (2 ^ D 1) m) = false) : mj_Sx sta (d + 3) 87 [.ref 0, .int m, .int (bl lo)] [wob tr dr a b sl, dhd a D] (fun v w => v = some (.long (-1 : Int32).toInt64) ∧ w = [wob 1 dr a b sl, dhd a D]) := by
  refine mj_Sx.mk m_X8_club (by decide) n_X8_club rfl (fun h0 hv => ?_)
  generalize hT : mj_rx m_X8_club h0 _ _ = T
  repeat (first | refine g_px rfl rfl rfl ?_)
  refine g_callV hv [0, 1] 0 rfl rfl rfl rfl rfl rfl rfl rfl (by simp) (s_isClub sta d tr dr sl a b D m hn) (fun v w' h hp hk2 hv => ?_)
  obtain ⟨rfl, rfl⟩ := hp
  rw [hno]
  refine g_if rfl (fun cq => ?_) (fun cq => absurd rfl cq)
  repeat (first | refine g_px rfl rfl rfl ?_)
  refine g_callV hv [0] 0 rfl rfl rfl rfl rfl rfl rfl rfl (by simp) (s_refuse' sta (d + 1) tr dr sl a b 1) (fun v w' h hp hk2 hv => ?_)
  obtain ⟨rfl, rfl⟩ := hp
  repeat (first | refine g_px rfl rfl rfl ?_)
  subst hT
  exact g_lret hv rfl rfl rfl ⟨rfl, rfl⟩
theorem s_ruin_x (m y : Int32) (lo : Bool) (hn : D 1 ≤ 6) (hno : (dr && inR (2 ^ D 1) m) = false) : mj_Sx sta (d + 3) 88 [.ref 0, .int m, .int y, .int (bl lo)] [wob tr dr a b sl, dhd a D] (fun v w => v = some (.long (-1 : Int32).toInt64) ∧ w = [wob 1 dr a b sl, dhd a D]) := by
  refine mj_Sx.mk m_X8_ruin (by decide) n_X8_ruin rfl (fun h0 hv => ?_)
  generalize hT : mj_rx m_X8_ruin h0 _ _ = T
  repeat (first | refine g_px rfl rfl rfl ?_)
  refine g_callV hv [0, 1] 0 rfl rfl rfl rfl rfl rfl rfl rfl (by simp) (s_isClub sta d tr dr sl a b D m hn) (fun v w' h hp hk2 hv => ?_)
  obtain ⟨rfl, rfl⟩ := hp
  rw [hno]
  refine g_if rfl (fun cq => ?_) (fun cq => absurd rfl cq)
  repeat (first | refine g_px rfl rfl rfl ?_)
  refine g_callV hv [0] 0 rfl rfl rfl rfl rfl rfl rfl rfl (by simp) (s_refuse' sta (d + 1) tr dr sl a b 1) (fun v w' h hp hk2 hv => ?_)
  obtain ⟨rfl, rfl⟩ := hp
  repeat (first | refine g_px rfl rfl rfl ?_)
  subst hT
  exact g_lret hv rfl rfl rfl ⟨rfl, rfl⟩
theorem s_toJoin_x (m : Int32) (hn : D 1 ≤ 6) (hno : (dr && inR (2 ^ D 1) m) = false) : mj_Sx sta (d + 3) 89 [.ref 0, .int m] [wob tr dr a b sl, dhd a D] (fun v w => v = some (.int (-1)) ∧ w = [wob 1 dr a b sl, dhd a D]) := by
  refine mj_Sx.mk m_X8_toJoin (by decide) n_X8_toJoin rfl (fun h0 hv => ?_)
  generalize hT : mj_rx m_X8_toJoin h0 _ _ = T
  repeat (first | refine g_px rfl rfl rfl ?_)
  refine g_callV hv [0, 1] 0 rfl rfl rfl rfl rfl rfl rfl rfl (by simp) (s_isClub sta d tr dr sl a b D m hn) (fun v w' h hp hk2 hv => ?_)
  obtain ⟨rfl, rfl⟩ := hp
  rw [hno]
  refine g_if rfl (fun cq => absurd rfl cq) (fun cq => ?_)
  repeat (first | refine g_px rfl rfl rfl ?_)
  refine g_callV hv [0] 0 rfl rfl rfl rfl rfl rfl rfl rfl (by simp) (s_refuse' sta (d + 1) tr dr sl a b 1) (fun v w' h hp hk2 hv => ?_)
  obtain ⟨rfl, rfl⟩ := hp
  subst hT
  exact g_iret hv rfl rfl rfl rfl ⟨rfl, rfl⟩
theorem s_spared_u  : mj_Sx sta (d + 2) 73 [.ref 0] [wob tr false a b sl] (fun v w => v = some (.int (-1)) ∧ w = [wob 1 false a b sl]) := by
  refine mj_Sx.mk m_X8_spared (by decide) n_X8_spared rfl (fun h0 hv => ?_)
  generalize hT : mj_rx m_X8_spared h0 _ _ = T
  repeat (first | refine g_px rfl rfl rfl ?_ | refine g_get hv 0 rfl rfl rfl rfl ?_)
  refine g_if rfl (fun cq => ?_) (fun cq => absurd rfl cq)
  repeat (first | refine g_px rfl rfl rfl ?_)
  refine g_callV hv [0] 0 rfl rfl rfl rfl rfl rfl rfl rfl (by simp) (s_refuse' sta d tr false sl a b 1) (fun v w' h hp hk2 hv => ?_)
  obtain ⟨rfl, rfl⟩ := hp
  repeat (first | refine g_px rfl rfl rfl ?_)
  subst hT
  exact g_iret hv rfl rfl rfl rfl ⟨rfl, rfl⟩
theorem s_many_u (m : Int32) : mj_Sx sta (d + 2) 74 [.ref 0, .int m] [wob tr false a b sl] (fun v w => v = some (.int (-1)) ∧ w = [wob 1 false a b sl]) := by
  refine mj_Sx.mk m_X8_many (by decide) n_X8_many rfl (fun h0 hv => ?_)
  generalize hT : mj_rx m_X8_many h0 _ _ = T
  repeat (first | refine g_px rfl rfl rfl ?_ | refine g_get hv 0 rfl rfl rfl rfl ?_)
  refine g_if rfl (fun cq => absurd rfl cq) (fun cq => ?_)
  repeat (first | refine g_px rfl rfl rfl ?_)
  refine g_callV hv [0] 0 rfl rfl rfl rfl rfl rfl rfl rfl (by simp) (s_refuse' sta d tr false sl a b 1) (fun v w' h hp hk2 hv => ?_)
  obtain ⟨rfl, rfl⟩ := hp
  subst hT
  exact g_iret hv rfl rfl rfl rfl ⟨rfl, rfl⟩
theorem s_shortOf_u (lo : Bool) : mj_Sx sta (d + 2) 90 [.ref 0, .int (bl lo)] [wob tr false a b sl] (fun v w => v = some (.long (-1 : Int32).toInt64) ∧ w = [wob 1 false a b sl]) := by
  refine mj_Sx.mk m_X8_shortOf (by decide) n_X8_shortOf rfl (fun h0 hv => ?_)
  generalize hT : mj_rx m_X8_shortOf h0 _ _ = T
  repeat (first | refine g_px rfl rfl rfl ?_ | refine g_get hv 0 rfl rfl rfl rfl ?_)
  refine g_if rfl (fun cq => absurd rfl cq) (fun cq => ?_)
  repeat (first | refine g_px rfl rfl rfl ?_)
  refine g_callV hv [0] 0 rfl rfl rfl rfl rfl rfl rfl rfl (by simp) (s_refuse' sta d tr false sl a b 1) (fun v w' h hp hk2 hv => ?_)
  obtain ⟨rfl, rfl⟩ := hp
  repeat (first | refine g_px rfl rfl rfl ?_)
  subst hT
  exact g_lret hv rfl rfl rfl ⟨rfl, rfl⟩
theorem s_harm_u (m : Int32) (lo : Bool) : mj_Sx sta (d + 2) 92 [.ref 0, .int m, .int (bl lo)] [wob tr false a b sl] (fun v w => v = some (.long (-1 : Int32).toInt64) ∧ w = [wob 1 false a b sl]) := by
  refine mj_Sx.mk m_X8_harm (by decide) n_X8_harm rfl (fun h0 hv => ?_)
  generalize hT : mj_rx m_X8_harm h0 _ _ = T
  repeat (first | refine g_px rfl rfl rfl ?_ | refine g_get hv 0 rfl rfl rfl rfl ?_)
  refine g_if rfl (fun cq => absurd rfl cq) (fun cq => ?_)
  repeat (first | refine g_px rfl rfl rfl ?_)
  refine g_callV hv [0] 0 rfl rfl rfl rfl rfl rfl rfl rfl (by simp) (s_refuse' sta d tr false sl a b 1) (fun v w' h hp hk2 hv => ?_)
  obtain ⟨rfl, rfl⟩ := hp
  repeat (first | refine g_px rfl rfl rfl ?_)
  subst hT
  exact g_lret hv rfl rfl rfl ⟨rfl, rfl⟩
theorem s_fills_u (m : Int32) : mj_Sx sta (d + 2) 93 [.ref 0, .int m] [wob tr false a b sl] (fun v w => v = some (.int (-1)) ∧ w = [wob 1 false a b sl]) := by
  refine mj_Sx.mk m_X8_fills (by decide) n_X8_fills rfl (fun h0 hv => ?_)
  generalize hT : mj_rx m_X8_fills h0 _ _ = T
  repeat (first | refine g_px rfl rfl rfl ?_ | refine g_get hv 0 rfl rfl rfl rfl ?_)
  refine g_if rfl (fun cq => absurd rfl cq) (fun cq => ?_)
  repeat (first | refine g_px rfl rfl rfl ?_)
  refine g_callV hv [0] 0 rfl rfl rfl rfl rfl rfl rfl rfl (by simp) (s_refuse' sta d tr false sl a b 1) (fun v w' h hp hk2 hv => ?_)
  obtain ⟨rfl, rfl⟩ := hp
  subst hT
  exact g_iret hv rfl rfl rfl rfl ⟨rfl, rfl⟩
theorem s_bestLaw_u  : mj_Sx sta (d + 2) 94 [.ref 0] [wob tr false a b sl] (fun v w => v = some (.int (-1)) ∧ w = [wob 1 false a b sl]) := by
  refine mj_Sx.mk m_X8_bestLaw (by decide) n_X8_bestLaw rfl (fun h0 hv => ?_)
  generalize hT : mj_rx m_X8_bestLaw h0 _ _ = T
  repeat (first | refine g_px rfl rfl rfl ?_ | refine g_get hv 0 rfl rfl rfl rfl ?_)
  refine g_if rfl (fun cq => absurd rfl cq) (fun cq => ?_)
  repeat (first | refine g_px rfl rfl rfl ?_)
  refine g_callV hv [0] 0 rfl rfl rfl rfl rfl rfl rfl rfl (by simp) (s_refuse' sta d tr false sl a b 1) (fun v w' h hp hk2 hv => ?_)
  obtain ⟨rfl, rfl⟩ := hp
  subst hT
  exact g_iret hv rfl rfl rfl rfl ⟨rfl, rfl⟩
theorem s_toSpare_u  : mj_Sx sta (d + 2) 95 [.ref 0] [wob tr false a b sl] (fun v w => v = some (.int (-1)) ∧ w = [wob 1 false a b sl]) := by
  refine mj_Sx.mk m_X8_toSpare (by decide) n_X8_toSpare rfl (fun h0 hv => ?_)
  generalize hT : mj_rx m_X8_toSpare h0 _ _ = T
  repeat (first | refine g_px rfl rfl rfl ?_ | refine g_get hv 0 rfl rfl rfl rfl ?_)
  refine g_if rfl (fun cq => absurd rfl cq) (fun cq => ?_)
  repeat (first | refine g_px rfl rfl rfl ?_)
  refine g_callV hv [0] 0 rfl rfl rfl rfl rfl rfl rfl rfl (by simp) (s_refuse' sta d tr false sl a b 1) (fun v w' h hp hk2 hv => ?_)
  obtain ⟨rfl, rfl⟩ := hp
  subst hT
  exact g_iret hv rfl rfl rfl rfl ⟨rfl, rfl⟩
theorem s_rows_u  : mj_Sx sta (d + 2) 97 [.ref 0] [wob tr false a b sl] (fun v w => v = some (.int (-1)) ∧ w = [wob 1 false a b sl]) := by
  refine mj_Sx.mk m_X8_rows (by decide) n_X8_rows rfl (fun h0 hv => ?_)
  generalize hT : mj_rx m_X8_rows h0 _ _ = T
  repeat (first | refine g_px rfl rfl rfl ?_ | refine g_get hv 0 rfl rfl rfl rfl ?_)
  refine g_if rfl (fun cq => absurd rfl cq) (fun cq => ?_)
  repeat (first | refine g_px rfl rfl rfl ?_)
  refine g_callV hv [0] 0 rfl rfl rfl rfl rfl rfl rfl rfl (by simp) (s_refuse' sta d tr false sl a b 1) (fun v w' h hp hk2 hv => ?_)
  obtain ⟨rfl, rfl⟩ := hp
  subst hT
  exact g_iret hv rfl rfl rfl rfl ⟨rfl, rfl⟩
theorem s_ask_u  : mj_Sx sta (d + 2) 100 [.ref 0] [wob tr false a b sl] (fun v w => v = some (.int (-1)) ∧ w = [wob 1 false a b sl]) := by
  refine mj_Sx.mk m_X8_ask (by decide) n_X8_ask rfl (fun h0 hv => ?_)
  generalize hT : mj_rx m_X8_ask h0 _ _ = T
  repeat (first | refine g_px rfl rfl rfl ?_ | refine g_get hv 0 rfl rfl rfl rfl ?_)
  refine g_if rfl (fun cq => absurd rfl cq) (fun cq => ?_)
  repeat (first | refine g_px rfl rfl rfl ?_)
  refine g_callV hv [0] 0 rfl rfl rfl rfl rfl rfl rfl rfl (by simp) (s_refuse' sta d tr false sl a b 1) (fun v w' h hp hk2 hv => ?_)
  obtain ⟨rfl, rfl⟩ := hp
  subst hT
  exact g_iret hv rfl rfl rfl rfl ⟨rfl, rfl⟩
theorem s_askLeaves_u  : mj_Sx sta (d + 2) 101 [.ref 0] [wob tr false a b sl] (fun v w => v = some (.int (-1)) ∧ w = [wob 1 false a b sl]) := by
  refine mj_Sx.mk m_X8_askLeaves (by decide) n_X8_askLeaves rfl (fun h0 hv => ?_)
  generalize hT : mj_rx m_X8_askLeaves h0 _ _ = T
  repeat (first | refine g_px rfl rfl rfl ?_ | refine g_get hv 0 rfl rfl rfl rfl ?_)
  refine g_if rfl (fun cq => absurd rfl cq) (fun cq => ?_)
  repeat (first | refine g_px rfl rfl rfl ?_)
  refine g_callV hv [0] 0 rfl rfl rfl rfl rfl rfl rfl rfl (by simp) (s_refuse' sta d tr false sl a b 1) (fun v w' h hp hk2 hv => ?_)
  obtain ⟨rfl, rfl⟩ := hp
  subst hT
  exact g_iret hv rfl rfl rfl rfl ⟨rfl, rfl⟩
theorem s_surelyTaken_u  : mj_Sx sta (d + 2) 102 [.ref 0] [wob tr false a b sl] (fun v w => v = some (.int (-1)) ∧ w = [wob 1 false a b sl]) := by
  refine mj_Sx.mk m_X8_surelyTaken (by decide) n_X8_surelyTaken rfl (fun h0 hv => ?_)
  generalize hT : mj_rx m_X8_surelyTaken h0 _ _ = T
  repeat (first | refine g_px rfl rfl rfl ?_ | refine g_get hv 0 rfl rfl rfl rfl ?_)
  refine g_if rfl (fun cq => absurd rfl cq) (fun cq => ?_)
  repeat (first | refine g_px rfl rfl rfl ?_)
  refine g_callV hv [0] 0 rfl rfl rfl rfl rfl rfl rfl rfl (by simp) (s_refuse' sta d tr false sl a b 1) (fun v w' h hp hk2 hv => ?_)
  obtain ⟨rfl, rfl⟩ := hp
  subst hT
  exact g_iret hv rfl rfl rfl rfl ⟨rfl, rfl⟩
theorem s_hold_u  : mj_Sx sta (d + 2) 119 [.ref 0] [wob tr false a b sl] (fun v w => v = some (.int (-1)) ∧ w = [wob 1 false a b sl]) := by
  refine mj_Sx.mk m_X8_hold (by decide) n_X8_hold rfl (fun h0 hv => ?_)
  generalize hT : mj_rx m_X8_hold h0 _ _ = T
  repeat (first | refine g_px rfl rfl rfl ?_ | refine g_get hv 0 rfl rfl rfl rfl ?_)
  refine g_if rfl (fun cq => absurd rfl cq) (fun cq => ?_)
  repeat (first | refine g_px rfl rfl rfl ?_)
  refine g_callV hv [0] 0 rfl rfl rfl rfl rfl rfl rfl rfl (by simp) (s_refuse' sta d tr false sl a b 1) (fun v w' h hp hk2 hv => ?_)
  obtain ⟨rfl, rfl⟩ := hp
  subst hT
  exact g_iret hv rfl rfl rfl rfl ⟨rfl, rfl⟩
theorem s_image_u  : mj_Sx sta (d + 2) 126 [.ref 0] [wob tr false a b sl] (fun v w => v = some (.int (-1)) ∧ w = [wob 1 false a b sl]) := by
  refine mj_Sx.mk m_X8_image (by decide) n_X8_image rfl (fun h0 hv => ?_)
  generalize hT : mj_rx m_X8_image h0 _ _ = T
  repeat (first | refine g_px rfl rfl rfl ?_ | refine g_get hv 0 rfl rfl rfl rfl ?_)
  refine g_if rfl (fun cq => absurd rfl cq) (fun cq => ?_)
  repeat (first | refine g_px rfl rfl rfl ?_)
  refine g_callV hv [0] 0 rfl rfl rfl rfl rfl rfl rfl rfl (by simp) (s_refuse' sta d tr false sl a b 1) (fun v w' h hp hk2 hv => ?_)
  obtain ⟨rfl, rfl⟩ := hp
  subst hT
  exact g_iret hv rfl rfl rfl rfl ⟨rfl, rfl⟩
theorem s_believed_u (x : Int32) (lo : Bool) : mj_Sx sta (d + 2) 104 [.ref 0, .int x, .int (bl lo)] [wob tr false a b sl] (fun v w => v = some (.long (-1 : Int32).toInt64) ∧ w = [wob 1 false a b sl]) := by
  refine mj_Sx.mk m_X8_believed (by decide) n_X8_believed rfl (fun h0 hv => ?_)
  generalize hT : mj_rx m_X8_believed h0 _ _ = T
  repeat (first | refine g_px rfl rfl rfl ?_ | refine g_get hv 0 rfl rfl rfl rfl ?_)
  refine g_if rfl (fun cq => absurd rfl cq) (fun cq => ?_)
  repeat (first | refine g_px rfl rfl rfl ?_)
  refine g_callV hv [0] 0 rfl rfl rfl rfl rfl rfl rfl rfl (by simp) (s_refuse' sta d tr false sl a b 1) (fun v w' h hp hk2 hv => ?_)
  obtain ⟨rfl, rfl⟩ := hp
  repeat (first | refine g_px rfl rfl rfl ?_)
  subst hT
  exact g_lret hv rfl rfl rfl ⟨rfl, rfl⟩
theorem s_wrong_u (lo : Bool) : mj_Sx sta (d + 2) 105 [.ref 0, .int (bl lo)] [wob tr false a b sl] (fun v w => v = some (.long (-1 : Int32).toInt64) ∧ w = [wob 1 false a b sl]) := by
  refine mj_Sx.mk m_X8_wrong (by decide) n_X8_wrong rfl (fun h0 hv => ?_)
  generalize hT : mj_rx m_X8_wrong h0 _ _ = T
  repeat (first | refine g_px rfl rfl rfl ?_ | refine g_get hv 0 rfl rfl rfl rfl ?_)
  refine g_if rfl (fun cq => absurd rfl cq) (fun cq => ?_)
  repeat (first | refine g_px rfl rfl rfl ?_)
  refine g_callV hv [0] 0 rfl rfl rfl rfl rfl rfl rfl rfl (by simp) (s_refuse' sta d tr false sl a b 1) (fun v w' h hp hk2 hv => ?_)
  obtain ⟨rfl, rfl⟩ := hp
  repeat (first | refine g_px rfl rfl rfl ?_)
  subst hT
  exact g_lret hv rfl rfl rfl ⟨rfl, rfl⟩
theorem s_rests_u (m : Int32) : mj_Sx sta (d + 2) 107 [.ref 0, .int m] [wob tr false a b sl] (fun v w => v = some (.int (-1)) ∧ w = [wob 1 false a b sl]) := by
  refine mj_Sx.mk m_X8_rests (by decide) n_X8_rests rfl (fun h0 hv => ?_)
  generalize hT : mj_rx m_X8_rests h0 _ _ = T
  repeat (first | refine g_px rfl rfl rfl ?_ | refine g_get hv 0 rfl rfl rfl rfl ?_)
  refine g_if rfl (fun cq => absurd rfl cq) (fun cq => ?_)
  repeat (first | refine g_px rfl rfl rfl ?_)
  refine g_callV hv [0] 0 rfl rfl rfl rfl rfl rfl rfl rfl (by simp) (s_refuse' sta d tr false sl a b 1) (fun v w' h hp hk2 hv => ?_)
  obtain ⟨rfl, rfl⟩ := hp
  subst hT
  exact g_iret hv rfl rfl rfl rfl ⟨rfl, rfl⟩
theorem s_rest_u (m : Int32) : mj_Sx sta (d + 2) 108 [.ref 0, .int m] [wob tr false a b sl] (fun v w => v = some (.int (-1)) ∧ w = [wob 1 false a b sl]) := by
  refine mj_Sx.mk m_X8_rest (by decide) n_X8_rest rfl (fun h0 hv => ?_)
  generalize hT : mj_rx m_X8_rest h0 _ _ = T
  repeat (first | refine g_px rfl rfl rfl ?_ | refine g_get hv 0 rfl rfl rfl rfl ?_)
  refine g_if rfl (fun cq => absurd rfl cq) (fun cq => ?_)
  repeat (first | refine g_px rfl rfl rfl ?_)
  refine g_callV hv [0] 0 rfl rfl rfl rfl rfl rfl rfl rfl (by simp) (s_refuse' sta d tr false sl a b 1) (fun v w' h hp hk2 hv => ?_)
  obtain ⟨rfl, rfl⟩ := hp
  subst hT
  exact g_iret hv rfl rfl rfl rfl ⟨rfl, rfl⟩
theorem s_lossIn_u (x y : Int32) : mj_Sx sta (d + 2) 115 [.ref 0, .int x, .int y] [wob tr false a b sl] (fun v w => v = some (.int (-1)) ∧ w = [wob 1 false a b sl]) := by
  refine mj_Sx.mk m_X8_lossIn (by decide) n_X8_lossIn rfl (fun h0 hv => ?_)
  generalize hT : mj_rx m_X8_lossIn h0 _ _ = T
  repeat (first | refine g_px rfl rfl rfl ?_ | refine g_get hv 0 rfl rfl rfl rfl ?_)
  refine g_if rfl (fun cq => absurd rfl cq) (fun cq => ?_)
  repeat (first | refine g_px rfl rfl rfl ?_)
  refine g_callV hv [0] 0 rfl rfl rfl rfl rfl rfl rfl rfl (by simp) (s_refuse' sta d tr false sl a b 1) (fun v w' h hp hk2 hv => ?_)
  obtain ⟨rfl, rfl⟩ := hp
  subst hT
  exact g_iret hv rfl rfl rfl rfl ⟨rfl, rfl⟩
theorem s_spare_u (m x : Int32) : mj_Sx sta (d + 2) 118 [.ref 0, .int m, .int x] [wob tr false a b sl] (fun v w => v = some (.int (bl false)) ∧ w = [wob 1 false a b sl]) := by
  refine mj_Sx.mk m_X8_spare (by decide) n_X8_spare rfl (fun h0 hv => ?_)
  generalize hT : mj_rx m_X8_spare h0 _ _ = T
  repeat (first | refine g_px rfl rfl rfl ?_ | refine g_get hv 0 rfl rfl rfl rfl ?_)
  refine g_if rfl (fun cq => absurd rfl cq) (fun cq => ?_)
  repeat (first | refine g_px rfl rfl rfl ?_)
  refine g_callV hv [0] 0 rfl rfl rfl rfl rfl rfl rfl rfl (by simp) (s_deny sta d tr false sl a b 1) (fun v w' h hp hk2 hv => ?_)
  obtain ⟨rfl, rfl⟩ := hp
  subst hT
  exact g_iret hv rfl rfl rfl rfl ⟨rfl, rfl⟩
theorem s_seed_u (m : Int32) : mj_Sx sta (d + 2) 124 [.ref 0, .int m] [wob tr false a b sl] (fun v w => v = some (.int (bl false)) ∧ w = [wob 1 false a b sl]) := by
  refine mj_Sx.mk m_X8_seed (by decide) n_X8_seed rfl (fun h0 hv => ?_)
  generalize hT : mj_rx m_X8_seed h0 _ _ = T
  repeat (first | refine g_px rfl rfl rfl ?_ | refine g_get hv 0 rfl rfl rfl rfl ?_)
  refine g_if rfl (fun cq => absurd rfl cq) (fun cq => ?_)
  repeat (first | refine g_px rfl rfl rfl ?_)
  refine g_callV hv [0] 0 rfl rfl rfl rfl rfl rfl rfl rfl (by simp) (s_deny sta d tr false sl a b 1) (fun v w' h hp hk2 hv => ?_)
  obtain ⟨rfl, rfl⟩ := hp
  subst hT
  exact g_iret hv rfl rfl rfl rfl ⟨rfl, rfl⟩
theorem s_many_2 (m : Int32) (hno : inR 4 m = false) : mj_Sx sta (d + 2) 74 [.ref 0, .int m] [wob tr true a b sl] (fun v w => v = some (.int (-1)) ∧ w = [wob 2 true a b sl]) := by
  refine mj_Sx.mk m_X8_many (by decide) n_X8_many rfl (fun h0 hv => ?_)
  generalize hT : mj_rx m_X8_many h0 _ _ = T
  repeat (first | refine g_px rfl rfl rfl ?_ | refine g_get hv 0 rfl rfl rfl rfl ?_)
  refine g_if rfl (fun cq => ?_) (fun cq => absurd (show ¬ bl true = 0 by decide) cq)
  repeat (first | refine g_px rfl rfl rfl ?_)
  refine g_callS hv [] rfl rfl rfl rfl rfl rfl rfl (by simp) (s_isSort sta d m) (fun v w' h hp hk2 hv => ?_)
  obtain ⟨rfl, rfl⟩ := hp
  rw [hno]
  refine g_if rfl (fun cq => absurd rfl cq) (fun cq => ?_)
  repeat (first | refine g_px rfl rfl rfl ?_)
  refine g_callV hv [0] 0 rfl rfl rfl rfl rfl rfl rfl rfl (by simp) (s_refuse' sta d tr true sl a b 2) (fun v w' h hp hk2 hv => ?_)
  obtain ⟨rfl, rfl⟩ := hp
  subst hT
  exact g_iret hv rfl rfl rfl rfl ⟨rfl, rfl⟩
theorem s_harm_2 (m : Int32) (lo : Bool) (hno : inR 16 m = false) : mj_Sx sta (d + 2) 92 [.ref 0, .int m, .int (bl lo)] [wob tr true a b sl] (fun v w => v = some (.long (-1 : Int32).toInt64) ∧ w = [wob 2 true a b sl]) := by
  refine mj_Sx.mk m_X8_harm (by decide) n_X8_harm rfl (fun h0 hv => ?_)
  generalize hT : mj_rx m_X8_harm h0 _ _ = T
  repeat (first | refine g_px rfl rfl rfl ?_ | refine g_get hv 0 rfl rfl rfl rfl ?_)
  refine g_if rfl (fun cq => ?_) (fun cq => absurd (show ¬ bl true = 0 by decide) cq)
  repeat (first | refine g_px rfl rfl rfl ?_)
  refine g_callS hv [] rfl rfl rfl rfl rfl rfl rfl (by simp) (s_isLaw sta d m) (fun v w' h hp hk2 hv => ?_)
  obtain ⟨rfl, rfl⟩ := hp
  rw [hno]
  refine g_if rfl (fun cq => absurd rfl cq) (fun cq => ?_)
  repeat (first | refine g_px rfl rfl rfl ?_)
  refine g_callV hv [0] 0 rfl rfl rfl rfl rfl rfl rfl rfl (by simp) (s_refuse' sta d tr true sl a b 2) (fun v w' h hp hk2 hv => ?_)
  obtain ⟨rfl, rfl⟩ := hp
  repeat (first | refine g_px rfl rfl rfl ?_)
  subst hT
  exact g_lret hv rfl rfl rfl ⟨rfl, rfl⟩
theorem s_fills_2 (m : Int32) (hno : inR 16 m = false) : mj_Sx sta (d + 2) 93 [.ref 0, .int m] [wob tr true a b sl] (fun v w => v = some (.int (-1)) ∧ w = [wob 2 true a b sl]) := by
  refine mj_Sx.mk m_X8_fills (by decide) n_X8_fills rfl (fun h0 hv => ?_)
  generalize hT : mj_rx m_X8_fills h0 _ _ = T
  repeat (first | refine g_px rfl rfl rfl ?_ | refine g_get hv 0 rfl rfl rfl rfl ?_)
  refine g_if rfl (fun cq => ?_) (fun cq => absurd (show ¬ bl true = 0 by decide) cq)
  repeat (first | refine g_px rfl rfl rfl ?_)
  refine g_callS hv [] rfl rfl rfl rfl rfl rfl rfl (by simp) (s_isLaw sta d m) (fun v w' h hp hk2 hv => ?_)
  obtain ⟨rfl, rfl⟩ := hp
  rw [hno]
  refine g_if rfl (fun cq => absurd rfl cq) (fun cq => ?_)
  repeat (first | refine g_px rfl rfl rfl ?_)
  refine g_callV hv [0] 0 rfl rfl rfl rfl rfl rfl rfl rfl (by simp) (s_refuse' sta d tr true sl a b 2) (fun v w' h hp hk2 hv => ?_)
  obtain ⟨rfl, rfl⟩ := hp
  subst hT
  exact g_iret hv rfl rfl rfl rfl ⟨rfl, rfl⟩
theorem s_rests_2 (m : Int32) (hno : inR 100 m = false) : mj_Sx sta (d + 2) 107 [.ref 0, .int m] [wob tr true a b sl] (fun v w => v = some (.int (-1)) ∧ w = [wob 2 true a b sl]) := by
  refine mj_Sx.mk m_X8_rests (by decide) n_X8_rests rfl (fun h0 hv => ?_)
  generalize hT : mj_rx m_X8_rests h0 _ _ = T
  repeat (first | refine g_px rfl rfl rfl ?_ | refine g_get hv 0 rfl rfl rfl rfl ?_)
  refine g_if rfl (fun cq => ?_) (fun cq => absurd (show ¬ bl true = 0 by decide) cq)
  repeat (first | refine g_px rfl rfl rfl ?_)
  refine g_callS hv [] rfl rfl rfl rfl rfl rfl rfl (by simp) (s_isBuyers sta d m) (fun v w' h hp hk2 hv => ?_)
  obtain ⟨rfl, rfl⟩ := hp
  rw [hno]
  refine g_if rfl (fun cq => absurd rfl cq) (fun cq => ?_)
  repeat (first | refine g_px rfl rfl rfl ?_)
  refine g_callV hv [0] 0 rfl rfl rfl rfl rfl rfl rfl rfl (by simp) (s_refuse' sta d tr true sl a b 2) (fun v w' h hp hk2 hv => ?_)
  obtain ⟨rfl, rfl⟩ := hp
  subst hT
  exact g_iret hv rfl rfl rfl rfl ⟨rfl, rfl⟩
theorem s_rest_2 (m : Int32) (hno : inR 100 m = false) : mj_Sx sta (d + 2) 108 [.ref 0, .int m] [wob tr true a b sl] (fun v w => v = some (.int (-1)) ∧ w = [wob 2 true a b sl]) := by
  refine mj_Sx.mk m_X8_rest (by decide) n_X8_rest rfl (fun h0 hv => ?_)
  generalize hT : mj_rx m_X8_rest h0 _ _ = T
  repeat (first | refine g_px rfl rfl rfl ?_ | refine g_get hv 0 rfl rfl rfl rfl ?_)
  refine g_if rfl (fun cq => ?_) (fun cq => absurd (show ¬ bl true = 0 by decide) cq)
  repeat (first | refine g_px rfl rfl rfl ?_)
  refine g_callS hv [] rfl rfl rfl rfl rfl rfl rfl (by simp) (s_isBuyers sta d m) (fun v w' h hp hk2 hv => ?_)
  obtain ⟨rfl, rfl⟩ := hp
  rw [hno]
  refine g_if rfl (fun cq => absurd rfl cq) (fun cq => ?_)
  repeat (first | refine g_px rfl rfl rfl ?_)
  refine g_callV hv [0] 0 rfl rfl rfl rfl rfl rfl rfl rfl (by simp) (s_refuse' sta d tr true sl a b 2) (fun v w' h hp hk2 hv => ?_)
  obtain ⟨rfl, rfl⟩ := hp
  subst hT
  exact g_iret hv rfl rfl rfl rfl ⟨rfl, rfl⟩
theorem s_spare_2 (m x : Int32) (hno : inR 4 m = false) : mj_Sx sta (d + 2) 118 [.ref 0, .int m, .int x] [wob tr true a b sl] (fun v w => v = some (.int (bl false)) ∧ w = [wob 2 true a b sl]) := by
  refine mj_Sx.mk m_X8_spare (by decide) n_X8_spare rfl (fun h0 hv => ?_)
  generalize hT : mj_rx m_X8_spare h0 _ _ = T
  repeat (first | refine g_px rfl rfl rfl ?_ | refine g_get hv 0 rfl rfl rfl rfl ?_)
  refine g_if rfl (fun cq => ?_) (fun cq => absurd (show ¬ bl true = 0 by decide) cq)
  repeat (first | refine g_px rfl rfl rfl ?_)
  refine g_callS hv [] rfl rfl rfl rfl rfl rfl rfl (by simp) (s_isSort sta d m) (fun v w' h hp hk2 hv => ?_)
  obtain ⟨rfl, rfl⟩ := hp
  rw [hno]
  refine g_if rfl (fun cq => absurd rfl cq) (fun cq => ?_)
  repeat (first | refine g_px rfl rfl rfl ?_)
  refine g_callV hv [0] 0 rfl rfl rfl rfl rfl rfl rfl rfl (by simp) (s_deny sta d tr true sl a b 2) (fun v w' h hp hk2 hv => ?_)
  obtain ⟨rfl, rfl⟩ := hp
  subst hT
  exact g_iret hv rfl rfl rfl rfl ⟨rfl, rfl⟩
theorem s_seed_2 (m : Int32) (hno : inR 65537 m = false) : mj_Sx sta (d + 2) 124 [.ref 0, .int m] [wob tr true a b sl] (fun v w => v = some (.int (bl false)) ∧ w = [wob 2 true a b sl]) := by
  refine mj_Sx.mk m_X8_seed (by decide) n_X8_seed rfl (fun h0 hv => ?_)
  generalize hT : mj_rx m_X8_seed h0 _ _ = T
  repeat (first | refine g_px rfl rfl rfl ?_ | refine g_get hv 0 rfl rfl rfl rfl ?_)
  refine g_if rfl (fun cq => ?_) (fun cq => absurd (show ¬ bl true = 0 by decide) cq)
  repeat (first | refine g_px rfl rfl rfl ?_)
  refine g_callS hv [] rfl rfl rfl rfl rfl rfl rfl (by simp) (s_isSeed sta d m) (fun v w' h hp hk2 hv => ?_)
  obtain ⟨rfl, rfl⟩ := hp
  rw [hno]
  refine g_if rfl (fun cq => absurd rfl cq) (fun cq => ?_)
  repeat (first | refine g_px rfl rfl rfl ?_)
  refine g_callV hv [0] 0 rfl rfl rfl rfl rfl rfl rfl rfl (by simp) (s_deny sta d tr true sl a b 2) (fun v w' h hp hk2 hv => ?_)
  obtain ⟨rfl, rfl⟩ := hp
  subst hT
  exact g_iret hv rfl rfl rfl rfl ⟨rfl, rfl⟩
end Refused
