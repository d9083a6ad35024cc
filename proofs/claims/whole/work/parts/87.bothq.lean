/-! both sides answer alike: questions of a draft -/
section Bq
variable {sta : mj_S} {d : Nat} {a b : Nat} {tp : List Value} {c na nl : Nat → Nat} {D : Nat → Nat} {DA : Nat → Nat → Nat} {D2 : Nat → Nat} {DA2 : Nat → Nat → Nat} {H : HN} {rg pa : Nat → Option Nat} {x ac im : Nat} {R P : Nat → HN} {tr : Int32} {w u : mj_W} {rd : Option Nat} {F : Nat → Int32} {wd : Int64} {mac mim : Int32} {V PP QQ : Nat → Int32} {q : Nat} {hi er se : Int32} {MA : Nat → Nat → Nat} {nm : Nat → Nat} {pl : Int32} {SN C : Nat → Nat}
theorem b_taken (m : Int32) (lo : Bool) (hy : hyp sta D DA H V MA SN C) (hc : cS true a b tp c na nl D DA D2 DA2 H rg pa x ac im R P tr w) (hm : mSd rd F wd mac mim c V PP QQ q D hi er se MA nm pl tr u) : bth sta (d + 9) 83 226 (.ref 0 :: [.int m, .int (bl lo)]) (.ref 151 :: [.int m, .int (bl lo)]) w u (cS true a b tp c na nl D DA D2 DA2 H rg pa x ac im R P) (mSd rd F wd mac mim c V PP QQ q D hi er se MA nm pl) := by
  obtain ⟨hF, hD, h1, hN, hV, hG, ha, h5, hM5⟩ := hy
  have hn : 1 ≤ D 1 ∧ D 1 ≤ 6 := ⟨h1, hD.2.1⟩
  by_cases hk0 : inR (D 1) m = true
  · obtain ⟨k, hk, -, rfl⟩ := inR_at hk0
    exact ⟨_, _, up_wod' hc (fun sl X hX hs => s_taken _ _ _ _ _ _ _ _ _ _ _ _ _ (hk) _ (hF) (hD) (h1) (hN) (hX) (hs)), mp_wo hm (by decide) (fun _ _ _ _ _ _ _ _ _ _ _ _ _ _ _ _ _ _ _ => s_Mtaken _ _ _ _ _ _ _ _ _ _ _ _ _ _ _ _ _ _ _ _ _ _ _ _ _ _ _ _ _ _ _ _ _ _ _ _ _ _ _ (hk) (hV) (hG)) (by rw [o1_cg ha hn])⟩
  · have hk := eq_false_of_ne_true hk0
    exact ⟨_, _, up_od hc (fun sl => s_taken_x _ _ _ _ _ _ _ _ _ _ (hD.2.1) (by rw [hk]; rfl)), mp_od hm (by decide) (fun _ _ _ _ _ _ _ _ _ _ _ => s_Mtaken_x _ _ _ _ _ _ _ _ _ _ _ _ _ _ _ _ _ _ _ _ _ _ _ _ _ _ (hD.2.1) (hk)) (rfl)⟩
theorem b_goes (m : Int32) (lo : Bool) (hy : hyp sta D DA H V MA SN C) (hc : cS true a b tp c na nl D DA D2 DA2 H rg pa x ac im R P tr w) (hm : mSd rd F wd mac mim c V PP QQ q D hi er se MA nm pl tr u) : bth sta (d + 9) 84 227 (.ref 0 :: [.int m, .int (bl lo)]) (.ref 151 :: [.int m, .int (bl lo)]) w u (cS true a b tp c na nl D DA D2 DA2 H rg pa x ac im R P) (mSd rd F wd mac mim c V PP QQ q D hi er se MA nm pl) := by
  obtain ⟨hF, hD, h1, hN, hV, hG, ha, h5, hM5⟩ := hy
  have hn : 1 ≤ D 1 ∧ D 1 ≤ 6 := ⟨h1, hD.2.1⟩
  by_cases hk0 : inR (D 1) m = true
  · obtain ⟨k, hk, -, rfl⟩ := inR_at hk0
    exact ⟨_, _, up_wod' hc (fun sl X hX hs => s_goes _ _ _ _ _ _ _ _ _ _ _ _ _ (hk) _ (hF) (hD) (h1) (hN) (hX) (hs)), mp_wo hm (by decide) (fun _ _ _ _ _ _ _ _ _ _ _ _ _ _ _ _ _ _ _ => s_Mgoes _ _ _ _ _ _ _ _ _ _ _ _ _ _ _ _ _ _ _ _ _ _ _ _ _ _ _ _ _ _ _ _ _ _ _ _ _ _ _ (hk) (hV) (hG)) (by rw [o2_cg ha hn])⟩
  · have hk := eq_false_of_ne_true hk0
    exact ⟨_, _, up_od hc (fun sl => s_goes_x _ _ _ _ _ _ _ _ _ _ (hD.2.1) (by rw [hk]; rfl)), mp_od hm (by decide) (fun _ _ _ _ _ _ _ _ _ _ _ => s_Mgoes_x _ _ _ _ _ _ _ _ _ _ _ _ _ _ _ _ _ _ _ _ _ _ _ _ _ _ (hD.2.1) (hk)) (rfl)⟩
theorem b_loss (m : Int32) (lo : Bool) (hy : hyp sta D DA H V MA SN C) (hc : cS true a b tp c na nl D DA D2 DA2 H rg pa x ac im R P tr w) (hm : mSd rd F wd mac mim c V PP QQ q D hi er se MA nm pl tr u) : bth sta (d + 9) 86 229 (.ref 0 :: [.int m, .int (bl lo)]) (.ref 151 :: [.int m, .int (bl lo)]) w u (cS true a b tp c na nl D DA D2 DA2 H rg pa x ac im R P) (mSd rd F wd mac mim c V PP QQ q D hi er se MA nm pl) := by
  obtain ⟨hF, hD, h1, hN, hV, hG, ha, h5, hM5⟩ := hy
  have hn : 1 ≤ D 1 ∧ D 1 ≤ 6 := ⟨h1, hD.2.1⟩
  by_cases hk0 : inR (D 1) m = true
  · obtain ⟨k, hk, -, rfl⟩ := inR_at hk0
    exact ⟨_, _, up_wod' hc (fun sl X hX hs => s_loss _ _ _ _ _ _ _ _ _ _ _ _ _ (hk) _ (hF) (hD) (h1) (hN) (hX) (hs)), mp_wo hm (by decide) (fun _ _ _ _ _ _ _ _ _ _ _ _ _ _ _ _ _ _ _ => s_Mloss _ _ _ _ _ _ _ _ _ _ _ _ _ _ _ _ _ _ _ _ _ _ _ _ _ _ _ _ _ _ _ _ _ _ _ _ _ _ _ (hk) (hV) (hG)) (by rw [← lsT_one hn hk, ← lsT_cg ha hn]; rfl)⟩
  · have hk := eq_false_of_ne_true hk0
    exact ⟨_, _, up_od hc (fun sl => s_loss_x _ _ _ _ _ _ _ _ _ _ (hD.2.1) (by rw [hk]; rfl)), mp_od hm (by decide) (fun _ _ _ _ _ _ _ _ _ _ _ => s_Mloss_x _ _ _ _ _ _ _ _ _ _ _ _ _ _ _ _ _ _ _ _ _ _ _ _ _ _ (hD.2.1) (hk)) (rfl)⟩
theorem b_ifMarried (m : Int32) (lo : Bool) (hy : hyp sta D DA H V MA SN C) (hc : cS true a b tp c na nl D DA D2 DA2 H rg pa x ac im R P tr w) (hm : mSd rd F wd mac mim c V PP QQ q D hi er se MA nm pl tr u) : bth sta (d + 9) 91 235 (.ref 0 :: [.int m, .int (bl lo)]) (.ref 151 :: [.int m, .int (bl lo)]) w u (cS true a b tp c na nl D DA D2 DA2 H rg pa x ac im R P) (mSd rd F wd mac mim c V PP QQ q D hi er se MA nm pl) := by
  obtain ⟨hF, hD, h1, hN, hV, hG, ha, h5, hM5⟩ := hy
  have hn : 1 ≤ D 1 ∧ D 1 ≤ 6 := ⟨h1, hD.2.1⟩
  by_cases hk0 : inR (D 1) m = true
  · obtain ⟨k, hk, -, rfl⟩ := inR_at hk0
    exact ⟨_, _, up_wmr hc (fun sl H2 X hX => s_ifMarried _ _ _ _ _ _ _ _ _ _ _ _ _ (hk) _ _ _ _ (hF) (hD) (h1) (hN) (hX)), mp_wo hm (by decide) (fun _ _ _ _ _ _ _ _ _ _ _ _ _ _ _ _ _ _ _ => s_MifMarried _ _ _ _ _ _ _ _ _ _ _ _ _ _ _ _ _ _ _ _ _ _ _ _ _ _ _ _ _ _ _ _ _ _ _ _ _ _ _ (hk) (hV) (hG)) (by rw [← lsT_one hn hk, ← lsT_cg (agM_up ha) hn])⟩
  · have hk := eq_false_of_ne_true hk0
    exact ⟨_, _, up_od hc (fun sl => s_ifMarried_x _ _ _ _ _ _ _ _ _ _ (hD.2.1) (by rw [hk]; rfl)), mp_od hm (by decide) (fun _ _ _ _ _ _ _ _ _ _ _ => s_MifMarried_x _ _ _ _ _ _ _ _ _ _ _ _ _ _ _ _ _ _ _ _ _ _ _ _ _ _ (hD.2.1) (hk)) (rfl)⟩
theorem b_wouldGo (m : Int32) (hy : hyp sta D DA H V MA SN C) (hc : cS true a b tp c na nl D DA D2 DA2 H rg pa x ac im R P tr w) (hm : mSd rd F wd mac mim c V PP QQ q D hi er se MA nm pl tr u) : bth sta (d + 9) 75 217 (.ref 0 :: [.int m]) (.ref 151 :: [.int m]) w u (cS true a b tp c na nl D DA D2 DA2 H rg pa x ac im R P) (mSd rd F wd mac mim c V PP QQ q D hi er se MA nm pl) := by
  obtain ⟨hF, hD, h1, hN, hV, hG, ha, h5, hM5⟩ := hy
  have hn : 1 ≤ D 1 ∧ D 1 ≤ 6 := ⟨h1, hD.2.1⟩
  by_cases hk0 : inR (D 1) m = true
  · obtain ⟨k, hk, -, rfl⟩ := inR_at hk0
    exact ⟨_, _, up_wgo hc (fun sl tb sb cl => s_wouldGo _ _ _ _ _ _ _ _ _ _ _ _ _ _ _ (hk) (hD) (hN)), mp_wg2 hm (by decide) (fun _ _ _ _ _ _ _ _ _ _ _ _ _ _ _ => s_MwouldGo _ _ _ _ _ _ _ _ _ _ _ _ _ _ _ _ _ _ _ _ _ _ _ _ _ _ _ _ _ _ _ _ _ _ (hk) (hV) (hG)) (by rw [wg_cg ha hk])⟩
  · have hk := eq_false_of_ne_true hk0
    exact ⟨_, _, up_od hc (fun sl => s_wouldGo_x _ _ _ _ _ _ _ _ _ (hD.2.1) (by rw [hk]; rfl)), mp_od hm (by decide) (fun _ _ _ _ _ _ _ _ _ _ _ => s_MwouldGo_x _ _ _ _ _ _ _ _ _ _ _ _ _ _ _ _ _ _ _ _ _ _ _ _ _ (hD.2.1) (hk)) (rfl)⟩
theorem b_firstTaken (m : Int32) (hy : hyp sta D DA H V MA SN C) (hc : cS true a b tp c na nl D DA D2 DA2 H rg pa x ac im R P tr w) (hm : mSd rd F wd mac mim c V PP QQ q D hi er se MA nm pl tr u) : bth sta (d + 9) 80 224 (.ref 0 :: [.int m]) (.ref 151 :: [.int m]) w u (cS true a b tp c na nl D DA D2 DA2 H rg pa x ac im R P) (mSd rd F wd mac mim c V PP QQ q D hi er se MA nm pl) := by
  obtain ⟨hF, hD, h1, hN, hV, hG, ha, h5, hM5⟩ := hy
  have hn : 1 ≤ D 1 ∧ D 1 ≤ 6 := ⟨h1, hD.2.1⟩
  by_cases hk0 : inR (D 1) m = true
  · obtain ⟨k, hk, -, rfl⟩ := inR_at hk0
    exact ⟨_, _, up_wrv hc (fun sl tb sb cl g2 r hr => s_firstTaken _ _ _ _ _ _ _ _ _ _ _ _ (hk) _ _ _ _ _ (hD) (h1) (hN) (hr)), mp_wg hm (by decide) (fun _ _ _ _ _ _ _ _ _ _ _ _ _ _ _ => s_MfirstTaken _ _ _ _ _ _ _ _ _ _ _ _ _ _ _ _ _ _ _ _ _ _ _ _ _ _ _ _ _ _ _ _ _ _ (hk) (hV) (hG)) (by rw [fT_cg ha hn])⟩
  · have hk := eq_false_of_ne_true hk0
    exact ⟨_, _, up_od hc (fun sl => s_firstTaken_x _ _ _ _ _ _ _ _ _ (hD.2.1) (by rw [hk]; rfl)), mp_od hm (by decide) (fun _ _ _ _ _ _ _ _ _ _ _ => s_MfirstTaken_x _ _ _ _ _ _ _ _ _ _ _ _ _ _ _ _ _ _ _ _ _ _ _ _ _ (hD.2.1) (hk)) (rfl)⟩
theorem b_could (m : Int32) (hy : hyp sta D DA H V MA SN C) (hc : cS true a b tp c na nl D DA D2 DA2 H rg pa x ac im R P tr w) (hm : mSd rd F wd mac mim c V PP QQ q D hi er se MA nm pl tr u) : bth sta (d + 9) 98 246 (.ref 0 :: [.int m]) (.ref 151 :: [.int m]) w u (cS true a b tp c na nl D DA D2 DA2 H rg pa x ac im R P) (mSd rd F wd mac mim c V PP QQ q D hi er se MA nm pl) := by
  obtain ⟨hF, hD, h1, hN, hV, hG, ha, h5, hM5⟩ := hy
  have hn : 1 ≤ D 1 ∧ D 1 ≤ 6 := ⟨h1, hD.2.1⟩
  by_cases hk0 : inR (D 8) m = true
  · obtain ⟨k, hk, -, rfl⟩ := inR_at hk0
    exact ⟨_, _, up_wlv hc (fun sl X fi ti c hX hs => s_could _ _ _ _ _ _ _ _ _ _ _ _ _ _ _ _ (hk) (hF) (hD) (h1) (hN) (hX) (hs)), mp_wf hm (by decide) (fun _ _ _ _ _ _ _ _ _ _ _ _ _ _ _ _ => s_Mcould _ _ _ _ _ _ _ _ _ _ _ _ _ _ _ _ _ _ _ _ _ _ _ _ _ _ _ _ _ _ _ _ (hk) _ _ _ (hV) (hG) (hD.2.2.2.2.2.2.2.1) (hM5)) (by rw [cnT_cg ha hn h5])⟩
  · have hk := eq_false_of_ne_true hk0
    exact ⟨_, _, up_od hc (fun sl => s_could_x _ _ _ _ _ _ _ _ _ (hD.2.2.2.2.2.2.2.1) (by rw [hk]; rfl)), mp_od hm (by decide) (fun _ _ _ _ _ _ _ _ _ _ _ => s_Mcould_x _ _ _ _ _ _ _ _ _ _ _ _ _ _ _ _ _ _ _ _ _ _ _ _ _ (hD.2.2.2.2.2.2.2.1) (hk)) (rfl)⟩
theorem b_surely (m : Int32) (hy : hyp sta D DA H V MA SN C) (hc : cS true a b tp c na nl D DA D2 DA2 H rg pa x ac im R P tr w) (hm : mSd rd F wd mac mim c V PP QQ q D hi er se MA nm pl tr u) : bth sta (d + 9) 99 247 (.ref 0 :: [.int m]) (.ref 151 :: [.int m]) w u (cS true a b tp c na nl D DA D2 DA2 H rg pa x ac im R P) (mSd rd F wd mac mim c V PP QQ q D hi er se MA nm pl) := by
  obtain ⟨hF, hD, h1, hN, hV, hG, ha, h5, hM5⟩ := hy
  have hn : 1 ≤ D 1 ∧ D 1 ≤ 6 := ⟨h1, hD.2.1⟩
  by_cases hk0 : inR (D 8) m = true
  · obtain ⟨k, hk, -, rfl⟩ := inR_at hk0
    exact ⟨_, _, up_wlv hc (fun sl X fi ti c hX hs => s_surely _ _ _ _ _ _ _ _ _ _ _ _ _ _ _ _ (hk) (hF) (hD) (h1) (hN) (hX) (hs)), mp_wf hm (by decide) (fun _ _ _ _ _ _ _ _ _ _ _ _ _ _ _ _ => s_Msurely _ _ _ _ _ _ _ _ _ _ _ _ _ _ _ _ _ _ _ _ _ _ _ _ _ _ _ _ _ _ _ _ (hk) _ _ _ (hV) (hG) (hD.2.2.2.2.2.2.2.1) (hM5)) (by rw [ftT_cg ha hn h5, cnT_cg ha hn h5, mbe_cbe (cnT_sum hk)])⟩
  · have hk := eq_false_of_ne_true hk0
    exact ⟨_, _, up_od hc (fun sl => s_surely_x _ _ _ _ _ _ _ _ _ (hD.2.2.2.2.2.2.2.1) (by rw [hk]; rfl)), mp_od hm (by decide) (fun _ _ _ _ _ _ _ _ _ _ _ => s_Msurely_x _ _ _ _ _ _ _ _ _ _ _ _ _ _ _ _ _ _ _ _ _ _ _ _ _ (hD.2.2.2.2.2.2.2.1) (hk)) (rfl)⟩
theorem b_shortOf (lo : Bool) (hy : hyp sta D DA H V MA SN C) (hc : cS true a b tp c na nl D DA D2 DA2 H rg pa x ac im R P tr w) (hm : mSd rd F wd mac mim c V PP QQ q D hi er se MA nm pl tr u) : bth sta (d + 9) 90 234 (.ref 0 :: [.int (bl lo)]) (.ref 151 :: [.int (bl lo)]) w u (cS true a b tp c na nl D DA D2 DA2 H rg pa x ac im R P) (mSd rd F wd mac mim c V PP QQ q D hi er se MA nm pl) := by
  obtain ⟨hF, hD, h1, hN, hV, hG, ha, h5, hM5⟩ := hy
  have hn : 1 ≤ D 1 ∧ D 1 ≤ 6 := ⟨h1, hD.2.1⟩
  exact ⟨_, _, up_wod' hc (fun sl X hX hs => s_shortOf _ _ _ _ _ _ _ _ _ _ _ _ _ (hF) (hD) (h1) (hN) (hX) (hs)), mp_wo hm (by decide) (fun _ _ _ _ _ _ _ _ _ _ _ _ _ _ _ _ _ _ _ => s_MshortOf _ _ _ _ _ _ _ _ _ _ _ _ _ _ _ _ _ _ _ _ _ _ _ _ _ _ _ _ _ _ _ _ _ _ _ _ _ _ (hV) (hG)) (by rw [← shT_cg ha hn]; rfl)⟩
theorem b_rows  (hy : hyp sta D DA H V MA SN C) (hc : cS true a b tp c na nl D DA D2 DA2 H rg pa x ac im R P tr w) (hm : mSd rd F wd mac mim c V PP QQ q D hi er se MA nm pl tr u) : bth sta (d + 9) 97 243 (.ref 0 :: []) (.ref 151 :: []) w u (cS true a b tp c na nl D DA D2 DA2 H rg pa x ac im R P) (mSd rd F wd mac mim c V PP QQ q D hi er se MA nm pl) := by
  obtain ⟨hF, hD, h1, hN, hV, hG, ha, h5, hM5⟩ := hy
  have hn : 1 ≤ D 1 ∧ D 1 ≤ 6 := ⟨h1, hD.2.1⟩
  exact ⟨_, _, up_wlv hc (fun sl X fi ti c hX hs => s_rows _ _ _ _ _ _ _ _ _ _ _ _ _ _ _ (hF) (hD) (h1) (hN) (hX) (hs)), mp_wf hm (by decide) (fun _ _ _ _ _ _ _ _ _ _ _ _ _ _ _ _ => s_Mrows _ _ _ _ _ _ _ _ _ _ _ _ _ _ _ _ _ _ _ _ _ _ _ _ _ _ _ _ _ _ _ _ _ _ (hV) (hG) (hD.2.2.2.2.2.2.2.1) (hM5)) (by rw [ftT_cg ha hn h5])⟩
theorem b_surelyTaken  (hy : hyp sta D DA H V MA SN C) (hc : cS true a b tp c na nl D DA D2 DA2 H rg pa x ac im R P tr w) (hm : mSd rd F wd mac mim c V PP QQ q D hi er se MA nm pl tr u) : bth sta (d + 9) 102 251 (.ref 0 :: []) (.ref 151 :: []) w u (cS true a b tp c na nl D DA D2 DA2 H rg pa x ac im R P) (mSd rd F wd mac mim c V PP QQ q D hi er se MA nm pl) := by
  obtain ⟨hF, hD, h1, hN, hV, hG, ha, h5, hM5⟩ := hy
  have hn : 1 ≤ D 1 ∧ D 1 ≤ 6 := ⟨h1, hD.2.1⟩
  exact ⟨_, _, up_wlv hc (fun sl X fi ti c hX hs => s_surelyTaken _ _ _ _ _ _ _ _ _ _ _ _ _ _ _ (hF) (hD) (h1) (hN) (hX) (hs)), mp_wf hm (by decide) (fun _ _ _ _ _ _ _ _ _ _ _ _ _ _ _ _ => s_MsurelyTaken _ _ _ _ _ _ _ _ _ _ _ _ _ _ _ _ _ _ _ _ _ _ _ _ _ _ _ _ _ _ _ _ _ _ (hV) (hG) (hD.2.2.2.2.2.2.2.1) (hM5)) (by rw [atT_cg ha hn h5])⟩
theorem b_ask  (hy : hyp sta D DA H V MA SN C) (hc : cS true a b tp c na nl D DA D2 DA2 H rg pa x ac im R P tr w) (hm : mSd rd F wd mac mim c V PP QQ q D hi er se MA nm pl tr u) : bth sta (d + 9) 100 249 (.ref 0 :: []) (.ref 151 :: []) w u (cS true a b tp c na nl D DA D2 DA2 H rg pa x ac im R P) (mSd rd F wd mac mim c V PP QQ q D hi er se MA nm pl) := by
  obtain ⟨hF, hD, h1, hN, hV, hG, ha, h5, hM5⟩ := hy
  have hn : 1 ≤ D 1 ∧ D 1 ≤ 6 := ⟨h1, hD.2.1⟩
  exact ⟨_, _, up_wlv hc (fun sl X fi ti c hX hs => s_ask _ _ _ _ _ _ _ _ _ _ _ _ _ _ _ (hF) (hD) (h1) (hN) (hX) (hs)), mp_wf hm (by decide) (fun _ _ _ _ _ _ _ _ _ _ _ _ _ _ _ _ => s_Mask _ _ _ _ _ _ _ _ _ _ _ _ _ _ _ _ _ _ _ _ _ _ _ _ _ _ _ _ _ _ _ _ _ _ (hV) (hG) (hD.2.2.2.2.2.2.2.1) (hM5)) (by rw [ftT_cg ha hn h5, cnT_cg ha hn h5])⟩
theorem b_askLeaves  (hy : hyp sta D DA H V MA SN C) (hc : cS true a b tp c na nl D DA D2 DA2 H rg pa x ac im R P tr w) (hm : mSd rd F wd mac mim c V PP QQ q D hi er se MA nm pl tr u) : bth sta (d + 9) 101 250 (.ref 0 :: []) (.ref 151 :: []) w u (cS true a b tp c na nl D DA D2 DA2 H rg pa x ac im R P) (mSd rd F wd mac mim c V PP QQ q D hi er se MA nm pl) := by
  obtain ⟨hF, hD, h1, hN, hV, hG, ha, h5, hM5⟩ := hy
  have hn : 1 ≤ D 1 ∧ D 1 ≤ 6 := ⟨h1, hD.2.1⟩
  exact ⟨_, _, up_wlv hc (fun sl X fi ti c hX hs => s_askLeaves _ _ _ _ _ _ _ _ _ _ _ _ _ _ _ (hF) (hD) (h1) (hN) (hX) (hs)), mp_wf hm (by decide) (fun _ _ _ _ _ _ _ _ _ _ _ _ _ _ _ _ => s_MaskLeaves _ _ _ _ _ _ _ _ _ _ _ _ _ _ _ _ _ _ _ _ _ _ _ _ _ _ _ _ _ _ _ _ _ _ (hV) (hG) (hD.2.2.2.2.2.2.2.1) (hM5)) (by rw [ftT_cg ha hn h5, cnT_cg ha hn h5, akL_eq]; rfl)⟩
theorem b_bestLaw  (hy : hyp sta D DA H V MA SN C) (hc : cS true a b tp c na nl D DA D2 DA2 H rg pa x ac im R P tr w) (hm : mSd rd F wd mac mim c V PP QQ q D hi er se MA nm pl tr u) : bth sta (d + 9) 94 240 (.ref 0 :: []) (.ref 151 :: []) w u (cS true a b tp c na nl D DA D2 DA2 H rg pa x ac im R P) (mSd rd F wd mac mim c V PP QQ q D hi er se MA nm pl) := by
  obtain ⟨hF, hD, h1, hN, hV, hG, ha, h5, hM5⟩ := hy
  have hn : 1 ≤ D 1 ∧ D 1 ≤ 6 := ⟨h1, hD.2.1⟩
  exact ⟨_, _, up_wln hc (fun sl X kn fi hm hX hk2 => s_bestLaw _ _ _ _ _ _ _ _ _ _ _ _ _ _ _ (hF) (hD) (h1) (hN) (hX) (hk2)), mp_wo hm (by decide) (fun _ _ _ _ _ _ _ _ _ _ _ _ _ _ _ _ _ _ _ => s_MbestLaw _ _ _ _ _ _ _ _ _ _ _ _ _ _ _ _ _ _ _ _ _ _ _ _ _ _ _ _ _ _ _ _ _ _ _ _ _ (hV) (hG)) (congrArg (fun z : Option Nat × Nat => Value.int (snd z.1)) (pick_cg 16 (fun l hl => ⟨by rw [shT_cg ha hn], by rw [lsT_cg ha hn, o3_club]⟩)))⟩
theorem b_toSpare  (hy : hyp sta D DA H V MA SN C) (hc : cS true a b tp c na nl D DA D2 DA2 H rg pa x ac im R P tr w) (hm : mSd rd F wd mac mim c V PP QQ q D hi er se MA nm pl tr u) : bth sta (d + 9) 95 241 (.ref 0 :: []) (.ref 151 :: []) w u (cS true a b tp c na nl D DA D2 DA2 H rg pa x ac im R P) (mSd rd F wd mac mim c V PP QQ q D hi er se MA nm pl) := by
  obtain ⟨hF, hD, h1, hN, hV, hG, ha, h5, hM5⟩ := hy
  have hn : 1 ≤ D 1 ∧ D 1 ≤ 6 := ⟨h1, hD.2.1⟩
  exact ⟨_, _, up_wln hc (fun sl X kn fi hm hX hk2 => s_toSpare _ _ _ _ _ _ _ _ _ _ _ _ _ _ _ (hF) (hD) (h1) (hN) (hX) (hk2)), mp_wo hm (by decide) (fun _ _ _ _ _ _ _ _ _ _ _ _ _ _ _ _ _ _ _ => s_MtoSpare _ _ _ _ _ _ _ _ _ _ _ _ _ _ _ _ _ _ _ _ _ _ _ _ _ _ _ _ _ _ _ _ _ _ _ _ _ (hV) (hG)) (congrArg (fun z : Option Nat × Nat => Value.int (snd z.1)) (pick_cg 4 (fun l hl => ⟨rfl, by rw [lsT_cg ha hn, o3_club]⟩)))⟩
theorem b_spared  (hy : hyp sta D DA H V MA SN C) (hc : cS true a b tp c na nl D DA D2 DA2 H rg pa x ac im R P tr w) (hm : mSd rd F wd mac mim c V PP QQ q D hi er se MA nm pl tr u) : bth sta (d + 9) 73 215 (.ref 0 :: []) (.ref 151 :: []) w u (cS true a b tp c na nl D DA D2 DA2 H rg pa x ac im R P) (mSd rd F wd mac mim c V PP QQ q D hi er se MA nm pl) := by
  obtain ⟨hF, hD, h1, hN, hV, hG, ha, h5, hM5⟩ := hy
  have hn : 1 ≤ D 1 ∧ D 1 ≤ 6 := ⟨h1, hD.2.1⟩
  exact ⟨_, _, up_wmn hc (fun sl => s_spared _ _ _ _ _ _ _ _ _ _ _), mp_odv hm (by decide) (fun _ _ _ _ _ _ _ _ _ _ _ => s_Mspared _ _ _ _ _ _ _ _ _ _ _ _ _ _ _ _ _ _ _ _ _ _ _ _ _ _ (hV.1)) (rfl)⟩
theorem b_harm (m : Int32) (lo : Bool) (hy : hyp sta D DA H V MA SN C) (hc : cS true a b tp c na nl D DA D2 DA2 H rg pa x ac im R P tr w) (hm : mSd rd F wd mac mim c V PP QQ q D hi er se MA nm pl tr u) : bth sta (d + 9) 92 238 (.ref 0 :: [.int m, .int (bl lo)]) (.ref 151 :: [.int m, .int (bl lo)]) w u (cS true a b tp c na nl D DA D2 DA2 H rg pa x ac im R P) (mSd rd F wd mac mim c V PP QQ q D hi er se MA nm pl) := by
  obtain ⟨hF, hD, h1, hN, hV, hG, ha, h5, hM5⟩ := hy
  have hn : 1 ≤ D 1 ∧ D 1 ≤ 6 := ⟨h1, hD.2.1⟩
  by_cases hk0 : inR 16 m = true
  · obtain ⟨k, hk, -, rfl⟩ := inR_at hk0
    exact ⟨_, _, up_wln hc (fun sl X kn fi hm hX hk2 => s_harm _ _ _ _ _ _ _ _ _ _ _ _ _ _ _ _ (hk) _ (hF) (hD) (h1) (hN) (hX) (hk2)), mp_wo hm (by decide) (fun _ _ _ _ _ _ _ _ _ _ _ _ _ _ _ _ _ _ _ => s_Mharm _ _ _ _ _ _ _ _ _ _ _ _ _ _ _ _ _ _ _ _ _ _ _ _ _ _ _ _ _ _ _ _ _ _ _ _ _ _ _ (hk) (hV) (hG)) (by rw [lsT_cg ha hn, o3_club])⟩
  · have hk := eq_false_of_ne_true hk0
    exact ⟨_, _, up_o hc (fun sl => s_harm_2 _ _ _ _ _ _ _ _ (hk)), mp_o hm (by decide) (fun _ _ _ _ _ _ _ _ _ _ _ => s_Mharm_2 _ _ _ _ _ _ _ _ _ _ _ _ _ _ _ _ _ _ _ _ _ _ (hk)) (rfl)⟩
theorem b_fills (m : Int32) (hy : hyp sta D DA H V MA SN C) (hc : cS true a b tp c na nl D DA D2 DA2 H rg pa x ac im R P tr w) (hm : mSd rd F wd mac mim c V PP QQ q D hi er se MA nm pl tr u) : bth sta (d + 9) 93 239 (.ref 0 :: [.int m]) (.ref 151 :: [.int m]) w u (cS true a b tp c na nl D DA D2 DA2 H rg pa x ac im R P) (mSd rd F wd mac mim c V PP QQ q D hi er se MA nm pl) := by
  obtain ⟨hF, hD, h1, hN, hV, hG, ha, h5, hM5⟩ := hy
  have hn : 1 ≤ D 1 ∧ D 1 ≤ 6 := ⟨h1, hD.2.1⟩
  by_cases hk0 : inR 16 m = true
  · obtain ⟨k, hk, -, rfl⟩ := inR_at hk0
    exact ⟨_, _, up_wln hc (fun sl X kn fi hm hX hk2 => s_fills _ _ _ _ _ _ _ _ _ _ _ _ _ _ _ _ (hk) (hF) (hD) (h1) (hN) (hX) (hk2)), mp_wo hm (by decide) (fun _ _ _ _ _ _ _ _ _ _ _ _ _ _ _ _ _ _ _ => s_Mfills _ _ _ _ _ _ _ _ _ _ _ _ _ _ _ _ _ _ _ _ _ _ _ _ _ _ _ _ _ _ _ _ _ _ _ _ _ _ (hk) (hV) (hG)) (by rw [shT_cg ha hn])⟩
  · have hk := eq_false_of_ne_true hk0
    exact ⟨_, _, up_o hc (fun sl => s_fills_2 _ _ _ _ _ _ _ (hk)), mp_o hm (by decide) (fun _ _ _ _ _ _ _ _ _ _ _ => s_Mfills_2 _ _ _ _ _ _ _ _ _ _ _ _ _ _ _ _ _ _ _ _ _ (hk)) (rfl)⟩
theorem b_many (m : Int32) (hy : hyp sta D DA H V MA SN C) (hc : cS true a b tp c na nl D DA D2 DA2 H rg pa x ac im R P tr w) (hm : mSd rd F wd mac mim c V PP QQ q D hi er se MA nm pl tr u) : bth sta (d + 9) 74 216 (.ref 0 :: [.int m]) (.ref 151 :: [.int m]) w u (cS true a b tp c na nl D DA D2 DA2 H rg pa x ac im R P) (mSd rd F wd mac mim c V PP QQ q D hi er se MA nm pl) := by
  obtain ⟨hF, hD, h1, hN, hV, hG, ha, h5, hM5⟩ := hy
  have hn : 1 ≤ D 1 ∧ D 1 ≤ 6 := ⟨h1, hD.2.1⟩
  by_cases hk0 : inR 4 m = true
  · obtain ⟨k, hk, -, rfl⟩ := inR_at hk0
    exact ⟨_, _, up_wmn hc (fun sl => s_many _ _ _ _ _ _ _ _ _ _ _ _ (hk) (hD) (hN)), mp_odv hm (by decide) (fun _ _ _ _ _ _ _ _ _ _ _ => s_Mmany _ _ _ _ _ _ _ _ _ _ _ _ _ _ _ _ _ _ _ _ _ _ _ _ _ _ _ (hV.2.1) (hG.2.2.2.2.2.2.2.1) (hk) (hD.2.1)) (by rw [many_cg ha])⟩
  · have hk := eq_false_of_ne_true hk0
    exact ⟨_, _, up_o hc (fun sl => s_many_2 _ _ _ _ _ _ _ (hk)), mp_o hm (by decide) (fun _ _ _ _ _ _ _ _ _ _ _ => s_Mmany_2 _ _ _ _ _ _ _ _ _ _ _ _ _ _ _ _ _ _ _ _ _ (hk)) (rfl)⟩
theorem b_rests (m : Int32) (hy : hyp sta D DA H V MA SN C) (hc : cS true a b tp c na nl D DA D2 DA2 H rg pa x ac im R P tr w) (hm : mSd rd F wd mac mim c V PP QQ q D hi er se MA nm pl tr u) : bth sta (d + 9) 107 260 (.ref 0 :: [.int m]) (.ref 151 :: [.int m]) w u (cS true a b tp c na nl D DA D2 DA2 H rg pa x ac im R P) (mSd rd F wd mac mim c V PP QQ q D hi er se MA nm pl) := by
  obtain ⟨hF, hD, h1, hN, hV, hG, ha, h5, hM5⟩ := hy
  have hn : 1 ≤ D 1 ∧ D 1 ≤ 6 := ⟨h1, hD.2.1⟩
  by_cases hk0 : inR 100 m = true
  · obtain ⟨k, hk, -, rfl⟩ := inR_at hk0
    exact ⟨_, _, up_o hc (fun sl => s_rests _ _ _ _ _ _ _ (hk)), mp_o hm (by decide) (fun _ _ _ _ _ _ _ _ _ _ _ => s_Mrests _ _ _ _ _ _ _ _ _ _ _ _ _ _ _ _ _ _ _ _ _ (hk)) (rfl)⟩
  · have hk := eq_false_of_ne_true hk0
    exact ⟨_, _, up_o hc (fun sl => s_rests_2 _ _ _ _ _ _ _ (hk)), mp_o hm (by decide) (fun _ _ _ _ _ _ _ _ _ _ _ => s_Mrests_2 _ _ _ _ _ _ _ _ _ _ _ _ _ _ _ _ _ _ _ _ _ (hk)) (rfl)⟩
theorem b_rest (m : Int32) (hy : hyp sta D DA H V MA SN C) (hc : cS true a b tp c na nl D DA D2 DA2 H rg pa x ac im R P tr w) (hm : mSd rd F wd mac mim c V PP QQ q D hi er se MA nm pl tr u) : bth sta (d + 9) 108 261 (.ref 0 :: [.int m]) (.ref 151 :: [.int m]) w u (cS true a b tp c na nl D DA D2 DA2 H rg pa x ac im R P) (mSd rd F wd mac mim c V PP QQ q D hi er se MA nm pl) := by
  obtain ⟨hF, hD, h1, hN, hV, hG, ha, h5, hM5⟩ := hy
  have hn : 1 ≤ D 1 ∧ D 1 ≤ 6 := ⟨h1, hD.2.1⟩
  by_cases hk0 : inR 100 m = true
  · obtain ⟨k, hk, -, rfl⟩ := inR_at hk0
    exact ⟨_, _, up_o hc (fun sl => s_rest _ _ _ _ _ _ _ (hk)), mp_o hm (by decide) (fun _ _ _ _ _ _ _ _ _ _ _ => s_Mrest _ _ _ _ _ _ _ _ _ _ _ _ _ _ _ _ _ _ _ _ _ (hk)) (rfl)⟩
  · have hk := eq_false_of_ne_true hk0
    exact ⟨_, _, up_o hc (fun sl => s_rest_2 _ _ _ _ _ _ _ (hk)), mp_o hm (by decide) (fun _ _ _ _ _ _ _ _ _ _ _ => s_Mrest_2 _ _ _ _ _ _ _ _ _ _ _ _ _ _ _ _ _ _ _ _ _ (hk)) (rfl)⟩
end Bq
