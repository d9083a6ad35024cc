/-! both sides answer alike: doctor, fate, lot, sizes; nothing drafted -/
def tpF (len fa pl en at_ be ki td va : Int32) : Nat → Int32
  | 1 => len
  | 2 => fa
  | 3 => pl
  | 4 => en
  | 5 => at_
  | 6 => be
  | 7 => ki
  | 8 => td
  | _ => va
/-- now, on both sides -/
def hyv (Bd n : Nat) (H : HN) (V : Nat → Int32) (FR : Nat → Option Nat) : Prop := V 24 = nI (H.1 3) ∧ V 26 = nI (H.1 2) ∧ V 27 = nI (H.1 1) ∧ H.1 2 ≤ Bd ∧ (0 < H.1 2 → ∀ i, i < n → V (12 + i) = nI (H.2.1 2 i)) ∧ (∀ i, i < 6 → V (18 + i) = snd (FR i)) ∧ gok FR ∧ (∀ q, q < n → FR q = sdr H.2.2 q n 0) ∧ (∀ q m, FR q = some m → q < n) ∧ gI n (H.1 3) H.2.2
theorem inR_0 {y : Int32} : inR 0 y = false := by
  unfold inR
  by_cases h : y < 0
  · rw [decide_eq_false (Int32.not_le.mpr h), Bool.false_and]
  · rw [decide_eq_false (p := y < nI 0) h, Bool.and_false]
theorem siz_eq {D : Nat → Nat} {N : Nat → Nat} {V : Nat → Int32} {ac im k : Nat} {mac mim : Int32} (hk : k < 9) (h4 : D 4 ≤ 1) (h5 : D 5 ≤ 100) (v26 : V 26 = nI (N 2)) (v27 : V 27 = nI (N 1)) (h7 : mac = nI ac) (h8 : mim = nI im) : mSiz D V (hiI D) mac mim k = nI (sizA D N ac im k) := by
  have hk9 : k = 0 ∨ k = 1 ∨ k = 2 ∨ k = 3 ∨ k = 4 ∨ k = 5 ∨ k = 6 ∨ k = 7 ∨ k = 8 := by omega
  rcases hk9 with rfl | rfl | rfl | rfl | rfl | rfl | rfl | rfl | rfl
  · rfl
  · rfl
  · rfl
  · show (if hiI D = -1 then (0 : Int32) else 1) = nI (D 4)
    unfold hiI
    by_cases e : D 4 = 0
    · rw [if_pos e, if_pos rfl, e]
      rfl
    · rw [if_neg e, if_neg (n1_ne (by omega)), show D 4 = 1 by omega]
      rfl
  · rfl
  · exact v26
  · exact v27
  · exact h7
  · exact h8
section Bs
variable {sta : mj_S} {d : Nat} {a b : Nat} {tp : List Value} {c na nl : Nat → Nat} {D : Nat → Nat} {DA : Nat → Nat → Nat} {D2 : Nat → Nat} {DA2 : Nat → Nat → Nat} {H : HN} {rg pa : Nat → Option Nat} {x ac im : Nat} {R P : Nat → HN} {tr : Int32} {w u : mj_W} {rd : Option Nat} {F : Nat → Int32} {wd : Int64} {mac mim : Int32} {V PP QQ : Nat → Int32} {q : Nat} {hi er se : Int32} {MA : Nat → Nat → Nat} {nm : Nat → Nat} {pl : Int32} {SN C : Nat → Nat} {Bd : Nat} {FR : Nat → Option Nat} {L : Nat} {fa en at_ be ki td va : Int32}
theorem b_believed (s lo : Bool) (hD : okD D DA) (hc : cS true a b tp c na nl D DA D2 DA2 H rg pa x ac im R P tr w) (hm : mSd rd F wd mac mim c V PP QQ q D (hiI D) (erI D) (seI D) MA nm pl tr u) : bth sta (d + 9) 104 253 (.ref 0 :: [.int (bl s), .int (bl lo)]) (.ref 151 :: [.int (bl s), .int (bl lo)]) w u (cS true a b tp c na nl D DA D2 DA2 H rg pa x ac im R P) (mSd rd F wd mac mim c V PP QQ q D (hiI D) (erI D) (seI D) MA nm pl) := by
  have hD2 := hD
  obtain ⟨d0, d1, d3, d4, d5, d6, d7, d8, d2, -⟩ := hD2
  unfold hiI erI seI at hm ⊢
  by_cases h4 : D 4 = 0
  · rw [if_pos h4, if_pos h4] at hm ⊢
    exact ⟨_, _, up_od hc (fun sl => s_believed_6 _ _ _ _ _ _ _ _ _ (h4)), mp_od hm (by decide) (fun _ _ _ _ _ _ _ _ _ _ _ => s_Mbelieved_6 _ _ _ _ _ _ _ _ _ _ _ _ _ _ _ _ _ _ _ _ _ _ _ _ _) (rfl)⟩
  · rw [if_neg h4, if_neg h4, if_neg h4] at hm ⊢
    exact ⟨_, _, up_od hc (fun sl => s_doctor _ _ _ _ _ _ _ _ _ _ (hD) (by omega)), mp_od hm (by decide) (fun _ _ _ _ _ _ _ _ _ _ _ => s_Mbelieved _ _ _ _ _ _ _ _ _ _ _ _ _ _ _ _ _ _ _ _ _ _ _ _ _ _ (d5) (d6) (d7)) (rfl)⟩
theorem b_wrong (lo : Bool) (hD : okD D DA) (hc : cS true a b tp c na nl D DA D2 DA2 H rg pa x ac im R P tr w) (hm : mSd rd F wd mac mim c V PP QQ q D (hiI D) (erI D) (seI D) MA nm pl tr u) : bth sta (d + 9) 105 254 (.ref 0 :: [.int (bl lo)]) (.ref 151 :: [.int (bl lo)]) w u (cS true a b tp c na nl D DA D2 DA2 H rg pa x ac im R P) (mSd rd F wd mac mim c V PP QQ q D (hiI D) (erI D) (seI D) MA nm pl) := by
  have hD2 := hD
  obtain ⟨d0, d1, d3, d4, d5, d6, d7, d8, d2, -⟩ := hD2
  unfold hiI erI seI at hm ⊢
  by_cases h4 : D 4 = 0
  · rw [if_pos h4, if_pos h4] at hm ⊢
    exact ⟨_, _, up_od hc (fun sl => s_wrong_6 _ _ _ _ _ _ _ _ (h4)), mp_od hm (by decide) (fun _ _ _ _ _ _ _ _ _ _ _ => s_Mwrong_6 _ _ _ _ _ _ _ _ _ _ _ _ _ _ _ _ _ _ _ _ _ _ _ _) (rfl)⟩
  · rw [if_neg h4, if_neg h4, if_neg h4] at hm ⊢
    exact ⟨_, _, up_od hc (fun sl => s_wrong _ _ _ _ _ _ _ _ _ (hD) (by omega)), mp_od hm (by decide) (fun _ _ _ _ _ _ _ _ _ _ _ => s_Mwrong _ _ _ _ _ _ _ _ _ _ _ _ _ _ _ _ _ _ _ _ _ _ _ _ _ (d5) (d6) (d7)) (rfl)⟩
theorem b_fate (m : Int32) (hv : hyv Bd (D 1) H V FR) (hy : hyp sta D DA H V MA SN C) (hc : cS true a b tp c na nl D DA D2 DA2 H rg pa x ac im R P tr w) (hm : mSd rd F wd mac mim c V PP QQ q D hi er se MA nm pl tr u) : bth sta (d + 9) 121 273 (.ref 0 :: [.int m]) (.ref 151 :: [.int m]) w u (cS true a b tp c na nl D DA D2 DA2 H rg pa x ac im R P) (mSd rd F wd mac mim c V PP QQ q D hi er se MA nm pl) := by
  obtain ⟨hF, hD, h1, hN, hV, hG, ha, h5, hM5⟩ := hy
  have hn : 1 ≤ D 1 ∧ D 1 ≤ 6 := ⟨h1, hD.2.1⟩
  obtain ⟨v24, v26, v27, vB, v12, v18, vF, vF1, vF2, vI⟩ := hv
  by_cases hk0 : inR (D 1) m = true
  · obtain ⟨k, hk, -, rfl⟩ := inR_at hk0
    exact ⟨_, _, up_odn hc (fun sl => s_fate _ _ _ _ _ _ _ _ _ (hk) (hD.2.1) (hN)), mp_odv hm (by decide) (fun _ _ _ _ _ _ _ _ _ _ _ => s_Mfate _ _ _ _ _ _ _ _ _ _ _ _ _ _ _ _ _ _ _ _ _ _ _ _ _ _ _ _ (hk) (hD.2.1) (v24) (hN.2.2.1) (v18) (vF)) (by rw [fte_mfte vI vF1 vF2 hk])⟩
  · have hk := eq_false_of_ne_true hk0
    exact ⟨_, _, up_od hc (fun sl => s_fate_x _ _ _ _ _ _ _ _ _ (hD.2.1) (by rw [hk]; rfl)), mp_od hm (by decide) (fun _ _ _ _ _ _ _ _ _ _ _ => s_Mfate_x _ _ _ _ _ _ _ _ _ _ _ _ _ _ _ _ _ _ _ _ _ _ _ _ _ (hD.2.1) (hk)) (rfl)⟩
theorem b_lot (m : Int32) (hB : Bd < 2 ^ 30) (hv : hyv Bd (D 1) H V FR) (hy : hyp sta D DA H V MA SN C) (hc : cS true a b tp c na nl D DA D2 DA2 H rg pa x ac im R P tr w) (hm : mSd rd F wd mac mim c V PP QQ q D hi er se MA nm pl tr u) : bth sta (d + 9) 123 274 (.ref 0 :: [.int m]) (.ref 151 :: [.int m]) w u (cS true a b tp c na nl D DA D2 DA2 H rg pa x ac im R P) (mSd rd F wd mac mim c V PP QQ q D hi er se MA nm pl) := by
  obtain ⟨hF, hD, h1, hN, hV, hG, ha, h5, hM5⟩ := hy
  have hn : 1 ≤ D 1 ∧ D 1 ≤ 6 := ⟨h1, hD.2.1⟩
  obtain ⟨v24, v26, v27, vB, v12, v18, vF, vF1, vF2, vI⟩ := hv
  by_cases hk0 : inR (D 1) m = true
  · obtain ⟨k, hk, -, rfl⟩ := inR_at hk0
    rcases Nat.eq_zero_or_pos (H.1 2) with h0 | h0
    · exact ⟨_, _, up_odn hc (fun sl => s_lot_0 _ _ _ _ _ _ _ _ _ (hk) (h0) (hD.2.1)), mp_odv hm (by decide) (fun _ _ _ _ _ _ _ _ _ _ _ => s_Mlot_0 _ _ _ _ _ _ _ _ _ _ _ _ _ _ _ _ _ _ _ _ _ _ _ _ _ _ (hk) (hD.2.1) (by rw [v26, h0]; rfl)) (rfl)⟩
    · exact ⟨_, _, up_odn hc (fun sl => s_lot _ _ _ _ _ _ _ _ _ (hk) (h0) (by omega) (hD.2.1)), mp_odv hm (by decide) (fun _ _ _ _ _ _ _ _ _ _ _ => s_Mlot _ _ _ _ _ _ _ _ _ _ _ _ _ _ _ _ _ _ _ _ _ _ _ _ _ _ _ (hk) (hD.2.1) (v26) (h0) (by omega)) (by rw [v12 h0 k hk])⟩
  · have hk := eq_false_of_ne_true hk0
    exact ⟨_, _, up_od hc (fun sl => s_lot_x _ _ _ _ _ _ _ _ _ (hD.2.1) (by rw [hk]; rfl)), mp_od hm (by decide) (fun _ _ _ _ _ _ _ _ _ _ _ => s_Mlot_x _ _ _ _ _ _ _ _ _ _ _ _ _ _ _ _ _ _ _ _ _ _ _ _ _ (hD.2.1) (hk)) (rfl)⟩
theorem b_trouble (hc : cS true a b (tpg (nI L) fa pl en at_ be ki td va) c na nl D DA D2 DA2 H rg pa x ac im R P tr w) (hm : mSd rd F wd mac mim c V PP QQ q D hi er se MA nm pl tr u) : bth sta (d + 9) 131 281 (.ref 0 :: []) (.ref 151 :: []) w u (cS true a b (tpg (nI L) fa pl en at_ be ki td va) c na nl D DA D2 DA2 H rg pa x ac im R P) (mSd rd F wd mac mim c V PP QQ q D hi er se MA nm pl) :=
  ⟨_, _, up_o hc (fun sl => s_trouble _ _ _ _ _ _ _), mk_o hm (fun _ _ _ _ _ _ _ _ _ _ _ => s_Mtrouble _ _ _ _ _ _ _ _ _ _ _ _ _ _ _ _ _ _ _ _) rfl⟩
theorem b_fault (h12 : F 12 = fa) (hc : cS true a b (tpg (nI L) fa pl en at_ be ki td va) c na nl D DA D2 DA2 H rg pa x ac im R P tr w) (hm : mSd rd F wd mac mim c V PP QQ q D hi er se MA nm pl tr u) : bth sta (d + 9) 70 196 (.ref 0 :: []) (.ref 151 :: []) w u (cS true a b (tpg (nI L) fa pl en at_ be ki td va) c na nl D DA D2 DA2 H rg pa x ac im R P) (mSd rd F wd mac mim c V PP QQ q D hi er se MA nm pl) :=
  ⟨_, _, up_ot hc (fun sl => s_fault _ _ _ _ _ _ _ ((tpF (nI L) fa pl en at_ be ki td va))), mk_o hm (fun _ _ _ _ _ _ _ _ _ _ _ => s_Mfault _ _ _ _ _ _ _ _ _ _ _ _ _ _ _ _ _ _ _ _) (by rw [h12]; rfl)⟩
theorem b_where (hc : cS true a b (tpg (nI L) fa pl en at_ be ki td va) c na nl D DA D2 DA2 H rg pa x ac im R P tr w) (hm : mSd rd F wd mac mim c V PP QQ q D hi er se MA nm pl tr u) : bth sta (d + 9) 71 197 (.ref 0 :: []) (.ref 151 :: []) w u (cS true a b (tpg (nI L) fa pl en at_ be ki td va) c na nl D DA D2 DA2 H rg pa x ac im R P) (mSd rd F wd mac mim c V PP QQ q D hi er se MA nm pl) := by
  refine ⟨.int (if tr = 4 then pl else -1), tr, up_ot hc (fun sl => s_where _ _ _ _ _ _ _ ((tpF (nI L) fa pl en at_ be ki td va))), ?_⟩
  obtain ⟨th, lw, tk, st, sh, ru, rz, aw, al, sd, r, sn, g, f, b1, b2, b3, b4, c0, rfl⟩ := hm
  refine ((s_Mwhere _ _ _ _ _ _ _ _ _ _ _ _ _ _ _ _ _ _ _ _).fr [0] rfl rfl (by decide)).post ?_
  rintro v w ⟨wc', ⟨hv, rfl⟩, -, rfl⟩ -
  exact ⟨hv, 0, lw, tk, st, sh, ru, rz, aw, al, sd, r, sn, g, f, b1, b2, b3, b4, c0, rfl⟩
theorem b_size (y : Int32) (h6 : F 6 = nI L) (hD : okD D DA) (hv : hyv Bd (D 1) H V FR) (h7 : mac = nI ac) (h8 : mim = nI im) (hc : cS true a b (tpg (nI L) fa pl en at_ be ki td va) c na nl D DA D2 DA2 H rg pa x ac im R P tr w) (hm : mSd rd F wd mac mim c V PP QQ q D (hiI D) (erI D) (seI D) MA nm pl tr u) : bth sta (d + 9) 129 280 (.ref 0 :: [.int y]) (.ref 151 :: [.int y]) w u (cS true a b (tpg (nI L) fa pl en at_ be ki td va) c na nl D DA D2 DA2 H rg pa x ac im R P) (mSd rd F wd mac mim c V PP QQ q D (hiI D) (erI D) (seI D) MA nm pl) := by
  by_cases h9 : y = 9
  · subst h9
    exact ⟨_, _, up_ot hc (fun sl => s_size9 _ _ _ _ _ _ _ ((tpF (nI L) fa pl en at_ be ki td va))), mk_o hm (fun _ _ _ _ _ _ _ _ _ _ _ => s_Msize9 _ _ _ _ _ _ _ _ _ _ _ _ _ _ _ _ _ _ _ _) (by rw [h6]; rfl)⟩
  · by_cases hk0 : inR 9 y = true
    · obtain ⟨k, hk, -, rfl⟩ := inR_at hk0
      obtain ⟨v24, v26, v27, vB, v12, v18, vF, vF1, vF2, vI⟩ := hv
      have h4 := hD.2.2.2.1
      exact ⟨_, _, up_sz hc (fun sl => s_size _ _ _ _ _ _ _ (hk) _ _ _ _ _ (h4)), mk_odv hm (fun _ _ _ _ _ _ _ _ _ _ _ => s_Msize _ _ _ _ _ _ _ _ _ _ _ _ _ _ _ _ _ _ _ _ _ _ _ _ _ _ (hk)) (congrArg Value.int (siz_eq hk h4 hD.2.2.2.2.1 v26 v27 h7 h8))⟩
    · have hk := eq_false_of_ne_true hk0
      exact ⟨_, _, up_e hc (s_size_no _ _ _ (h9) (hk)), mk_o hm (fun _ _ _ _ _ _ _ _ _ _ _ => s_Msize_no _ _ _ _ _ _ _ _ _ _ _ _ _ _ _ _ _ _ _ _ _ (h9) (hk)) rfl⟩
theorem b_trouble_n (hc : cS false a b (tpg (nI L) fa pl en at_ be ki td va) c na nl D DA D2 DA2 H rg pa x ac im R P tr w) (hm : mSu rd F wd mac mim c V PP QQ pl tr u) : bth sta (d + 9) 131 281 (.ref 0 :: []) (.ref 151 :: []) w u (cS false a b (tpg (nI L) fa pl en at_ be ki td va) c na nl D DA D2 DA2 H rg pa x ac im R P) (mSu rd F wd mac mim c V PP QQ pl) :=
  ⟨_, _, up_o hc (fun sl => s_trouble _ _ _ _ _ _ _), mq_o hm (fun _ _ _ _ _ _ _ _ _ _ _ => s_Mtrouble _ _ _ _ _ _ _ _ _ _ _ _ _ _ _ _ _ _ _ _) rfl⟩
theorem b_fault_n (h12 : F 12 = fa) (hc : cS false a b (tpg (nI L) fa pl en at_ be ki td va) c na nl D DA D2 DA2 H rg pa x ac im R P tr w) (hm : mSu rd F wd mac mim c V PP QQ pl tr u) : bth sta (d + 9) 70 196 (.ref 0 :: []) (.ref 151 :: []) w u (cS false a b (tpg (nI L) fa pl en at_ be ki td va) c na nl D DA D2 DA2 H rg pa x ac im R P) (mSu rd F wd mac mim c V PP QQ pl) :=
  ⟨_, _, up_ot hc (fun sl => s_fault _ _ _ _ _ _ _ ((tpF (nI L) fa pl en at_ be ki td va))), mq_o hm (fun _ _ _ _ _ _ _ _ _ _ _ => s_Mfault _ _ _ _ _ _ _ _ _ _ _ _ _ _ _ _ _ _ _ _) (by rw [h12]; rfl)⟩
theorem b_where_n (hc : cS false a b (tpg (nI L) fa pl en at_ be ki td va) c na nl D DA D2 DA2 H rg pa x ac im R P tr w) (hm : mSu rd F wd mac mim c V PP QQ pl tr u) : bth sta (d + 9) 71 197 (.ref 0 :: []) (.ref 151 :: []) w u (cS false a b (tpg (nI L) fa pl en at_ be ki td va) c na nl D DA D2 DA2 H rg pa x ac im R P) (mSu rd F wd mac mim c V PP QQ pl) := by
  refine ⟨.int (if tr = 4 then pl else -1), tr, up_ot hc (fun sl => s_where _ _ _ _ _ _ _ ((tpF (nI L) fa pl en at_ be ki td va))), ?_⟩
  obtain ⟨th, lw, tk, st, sh, ru, rz, aw, al, sd, r, sn, g, f, b1, b2, b3, b4, c0, rfl⟩ := hm
  refine ((s_Mwhere _ _ _ _ _ _ _ _ _ _ _ _ _ _ _ _ _ _ _ _).fr [0] rfl rfl (by decide)).post ?_
  rintro v w ⟨wc', ⟨hv, rfl⟩, -, rfl⟩ -
  exact ⟨hv, 0, lw, tk, st, sh, ru, rz, aw, al, sd, r, sn, g, f, b1, b2, b3, b4, c0, rfl⟩
theorem b_size_n (y : Int32) (h6 : F 6 = nI L) (hc : cS false a b (tpg (nI L) fa pl en at_ be ki td va) c na nl D DA D2 DA2 H rg pa x ac im R P tr w) (hm : mSu rd F wd mac mim c V PP QQ pl tr u) : bth sta (d + 9) 129 280 (.ref 0 :: [.int y]) (.ref 151 :: [.int y]) w u (cS false a b (tpg (nI L) fa pl en at_ be ki td va) c na nl D DA D2 DA2 H rg pa x ac im R P) (mSu rd F wd mac mim c V PP QQ pl) := by
  by_cases h9 : y = 9
  · subst h9
    exact ⟨_, _, up_ot hc (fun sl => s_size9 _ _ _ _ _ _ _ ((tpF (nI L) fa pl en at_ be ki td va))), mq_o hm (fun _ _ _ _ _ _ _ _ _ _ _ => s_Msize9 _ _ _ _ _ _ _ _ _ _ _ _ _ _ _ _ _ _ _ _) (by rw [h6]; rfl)⟩
  · by_cases hk0 : inR 9 y = true
    · obtain ⟨k, hk, -, rfl⟩ := inR_at hk0
      exact ⟨_, _, up_o hc (fun sl => s_size_u _ _ _ _ _ _ _ (hk)), mq_o hm (fun _ _ _ _ _ _ _ _ _ _ _ => s_Msize_u _ _ _ _ _ _ _ _ _ _ _ _ _ _ _ _ _ _ _ _ (hk)) rfl⟩
    · have hk := eq_false_of_ne_true hk0
      exact ⟨_, _, up_e hc (s_size_no _ _ _ (h9) (hk)), mq_o hm (fun _ _ _ _ _ _ _ _ _ _ _ => s_Msize_no _ _ _ _ _ _ _ _ _ _ _ _ _ _ _ _ _ _ _ _ _ (h9) (hk)) rfl⟩
theorem n_wouldGo (m : Int32) (hD : okD D DA) (hc : cS false a b tp c na nl D DA D2 DA2 H rg pa x ac im R P tr w) (hm : mSu rd F wd mac mim c V PP QQ pl tr u) : bth sta (d + 9) 75 217 (.ref 0 :: [.int m]) (.ref 151 :: [.int m]) w u (cS false a b tp c na nl D DA D2 DA2 H rg pa x ac im R P) (mSu rd F wd mac mim c V PP QQ pl) :=
  ⟨_, _, up_od hc (fun sl => s_wouldGo_x _ _ _ _ _ _ _ _ _ (hD.2.1) (rfl)), mu_o hm (by decide) (fun _ _ _ _ _ _ _ _ _ _ _ => s_MwouldGo_u _ _ _ _ _ _ _ _ _ _ _ _ _ _ _ _ _ _ _ _) rfl⟩
theorem n_firstTaken (m : Int32) (hD : okD D DA) (hc : cS false a b tp c na nl D DA D2 DA2 H rg pa x ac im R P tr w) (hm : mSu rd F wd mac mim c V PP QQ pl tr u) : bth sta (d + 9) 80 224 (.ref 0 :: [.int m]) (.ref 151 :: [.int m]) w u (cS false a b tp c na nl D DA D2 DA2 H rg pa x ac im R P) (mSu rd F wd mac mim c V PP QQ pl) :=
  ⟨_, _, up_od hc (fun sl => s_firstTaken_x _ _ _ _ _ _ _ _ _ (hD.2.1) (rfl)), mu_o hm (by decide) (fun _ _ _ _ _ _ _ _ _ _ _ => s_MfirstTaken_u _ _ _ _ _ _ _ _ _ _ _ _ _ _ _ _ _ _ _ _) rfl⟩
theorem n_fate (m : Int32) (hD : okD D DA) (hc : cS false a b tp c na nl D DA D2 DA2 H rg pa x ac im R P tr w) (hm : mSu rd F wd mac mim c V PP QQ pl tr u) : bth sta (d + 9) 121 273 (.ref 0 :: [.int m]) (.ref 151 :: [.int m]) w u (cS false a b tp c na nl D DA D2 DA2 H rg pa x ac im R P) (mSu rd F wd mac mim c V PP QQ pl) :=
  ⟨_, _, up_od hc (fun sl => s_fate_x _ _ _ _ _ _ _ _ _ (hD.2.1) (rfl)), mu_o hm (by decide) (fun _ _ _ _ _ _ _ _ _ _ _ => s_Mfate_u _ _ _ _ _ _ _ _ _ _ _ _ _ _ _ _ _ _ _ _) rfl⟩
theorem n_lot (m : Int32) (hD : okD D DA) (hc : cS false a b tp c na nl D DA D2 DA2 H rg pa x ac im R P tr w) (hm : mSu rd F wd mac mim c V PP QQ pl tr u) : bth sta (d + 9) 123 274 (.ref 0 :: [.int m]) (.ref 151 :: [.int m]) w u (cS false a b tp c na nl D DA D2 DA2 H rg pa x ac im R P) (mSu rd F wd mac mim c V PP QQ pl) :=
  ⟨_, _, up_od hc (fun sl => s_lot_x _ _ _ _ _ _ _ _ _ (hD.2.1) (rfl)), mu_o hm (by decide) (fun _ _ _ _ _ _ _ _ _ _ _ => s_Mlot_u _ _ _ _ _ _ _ _ _ _ _ _ _ _ _ _ _ _ _ _) rfl⟩
theorem n_marry (m : Int32) (hD : okD D DA) (hc : cS false a b tp c na nl D DA D2 DA2 H rg pa x ac im R P tr w) (hm : mSu rd F wd mac mim c V PP QQ pl tr u) : bth sta (d + 9) 117 268 (.ref 0 :: [.int m]) (.ref 151 :: [.int m]) w u (cS false a b tp c na nl D DA D2 DA2 H rg pa x ac im R P) (mSu rd F wd mac mim c V PP QQ pl) :=
  ⟨_, _, up_od hc (fun sl => s_marry_x _ _ _ _ _ _ _ _ _ (hD.2.1) (rfl)), mu_o hm (by decide) (fun _ _ _ _ _ _ _ _ _ _ _ => s_Mmarry_u _ _ _ _ _ _ _ _ _ _ _ _ _ _ _ _ _ _ _ _) rfl⟩
theorem n_desert (m : Int32) (hD : okD D DA) (hc : cS false a b tp c na nl D DA D2 DA2 H rg pa x ac im R P tr w) (hm : mSu rd F wd mac mim c V PP QQ pl tr u) : bth sta (d + 9) 120 271 (.ref 0 :: [.int m]) (.ref 151 :: [.int m]) w u (cS false a b tp c na nl D DA D2 DA2 H rg pa x ac im R P) (mSu rd F wd mac mim c V PP QQ pl) :=
  ⟨_, _, up_od hc (fun sl => s_desert_x _ _ _ _ _ _ _ _ _ (hD.2.1) (rfl)), mu_o hm (by decide) (fun _ _ _ _ _ _ _ _ _ _ _ => s_Mdesert_u _ _ _ _ _ _ _ _ _ _ _ _ _ _ _ _ _ _ _ _) rfl⟩
theorem n_taken (m : Int32) (lo : Bool) (hD : okD D DA) (hc : cS false a b tp c na nl D DA D2 DA2 H rg pa x ac im R P tr w) (hm : mSu rd F wd mac mim c V PP QQ pl tr u) : bth sta (d + 9) 83 226 (.ref 0 :: [.int m, .int (bl lo)]) (.ref 151 :: [.int m, .int (bl lo)]) w u (cS false a b tp c na nl D DA D2 DA2 H rg pa x ac im R P) (mSu rd F wd mac mim c V PP QQ pl) :=
  ⟨_, _, up_od hc (fun sl => s_taken_x _ _ _ _ _ _ _ _ _ _ (hD.2.1) (rfl)), mu_o hm (by decide) (fun _ _ _ _ _ _ _ _ _ _ _ => s_Mtaken_u _ _ _ _ _ _ _ _ _ _ _ _ _ _ _ _ _ _ _ _ _) rfl⟩
theorem n_goes (m : Int32) (lo : Bool) (hD : okD D DA) (hc : cS false a b tp c na nl D DA D2 DA2 H rg pa x ac im R P tr w) (hm : mSu rd F wd mac mim c V PP QQ pl tr u) : bth sta (d + 9) 84 227 (.ref 0 :: [.int m, .int (bl lo)]) (.ref 151 :: [.int m, .int (bl lo)]) w u (cS false a b tp c na nl D DA D2 DA2 H rg pa x ac im R P) (mSu rd F wd mac mim c V PP QQ pl) :=
  ⟨_, _, up_od hc (fun sl => s_goes_x _ _ _ _ _ _ _ _ _ _ (hD.2.1) (rfl)), mu_o hm (by decide) (fun _ _ _ _ _ _ _ _ _ _ _ => s_Mgoes_u _ _ _ _ _ _ _ _ _ _ _ _ _ _ _ _ _ _ _ _ _) rfl⟩
theorem n_loss (m : Int32) (lo : Bool) (hD : okD D DA) (hc : cS false a b tp c na nl D DA D2 DA2 H rg pa x ac im R P tr w) (hm : mSu rd F wd mac mim c V PP QQ pl tr u) : bth sta (d + 9) 86 229 (.ref 0 :: [.int m, .int (bl lo)]) (.ref 151 :: [.int m, .int (bl lo)]) w u (cS false a b tp c na nl D DA D2 DA2 H rg pa x ac im R P) (mSu rd F wd mac mim c V PP QQ pl) :=
  ⟨_, _, up_od hc (fun sl => s_loss_x _ _ _ _ _ _ _ _ _ _ (hD.2.1) (rfl)), mu_o hm (by decide) (fun _ _ _ _ _ _ _ _ _ _ _ => s_Mloss_u _ _ _ _ _ _ _ _ _ _ _ _ _ _ _ _ _ _ _ _ _) rfl⟩
theorem n_ifMarried (m : Int32) (lo : Bool) (hD : okD D DA) (hc : cS false a b tp c na nl D DA D2 DA2 H rg pa x ac im R P tr w) (hm : mSu rd F wd mac mim c V PP QQ pl tr u) : bth sta (d + 9) 91 235 (.ref 0 :: [.int m, .int (bl lo)]) (.ref 151 :: [.int m, .int (bl lo)]) w u (cS false a b tp c na nl D DA D2 DA2 H rg pa x ac im R P) (mSu rd F wd mac mim c V PP QQ pl) :=
  ⟨_, _, up_od hc (fun sl => s_ifMarried_x _ _ _ _ _ _ _ _ _ _ (hD.2.1) (rfl)), mu_o hm (by decide) (fun _ _ _ _ _ _ _ _ _ _ _ => s_MifMarried_u _ _ _ _ _ _ _ _ _ _ _ _ _ _ _ _ _ _ _ _ _) rfl⟩
theorem n_club (m : Int32) (lo : Bool) (hD : okD D DA) (hc : cS false a b tp c na nl D DA D2 DA2 H rg pa x ac im R P tr w) (hm : mSu rd F wd mac mim c V PP QQ pl tr u) : bth sta (d + 9) 87 231 (.ref 0 :: [.int m, .int (bl lo)]) (.ref 151 :: [.int m, .int (bl lo)]) w u (cS false a b tp c na nl D DA D2 DA2 H rg pa x ac im R P) (mSu rd F wd mac mim c V PP QQ pl) :=
  ⟨_, _, up_od hc (fun sl => s_club_x _ _ _ _ _ _ _ _ _ _ (hD.2.1) (rfl)), mu_o hm (by decide) (fun _ _ _ _ _ _ _ _ _ _ _ => s_Mclub_u _ _ _ _ _ _ _ _ _ _ _ _ _ _ _ _ _ _ _ _ _) rfl⟩
theorem n_ruin (m y : Int32) (lo : Bool) (hD : okD D DA) (hc : cS false a b tp c na nl D DA D2 DA2 H rg pa x ac im R P tr w) (hm : mSu rd F wd mac mim c V PP QQ pl tr u) : bth sta (d + 9) 88 232 (.ref 0 :: [.int m, .int y, .int (bl lo)]) (.ref 151 :: [.int m, .int y, .int (bl lo)]) w u (cS false a b tp c na nl D DA D2 DA2 H rg pa x ac im R P) (mSu rd F wd mac mim c V PP QQ pl) :=
  ⟨_, _, up_od hc (fun sl => s_ruin_x _ _ _ _ _ _ _ _ _ _ _ (hD.2.1) (rfl)), mu_o hm (by decide) (fun _ _ _ _ _ _ _ _ _ _ _ => s_Mruin_u _ _ _ _ _ _ _ _ _ _ _ _ _ _ _ _ _ _ _ _ _ _) rfl⟩
theorem n_goesFor (m y : Int32) (lo : Bool) (hD : okD D DA) (hc : cS false a b tp c na nl D DA D2 DA2 H rg pa x ac im R P tr w) (hm : mSu rd F wd mac mim c V PP QQ pl tr u) : bth sta (d + 9) 85 228 (.ref 0 :: [.int m, .int y, .int (bl lo)]) (.ref 151 :: [.int m, .int y, .int (bl lo)]) w u (cS false a b tp c na nl D DA D2 DA2 H rg pa x ac im R P) (mSu rd F wd mac mim c V PP QQ pl) :=
  ⟨_, _, up_od hc (fun sl => s_goesFor_x _ _ _ _ _ _ _ _ _ _ _ (hD.2.1) (rfl)), mu_o hm (by decide) (fun _ _ _ _ _ _ _ _ _ _ _ => s_MgoesFor_u _ _ _ _ _ _ _ _ _ _ _ _ _ _ _ _ _ _ _ _ _ _) rfl⟩
theorem n_toJoin (m : Int32) (hD : okD D DA) (hc : cS false a b tp c na nl D DA D2 DA2 H rg pa x ac im R P tr w) (hm : mSu rd F wd mac mim c V PP QQ pl tr u) : bth sta (d + 9) 89 233 (.ref 0 :: [.int m]) (.ref 151 :: [.int m]) w u (cS false a b tp c na nl D DA D2 DA2 H rg pa x ac im R P) (mSu rd F wd mac mim c V PP QQ pl) :=
  ⟨_, _, up_od hc (fun sl => s_toJoin_x _ _ _ _ _ _ _ _ _ (hD.2.1) (rfl)), mu_o hm (by decide) (fun _ _ _ _ _ _ _ _ _ _ _ => s_MtoJoin_u _ _ _ _ _ _ _ _ _ _ _ _ _ _ _ _ _ _ _ _) rfl⟩
theorem n_could (m : Int32) (hD : okD D DA) (hc : cS false a b tp c na nl D DA D2 DA2 H rg pa x ac im R P tr w) (hm : mSu rd F wd mac mim c V PP QQ pl tr u) : bth sta (d + 9) 98 246 (.ref 0 :: [.int m]) (.ref 151 :: [.int m]) w u (cS false a b tp c na nl D DA D2 DA2 H rg pa x ac im R P) (mSu rd F wd mac mim c V PP QQ pl) :=
  ⟨_, _, up_od hc (fun sl => s_could_x _ _ _ _ _ _ _ _ _ (hD.2.2.2.2.2.2.2.1) (rfl)), mu_o hm (by decide) (fun _ _ _ _ _ _ _ _ _ _ _ => s_Mcould_u _ _ _ _ _ _ _ _ _ _ _ _ _ _ _ _ _ _ _ _) rfl⟩
theorem n_surely (m : Int32) (hD : okD D DA) (hc : cS false a b tp c na nl D DA D2 DA2 H rg pa x ac im R P tr w) (hm : mSu rd F wd mac mim c V PP QQ pl tr u) : bth sta (d + 9) 99 247 (.ref 0 :: [.int m]) (.ref 151 :: [.int m]) w u (cS false a b tp c na nl D DA D2 DA2 H rg pa x ac im R P) (mSu rd F wd mac mim c V PP QQ pl) :=
  ⟨_, _, up_od hc (fun sl => s_surely_x _ _ _ _ _ _ _ _ _ (hD.2.2.2.2.2.2.2.1) (rfl)), mu_o hm (by decide) (fun _ _ _ _ _ _ _ _ _ _ _ => s_Msurely_u _ _ _ _ _ _ _ _ _ _ _ _ _ _ _ _ _ _ _ _) rfl⟩
theorem n_man (m y : Int32) (hD : okD D DA) (hc : cS false a b tp c na nl D DA D2 DA2 H rg pa x ac im R P tr w) (hm : mSu rd F wd mac mim c V PP QQ pl tr u) : bth sta (d + 9) 72 214 (.ref 0 :: [.int m, .int y]) (.ref 151 :: [.int m, .int y]) w u (cS false a b tp c na nl D DA D2 DA2 H rg pa x ac im R P) (mSu rd F wd mac mim c V PP QQ pl) :=
  ⟨_, _, up_od hc (fun sl => s_man_x _ _ _ _ _ _ _ _ _ _ (hD.2.1) (rfl)), mu_o hm (by decide) (fun _ _ _ _ _ _ _ _ _ _ _ => s_Mman_u _ _ _ _ _ _ _ _ _ _ _ _ _ _ _ _ _ _ _ _ _) rfl⟩
theorem n_sendsBy (y m : Int32) (hD : okD D DA) (hc : cS false a b tp c na nl D DA D2 DA2 H rg pa x ac im R P tr w) (hm : mSu rd F wd mac mim c V PP QQ pl tr u) : bth sta (d + 9) 78 222 (.ref 0 :: [.int y, .int m]) (.ref 151 :: [.int y, .int m]) w u (cS false a b tp c na nl D DA D2 DA2 H rg pa x ac im R P) (mSu rd F wd mac mim c V PP QQ pl) :=
  ⟨_, _, up_od hc (fun sl => s_sendsBy_x _ _ _ _ _ _ _ _ _ _ (hD.2.1) (rfl)), mu_o hm (by decide) (fun _ _ _ _ _ _ _ _ _ _ _ => s_MsendsBy_u _ _ _ _ _ _ _ _ _ _ _ _ _ _ _ _ _ _ _ _ _) rfl⟩
theorem n_lossBy (y m : Int32) (hD : okD D DA) (hc : cS false a b tp c na nl D DA D2 DA2 H rg pa x ac im R P tr w) (hm : mSu rd F wd mac mim c V PP QQ pl tr u) : bth sta (d + 9) 79 223 (.ref 0 :: [.int y, .int m]) (.ref 151 :: [.int y, .int m]) w u (cS false a b tp c na nl D DA D2 DA2 H rg pa x ac im R P) (mSu rd F wd mac mim c V PP QQ pl) :=
  ⟨_, _, up_od hc (fun sl => s_lossBy_x _ _ _ _ _ _ _ _ _ _ (hD.2.1) (rfl)), mu_o hm (by decide) (fun _ _ _ _ _ _ _ _ _ _ _ => s_MlossBy_u _ _ _ _ _ _ _ _ _ _ _ _ _ _ _ _ _ _ _ _ _) rfl⟩
theorem n_takenBy (y : Int32) (hD : okD D DA) (hc : cS false a b tp c na nl D DA D2 DA2 H rg pa x ac im R P tr w) (hm : mSu rd F wd mac mim c V PP QQ pl tr u) : bth sta (d + 9) 76 220 (.ref 0 :: [.int y]) (.ref 151 :: [.int y]) w u (cS false a b tp c na nl D DA D2 DA2 H rg pa x ac im R P) (mSu rd F wd mac mim c V PP QQ pl) :=
  ⟨_, _, up_o hc (fun sl => s_takenBy_u _ _ _ _ _ _ _), mu_o hm (by decide) (fun _ _ _ _ _ _ _ _ _ _ _ => s_MtakenBy_u _ _ _ _ _ _ _ _ _ _ _ _ _ _ _ _ _ _ _ _) rfl⟩
theorem n_goesBy (y : Int32) (hD : okD D DA) (hc : cS false a b tp c na nl D DA D2 DA2 H rg pa x ac im R P tr w) (hm : mSu rd F wd mac mim c V PP QQ pl tr u) : bth sta (d + 9) 77 221 (.ref 0 :: [.int y]) (.ref 151 :: [.int y]) w u (cS false a b tp c na nl D DA D2 DA2 H rg pa x ac im R P) (mSu rd F wd mac mim c V PP QQ pl) :=
  ⟨_, _, up_o hc (fun sl => s_goesBy_u _ _ _ _ _ _ _), mu_o hm (by decide) (fun _ _ _ _ _ _ _ _ _ _ _ => s_MgoesBy_u _ _ _ _ _ _ _ _ _ _ _ _ _ _ _ _ _ _ _ _) rfl⟩
theorem n_spared  (hD : okD D DA) (hc : cS false a b tp c na nl D DA D2 DA2 H rg pa x ac im R P tr w) (hm : mSu rd F wd mac mim c V PP QQ pl tr u) : bth sta (d + 9) 73 215 (.ref 0 :: []) (.ref 151 :: []) w u (cS false a b tp c na nl D DA D2 DA2 H rg pa x ac im R P) (mSu rd F wd mac mim c V PP QQ pl) :=
  ⟨_, _, up_o hc (fun sl => s_spared_u _ _ _ _ _ _), mu_o hm (by decide) (fun _ _ _ _ _ _ _ _ _ _ _ => s_Mspared_u _ _ _ _ _ _ _ _ _ _ _ _ _ _ _ _ _ _ _) rfl⟩
theorem n_bestLaw  (hD : okD D DA) (hc : cS false a b tp c na nl D DA D2 DA2 H rg pa x ac im R P tr w) (hm : mSu rd F wd mac mim c V PP QQ pl tr u) : bth sta (d + 9) 94 240 (.ref 0 :: []) (.ref 151 :: []) w u (cS false a b tp c na nl D DA D2 DA2 H rg pa x ac im R P) (mSu rd F wd mac mim c V PP QQ pl) :=
  ⟨_, _, up_o hc (fun sl => s_bestLaw_u _ _ _ _ _ _), mu_o hm (by decide) (fun _ _ _ _ _ _ _ _ _ _ _ => s_MbestLaw_u _ _ _ _ _ _ _ _ _ _ _ _ _ _ _ _ _ _ _) rfl⟩
theorem n_toSpare  (hD : okD D DA) (hc : cS false a b tp c na nl D DA D2 DA2 H rg pa x ac im R P tr w) (hm : mSu rd F wd mac mim c V PP QQ pl tr u) : bth sta (d + 9) 95 241 (.ref 0 :: []) (.ref 151 :: []) w u (cS false a b tp c na nl D DA D2 DA2 H rg pa x ac im R P) (mSu rd F wd mac mim c V PP QQ pl) :=
  ⟨_, _, up_o hc (fun sl => s_toSpare_u _ _ _ _ _ _), mu_o hm (by decide) (fun _ _ _ _ _ _ _ _ _ _ _ => s_MtoSpare_u _ _ _ _ _ _ _ _ _ _ _ _ _ _ _ _ _ _ _) rfl⟩
theorem n_rows  (hD : okD D DA) (hc : cS false a b tp c na nl D DA D2 DA2 H rg pa x ac im R P tr w) (hm : mSu rd F wd mac mim c V PP QQ pl tr u) : bth sta (d + 9) 97 243 (.ref 0 :: []) (.ref 151 :: []) w u (cS false a b tp c na nl D DA D2 DA2 H rg pa x ac im R P) (mSu rd F wd mac mim c V PP QQ pl) :=
  ⟨_, _, up_o hc (fun sl => s_rows_u _ _ _ _ _ _), mu_o hm (by decide) (fun _ _ _ _ _ _ _ _ _ _ _ => s_Mrows_u _ _ _ _ _ _ _ _ _ _ _ _ _ _ _ _ _ _ _) rfl⟩
theorem n_ask  (hD : okD D DA) (hc : cS false a b tp c na nl D DA D2 DA2 H rg pa x ac im R P tr w) (hm : mSu rd F wd mac mim c V PP QQ pl tr u) : bth sta (d + 9) 100 249 (.ref 0 :: []) (.ref 151 :: []) w u (cS false a b tp c na nl D DA D2 DA2 H rg pa x ac im R P) (mSu rd F wd mac mim c V PP QQ pl) :=
  ⟨_, _, up_o hc (fun sl => s_ask_u _ _ _ _ _ _), mu_o hm (by decide) (fun _ _ _ _ _ _ _ _ _ _ _ => s_Mask_u _ _ _ _ _ _ _ _ _ _ _ _ _ _ _ _ _ _ _) rfl⟩
theorem n_askLeaves  (hD : okD D DA) (hc : cS false a b tp c na nl D DA D2 DA2 H rg pa x ac im R P tr w) (hm : mSu rd F wd mac mim c V PP QQ pl tr u) : bth sta (d + 9) 101 250 (.ref 0 :: []) (.ref 151 :: []) w u (cS false a b tp c na nl D DA D2 DA2 H rg pa x ac im R P) (mSu rd F wd mac mim c V PP QQ pl) :=
  ⟨_, _, up_o hc (fun sl => s_askLeaves_u _ _ _ _ _ _), mu_o hm (by decide) (fun _ _ _ _ _ _ _ _ _ _ _ => s_MaskLeaves_u _ _ _ _ _ _ _ _ _ _ _ _ _ _ _ _ _ _ _) rfl⟩
theorem n_surelyTaken  (hD : okD D DA) (hc : cS false a b tp c na nl D DA D2 DA2 H rg pa x ac im R P tr w) (hm : mSu rd F wd mac mim c V PP QQ pl tr u) : bth sta (d + 9) 102 251 (.ref 0 :: []) (.ref 151 :: []) w u (cS false a b tp c na nl D DA D2 DA2 H rg pa x ac im R P) (mSu rd F wd mac mim c V PP QQ pl) :=
  ⟨_, _, up_o hc (fun sl => s_surelyTaken_u _ _ _ _ _ _), mu_o hm (by decide) (fun _ _ _ _ _ _ _ _ _ _ _ => s_MsurelyTaken_u _ _ _ _ _ _ _ _ _ _ _ _ _ _ _ _ _ _ _) rfl⟩
theorem n_hold  (hD : okD D DA) (hc : cS false a b tp c na nl D DA D2 DA2 H rg pa x ac im R P tr w) (hm : mSu rd F wd mac mim c V PP QQ pl tr u) : bth sta (d + 9) 119 270 (.ref 0 :: []) (.ref 151 :: []) w u (cS false a b tp c na nl D DA D2 DA2 H rg pa x ac im R P) (mSu rd F wd mac mim c V PP QQ pl) :=
  ⟨_, _, up_o hc (fun sl => s_hold_u _ _ _ _ _ _), mu_o hm (by decide) (fun _ _ _ _ _ _ _ _ _ _ _ => s_Mhold_u _ _ _ _ _ _ _ _ _ _ _ _ _ _ _ _ _ _ _) rfl⟩
theorem n_image  (hD : okD D DA) (hc : cS false a b tp c na nl D DA D2 DA2 H rg pa x ac im R P tr w) (hm : mSu rd F wd mac mim c V PP QQ pl tr u) : bth sta (d + 9) 126 277 (.ref 0 :: []) (.ref 151 :: []) w u (cS false a b tp c na nl D DA D2 DA2 H rg pa x ac im R P) (mSu rd F wd mac mim c V PP QQ pl) :=
  ⟨_, _, up_o hc (fun sl => s_image_u _ _ _ _ _ _), mu_o hm (by decide) (fun _ _ _ _ _ _ _ _ _ _ _ => s_Mimage_u _ _ _ _ _ _ _ _ _ _ _ _ _ _ _ _ _ _ _) rfl⟩
theorem n_many (m : Int32) (hD : okD D DA) (hc : cS false a b tp c na nl D DA D2 DA2 H rg pa x ac im R P tr w) (hm : mSu rd F wd mac mim c V PP QQ pl tr u) : bth sta (d + 9) 74 216 (.ref 0 :: [.int m]) (.ref 151 :: [.int m]) w u (cS false a b tp c na nl D DA D2 DA2 H rg pa x ac im R P) (mSu rd F wd mac mim c V PP QQ pl) :=
  ⟨_, _, up_o hc (fun sl => s_many_u _ _ _ _ _ _ _), mu_o hm (by decide) (fun _ _ _ _ _ _ _ _ _ _ _ => s_Mmany_u _ _ _ _ _ _ _ _ _ _ _ _ _ _ _ _ _ _ _ _) rfl⟩
theorem n_fills (m : Int32) (hD : okD D DA) (hc : cS false a b tp c na nl D DA D2 DA2 H rg pa x ac im R P tr w) (hm : mSu rd F wd mac mim c V PP QQ pl tr u) : bth sta (d + 9) 93 239 (.ref 0 :: [.int m]) (.ref 151 :: [.int m]) w u (cS false a b tp c na nl D DA D2 DA2 H rg pa x ac im R P) (mSu rd F wd mac mim c V PP QQ pl) :=
  ⟨_, _, up_o hc (fun sl => s_fills_u _ _ _ _ _ _ _), mu_o hm (by decide) (fun _ _ _ _ _ _ _ _ _ _ _ => s_Mfills_u _ _ _ _ _ _ _ _ _ _ _ _ _ _ _ _ _ _ _ _) rfl⟩
theorem n_rests (m : Int32) (hD : okD D DA) (hc : cS false a b tp c na nl D DA D2 DA2 H rg pa x ac im R P tr w) (hm : mSu rd F wd mac mim c V PP QQ pl tr u) : bth sta (d + 9) 107 260 (.ref 0 :: [.int m]) (.ref 151 :: [.int m]) w u (cS false a b tp c na nl D DA D2 DA2 H rg pa x ac im R P) (mSu rd F wd mac mim c V PP QQ pl) :=
  ⟨_, _, up_o hc (fun sl => s_rests_u _ _ _ _ _ _ _), mu_o hm (by decide) (fun _ _ _ _ _ _ _ _ _ _ _ => s_Mrests_u _ _ _ _ _ _ _ _ _ _ _ _ _ _ _ _ _ _ _ _) rfl⟩
theorem n_rest (m : Int32) (hD : okD D DA) (hc : cS false a b tp c na nl D DA D2 DA2 H rg pa x ac im R P tr w) (hm : mSu rd F wd mac mim c V PP QQ pl tr u) : bth sta (d + 9) 108 261 (.ref 0 :: [.int m]) (.ref 151 :: [.int m]) w u (cS false a b tp c na nl D DA D2 DA2 H rg pa x ac im R P) (mSu rd F wd mac mim c V PP QQ pl) :=
  ⟨_, _, up_o hc (fun sl => s_rest_u _ _ _ _ _ _ _), mu_o hm (by decide) (fun _ _ _ _ _ _ _ _ _ _ _ => s_Mrest_u _ _ _ _ _ _ _ _ _ _ _ _ _ _ _ _ _ _ _ _) rfl⟩
theorem n_seed (m : Int32) (hD : okD D DA) (hc : cS false a b tp c na nl D DA D2 DA2 H rg pa x ac im R P tr w) (hm : mSu rd F wd mac mim c V PP QQ pl tr u) : bth sta (d + 9) 124 275 (.ref 0 :: [.int m]) (.ref 151 :: [.int m]) w u (cS false a b tp c na nl D DA D2 DA2 H rg pa x ac im R P) (mSu rd F wd mac mim c V PP QQ pl) :=
  ⟨_, _, up_o hc (fun sl => s_seed_u _ _ _ _ _ _ _), mu_o hm (by decide) (fun _ _ _ _ _ _ _ _ _ _ _ => s_Mseed_u _ _ _ _ _ _ _ _ _ _ _ _ _ _ _ _ _ _ _ _) rfl⟩
theorem n_shortOf (lo : Bool) (hD : okD D DA) (hc : cS false a b tp c na nl D DA D2 DA2 H rg pa x ac im R P tr w) (hm : mSu rd F wd mac mim c V PP QQ pl tr u) : bth sta (d + 9) 90 234 (.ref 0 :: [.int (bl lo)]) (.ref 151 :: [.int (bl lo)]) w u (cS false a b tp c na nl D DA D2 DA2 H rg pa x ac im R P) (mSu rd F wd mac mim c V PP QQ pl) :=
  ⟨_, _, up_o hc (fun sl => s_shortOf_u _ _ _ _ _ _ _), mu_o hm (by decide) (fun _ _ _ _ _ _ _ _ _ _ _ => s_MshortOf_u _ _ _ _ _ _ _ _ _ _ _ _ _ _ _ _ _ _ _ _) rfl⟩
theorem n_harm (m : Int32) (lo : Bool) (hD : okD D DA) (hc : cS false a b tp c na nl D DA D2 DA2 H rg pa x ac im R P tr w) (hm : mSu rd F wd mac mim c V PP QQ pl tr u) : bth sta (d + 9) 92 238 (.ref 0 :: [.int m, .int (bl lo)]) (.ref 151 :: [.int m, .int (bl lo)]) w u (cS false a b tp c na nl D DA D2 DA2 H rg pa x ac im R P) (mSu rd F wd mac mim c V PP QQ pl) :=
  ⟨_, _, up_o hc (fun sl => s_harm_u _ _ _ _ _ _ _ _), mu_o hm (by decide) (fun _ _ _ _ _ _ _ _ _ _ _ => s_Mharm_u _ _ _ _ _ _ _ _ _ _ _ _ _ _ _ _ _ _ _ _ _) rfl⟩
theorem n_believed (s lo : Bool) (hD : okD D DA) (hc : cS false a b tp c na nl D DA D2 DA2 H rg pa x ac im R P tr w) (hm : mSu rd F wd mac mim c V PP QQ pl tr u) : bth sta (d + 9) 104 253 (.ref 0 :: [.int (bl s), .int (bl lo)]) (.ref 151 :: [.int (bl s), .int (bl lo)]) w u (cS false a b tp c na nl D DA D2 DA2 H rg pa x ac im R P) (mSu rd F wd mac mim c V PP QQ pl) :=
  ⟨_, _, up_o hc (fun sl => s_believed_u _ _ _ _ _ _ _ _), mu_o hm (by decide) (fun _ _ _ _ _ _ _ _ _ _ _ => s_Mbelieved_u _ _ _ _ _ _ _ _ _ _ _ _ _ _ _ _ _ _ _ _ _) rfl⟩
theorem n_wrong (lo : Bool) (hD : okD D DA) (hc : cS false a b tp c na nl D DA D2 DA2 H rg pa x ac im R P tr w) (hm : mSu rd F wd mac mim c V PP QQ pl tr u) : bth sta (d + 9) 105 254 (.ref 0 :: [.int (bl lo)]) (.ref 151 :: [.int (bl lo)]) w u (cS false a b tp c na nl D DA D2 DA2 H rg pa x ac im R P) (mSu rd F wd mac mim c V PP QQ pl) :=
  ⟨_, _, up_o hc (fun sl => s_wrong_u _ _ _ _ _ _ _), mu_o hm (by decide) (fun _ _ _ _ _ _ _ _ _ _ _ => s_Mwrong_u _ _ _ _ _ _ _ _ _ _ _ _ _ _ _ _ _ _ _ _) rfl⟩
theorem n_agent (y z m : Int32) (o : Bool) (hD : okD D DA) (hc : cS false a b tp c na nl D DA D2 DA2 H rg pa x ac im R P tr w) (hm : mSu rd F wd mac mim c V PP QQ pl tr u) : bth sta (d + 9) 106 258 (.ref 0 :: [.int y, .int z, .int m, .int (bl o)]) (.ref 151 :: [.int y, .int z, .int m, .int (bl o)]) w u (cS false a b tp c na nl D DA D2 DA2 H rg pa x ac im R P) (mSu rd F wd mac mim c V PP QQ pl) :=
  ⟨_, _, up_o hc (fun sl => s_agent_u _ _ _ _ _ _ _ _ _ _), mu_o hm (by decide) (fun _ _ _ _ _ _ _ _ _ _ _ => s_Magent_u _ _ _ _ _ _ _ _ _ _ _ _ _ _ _ _ _ _ _ _ _ _ _) rfl⟩
theorem n_spare (m : Int32) (o : Bool) (hD : okD D DA) (hc : cS false a b tp c na nl D DA D2 DA2 H rg pa x ac im R P tr w) (hm : mSu rd F wd mac mim c V PP QQ pl tr u) : bth sta (d + 9) 118 269 (.ref 0 :: [.int m, .int (bl o)]) (.ref 151 :: [.int m, .int (bl o)]) w u (cS false a b tp c na nl D DA D2 DA2 H rg pa x ac im R P) (mSu rd F wd mac mim c V PP QQ pl) :=
  ⟨_, _, up_o hc (fun sl => s_spare_u _ _ _ _ _ _ _ _), mu_o hm (by decide) (fun _ _ _ _ _ _ _ _ _ _ _ => s_Mspare_u _ _ _ _ _ _ _ _ _ _ _ _ _ _ _ _ _ _ _ _ _) rfl⟩
theorem n_lossIn (y z : Int32) (hD : okD D DA) (hc : cS false a b tp c na nl D DA D2 DA2 H rg pa x ac im R P tr w) (hm : mSu rd F wd mac mim c V PP QQ pl tr u) : bth sta (d + 9) 115 266 (.ref 0 :: [.int y, .int z]) (.ref 151 :: [.int y, .int z]) w u (cS false a b tp c na nl D DA D2 DA2 H rg pa x ac im R P) (mSu rd F wd mac mim c V PP QQ pl) :=
  ⟨_, _, up_o hc (fun sl => s_lossIn_u _ _ _ _ _ _ _ _), mu_o hm (by decide) (fun _ _ _ _ _ _ _ _ _ _ _ => s_MlossIn_u _ _ _ _ _ _ _ _ _ _ _ _ _ _ _ _ _ _ _ _ _) rfl⟩
theorem n_drafts (m y z : Int32) (hD : okD D DA) (hc : cS false a b tp c na nl D DA D2 DA2 H rg pa x ac im R P tr w) (hm : mSu rd F wd mac mim c V PP QQ pl tr u) : bth sta (d + 9) 112 264 (.ref 0 :: [.int m, .int y, .int z]) (.ref 151 :: [.int m, .int y, .int z]) w u (cS false a b tp c na nl D DA D2 DA2 H rg pa x ac im R P) (mSu rd F wd mac mim c V PP QQ pl) :=
  ⟨_, _, up_od hc (fun sl => s_drafts _ _ rfl _ _ _ rfl (s_countDraws_x _ _ _ _ _ _ _ _ _ _ _ (bl false) (hD.2.1) (rfl)) (fun v w h => ⟨_, h.1⟩)), mu_o hm (by decide) (fun _ _ _ _ _ _ _ _ _ _ _ => s_Mdrafts_u _ _ _ _ _ _ _ _ _ _ _ _ _ _ _ _ _ _ _ _ _ _) rfl⟩
theorem n_sentIn (m y z : Int32) (hD : okD D DA) (hc : cS false a b tp c na nl D DA D2 DA2 H rg pa x ac im R P tr w) (hm : mSu rd F wd mac mim c V PP QQ pl tr u) : bth sta (d + 9) 113 265 (.ref 0 :: [.int m, .int y, .int z]) (.ref 151 :: [.int m, .int y, .int z]) w u (cS false a b tp c na nl D DA D2 DA2 H rg pa x ac im R P) (mSu rd F wd mac mim c V PP QQ pl) :=
  ⟨_, _, up_od hc (fun sl => s_sentIn _ _ rfl _ _ _ rfl (s_countDraws_x _ _ _ _ _ _ _ _ _ _ _ (bl true) (hD.2.1) (rfl)) (fun v w h => ⟨_, h.1⟩) (fun w' hk => pb_all hk)), mu_o hm (by decide) (fun _ _ _ _ _ _ _ _ _ _ _ => s_MsentIn_u _ _ _ _ _ _ _ _ _ _ _ _ _ _ _ _ _ _ _ _ _ _) rfl⟩
theorem n_undo (h0 : ac = 0) (hc : cS false a b tp c na nl D DA D2 DA2 H rg pa x ac im R P tr w) (hm : mSu rd F wd mac mim c V PP QQ pl tr u) : bth sta (d + 9) 125 276 (.ref 0 :: []) (.ref 151 :: []) w u (cS false a b tp c na nl D DA D2 DA2 H rg pa x ac im R P) (mSu rd F wd mac mim c V PP QQ pl) := by
  subst h0
  exact ⟨_, _, up_ok hc (fun sl => s_undo_6 _ _ _ _ _ _ _ _ _), mu_o hm (by decide) (fun _ _ _ _ _ _ _ _ _ _ _ => s_Mundo_u _ _ _ _ _ _ _ _ _ _ _ _ _ _ _ _ _ _ _) rfl⟩
theorem n_back (y : Int32) (h0 : im = 0) (hc : cS false a b tp c na nl D DA D2 DA2 H rg pa x ac im R P tr w) (hm : mSu rd F wd mac mim c V PP QQ pl tr u) : bth sta (d + 9) 127 278 (.ref 0 :: [.int y]) (.ref 151 :: [.int y]) w u (cS false a b tp c na nl D DA D2 DA2 H rg pa x ac im R P) (mSu rd F wd mac mim c V PP QQ pl) := by
  subst h0
  exact ⟨_, _, up_ok hc (fun sl => s_back_1 _ _ _ _ _ _ _ _ _ (0) _ (by decide) (inR_0)), mu_o hm (by decide) (fun _ _ _ _ _ _ _ _ _ _ _ => s_Mback_u _ _ _ _ _ _ _ _ _ _ _ _ _ _ _ _ _ _ _ _) rfl⟩
end Bs
