/-! one step of both: the acts -/
theorem nI_one {k : Nat} (hk : k < 4) : nI k = 1 ↔ k = 1 := nI_eq (b := 1) (by omega) (by decide)
theorem irel_image {Bd : Nat} {D : Nat → Nat} {DA MA : Nat → Nat → Nat} {im : Nat} {P : Nat → HN} {QQ : Nat → Int32} {H : HN} {V : Nat → Int32} (h : irel Bd D DA MA im P QQ) (hi : im < 3) (hn : D 1 ≤ 6) (h4 : nrel Bd D DA MA H V) : irel Bd D DA MA (im + 1) (va_up P im H) (cpS (28 * im) 28 V QQ) := by
  refine ⟨by omega, fun i hi2 => ?_⟩
  by_cases e : i = im
  · subst e
    rw [va_up, if_pos rfl]
    refine nrel_V h4 hn (fun k hk => ?_)
    show cpS (28 * i) 28 V QQ (28 * i + k) = V k
    unfold cpS
    rw [if_pos (by omega), show 28 * i + k - 28 * i = k by omega]
  · rw [va_up, if_neg e]
    refine nrel_V (h.2 i (by omega)) hn (fun k hk => ?_)
    show cpS (28 * im) 28 V QQ (28 * i + k) = QQ (28 * i + k)
    unfold cpS
    rw [if_neg (by omega)]
section Sa0
variable {sta : mj_S} {d Bd i1 i2 : Nat} {as1 as2 : List Value} {a b L : Nat} {fa pl en at_ be ki td va : Int32} {c na nl : Nat → Nat} {D : Nat → Nat} {DA : Nat → Nat → Nat} {D2 : Nat → Nat} {DA2 : Nat → Nat → Nat} {H : HN} {rg pa : Nat → Option Nat} {x ac im : Nat} {R P : Nat → HN} {rd : Option Nat} {F : Nat → Int32} {wd : Int64} {mac mim : Int32} {V PP QQ : Nat → Int32} {q : Nat} {MA : Nat → Nat → Nat} {nm : Nat → Nat} {tr : Int32} {w u : mj_W}
theorem sjp_n {v : Value} {t : Int32} (s1 : mj_Sx sta d i1 as1 w (fun v' w' => v' = some v ∧ cS true a b (tpg (nI L) fa pl en at_ be ki td va) c na nl D DA D2 DA2 H rg pa x ac im R P t w')) (s2 : mj_Sx sta d i2 as2 u (fun v' u' => v' = some v ∧ mSd rd F wd (nI ac) (nI im) c V PP QQ q D (hiI D) (erI D) (seI D) MA nm pl t u')) (h3 : drel sta D DA MA) (h4 : nrel (Bd + 1) D DA MA H V) (h5 : hrel (Bd + 1) D DA MA x ac R PP) (h6 : irel (Bd + 1) D DA MA im P QQ) (h7 : trel L c fa F) (h8 : okD D2 DA2) (h9 : okK rg pa) : sjp sta d i1 i2 as1 as2 w u Bd :=
  ⟨v, _, _, s1, s2, fun w' u' k1 k2 => ⟨t, Or.inl ⟨a, b, L, fa, pl, en, at_, be, ki, td, va, c, na, nl, D, DA, D2, DA2, H, rg, pa, x, ac, im, R, P, rd, F, wd, V, PP, QQ, q, MA, nm, k1, k2, h3, h4, h5, h6, h7, h8, h9⟩⟩⟩
theorem sjp_v {v : Value} {t : Int32} (s1 : mj_Sx sta d i1 as1 w (fun v' w' => v' = some v ∧ cS false a b (tpg (nI L) fa pl en at_ be ki td va) c na nl D DA D2 DA2 H rg pa x 0 0 R P t w')) (s2 : mj_Sx sta d i2 as2 u (fun v' u' => v' = some v ∧ mSu rd F wd mac mim c V PP QQ pl t u')) (h3 : stF sta) (h4 : okD D DA) (h5 : okD D2 DA2) (h6 : okK rg pa) (h7 : x < 16) (h8 : okN H.1 H.2.1 H.2.2) (h9 : trel L c fa F) : sjp sta d i1 i2 as1 as2 w u Bd :=
  ⟨v, _, _, s1, s2, fun w' u' k1 k2 => ⟨t, Or.inr ⟨a, b, L, fa, pl, en, at_, be, ki, td, va, c, na, nl, D, DA, D2, DA2, H, rg, pa, x, R, P, rd, F, wd, mac, mim, V, PP, QQ, k1, k2, h3, h4, h5, h6, h7, h8, h9⟩⟩⟩
theorem trel_feed (h : trel L c fa F) (hL : L + 20 ≤ 800) (y1 y2 y3 y4 y5 : Int32) : trel (L + 20) (put20 c L y1 y2 y3 y4 y5) fa (va_up F 6 (nI (L + 20))) := ⟨hL, put20_bd h.2.1, if_pos rfl, h.2.2.2⟩
end Sa0
section Sa
variable {sta : mj_S} {d Bd : Nat} {tr : Int32} {w u : mj_W}
theorem J_marry (m : Int32) (hJ : J sta Bd tr w u) : sjp sta (d + 9) 117 268 (.ref 0 :: [.int m]) (.ref 151 :: [.int m]) w u Bd := by
  rcases hJ with ⟨a, b, L, fa, pl, en, at_, be, ki, td, va, c, na, nl, D, DA, D2, DA2, H, rg, pa, x, ac, im, R, P, rd, F, wd, V, PP, QQ, q, MA, nm, h1, h2, h3, h4, h5, h6, h7, h8, h9⟩ | ⟨a, b, L, fa, pl, en, at_, be, ki, td, va, c, na, nl, D, DA, D2, DA2, H, rg, pa, x, R, P, rd, F, wd, mac, mim, V, PP, QQ, h1, h2, h3, h4, h5, h6, h7, h8, h9⟩
  · have h4b := h4
    obtain ⟨hN, SN, C, FR, ⟨v25, vS, vC⟩, hG, hag, v24, v26, v27, vB, v12, v18, vF, vF1, vF2, vI⟩ := h4b
    have hD := h3.2.1
    have hn := hD.2.1
    by_cases hk0 : inR (D 1) m = true
    · obtain ⟨k, hk, -, rfl⟩ := inR_at hk0
      have hVk : V k = nI (H.2.1 0 k) := by rw [vS k (by omega), (hag k hk).1]
      have h4k := hN.2.2.2.1 k
      by_cases he : H.2.1 0 k = 1
      · exact sjp_q h3 h4 h5 h6 h7 h8 h9 ⟨_, _, up_odn h1 (fun sl => s_marry_5 _ _ _ _ _ _ _ _ _ (hk) (he) (hn)), mp_odv h2 (by decide) (fun _ _ _ _ _ _ _ _ _ _ _ => s_Mmarry_5 _ _ _ _ _ _ _ _ _ _ _ _ _ _ _ _ _ _ _ _ _ _ _ _ _ _ (hk) (hn) (by rw [hVk, he]; rfl)) (rfl)⟩
      · exact sjp_n (up_wacC h1 (fun sl kn fi => s_marry _ _ _ _ _ _ _ _ _ _ _ _ _ _ _ _ _ _ _ (hk) (he) (hD) (hN) (h5.1) (h5.2.1) (h9))) (ma_odvp h2 (fun _ _ _ _ _ _ _ _ _ _ _ => s_Mmarry _ _ _ _ _ _ _ _ _ _ _ _ _ _ _ _ _ _ _ _ _ _ _ _ _ (ac) _ (h5.2.1) (hk) (hn) (fun z => he ((nI_one h4k).mp (hVk.symm.trans z)))) rfl) h3 (nrel_B (nrel_marry h4 hn hk) (Nat.le_succ Bd)) (hrel_B (hrel_keep h5 hn h4) (Nat.le_succ Bd)) (irel_B (h6) (Nat.le_succ Bd)) h7 h8 h9
    · have hk := eq_false_of_ne_true hk0
      exact sjp_q h3 h4 h5 h6 h7 h8 h9 ⟨_, _, up_od h1 (fun sl => s_marry_x _ _ _ _ _ _ _ _ _ (hn) (by rw [hk]; rfl)), mp_od h2 (by decide) (fun _ _ _ _ _ _ _ _ _ _ _ => s_Mmarry_x _ _ _ _ _ _ _ _ _ _ _ _ _ _ _ _ _ _ _ _ _ _ _ _ _ (hn) (hk)) (rfl)⟩
  · exact sjp_u h3 h4 h5 h6 h7 h8 h9 (n_marry m h4 h1 h2)
theorem J_spare (m : Int32) (o : Bool) (hJ : J sta Bd tr w u) : sjp sta (d + 9) 118 269 (.ref 0 :: [.int m, .int (bl o)]) (.ref 151 :: [.int m, .int (bl o)]) w u Bd := by
  rcases hJ with ⟨a, b, L, fa, pl, en, at_, be, ki, td, va, c, na, nl, D, DA, D2, DA2, H, rg, pa, x, ac, im, R, P, rd, F, wd, V, PP, QQ, q, MA, nm, h1, h2, h3, h4, h5, h6, h7, h8, h9⟩ | ⟨a, b, L, fa, pl, en, at_, be, ki, td, va, c, na, nl, D, DA, D2, DA2, H, rg, pa, x, R, P, rd, F, wd, mac, mim, V, PP, QQ, h1, h2, h3, h4, h5, h6, h7, h8, h9⟩
  · have h4b := h4
    obtain ⟨hN, SN, C, FR, ⟨v25, vS, vC⟩, hG, hag, v24, v26, v27, vB, v12, v18, vF, vF1, vF2, vI⟩ := h4b
    have hD := h3.2.1
    have hn := hD.2.1
    by_cases hk0 : inR 4 m = true
    · obtain ⟨k, hk, -, rfl⟩ := inR_at hk0
      by_cases he : (H.1 0).testBit k = o
      · exact sjp_q h3 h4 h5 h6 h7 h8 h9 ⟨_, _, up_on h1 (fun sl => s_spare_5 _ _ _ _ _ _ _ _ _ (hk) (he) (hN.1)), mp_ov h2 (by decide) (fun _ _ _ _ _ _ _ _ _ _ _ => s_Mspare_5 _ _ _ _ _ _ _ _ _ _ _ _ _ _ _ _ _ _ _ _ _ _ _ _ (hk) (v25) (hN.1) (he)) (rfl)⟩
      · exact sjp_n (up_wacC h1 (fun sl kn fi => s_spare _ _ _ _ _ _ _ _ _ _ _ _ _ _ _ _ _ _ _ _ (hk) (he) (hN) (h5.1) (h5.2.1) (h9))) (ma_ovp h2 (fun _ _ _ _ _ _ _ _ _ _ _ => s_Mspare _ _ _ _ _ _ _ _ _ _ _ _ _ _ _ _ _ _ _ _ _ (ac) _ _ _ (h5.2.1) (hk) (v25) (hN.1) (he)) rfl) h3 (nrel_B (nrel_spare h4 hk) (Nat.le_succ Bd)) (hrel_B (hrel_keep h5 hn h4) (Nat.le_succ Bd)) (irel_B (h6) (Nat.le_succ Bd)) h7 h8 h9
    · have hk := eq_false_of_ne_true hk0
      exact sjp_q h3 h4 h5 h6 h7 h8 h9 ⟨_, _, up_o h1 (fun sl => s_spare_2 _ _ _ _ _ _ _ _ (hk)), mp_o h2 (by decide) (fun _ _ _ _ _ _ _ _ _ _ _ => s_Mspare_2 _ _ _ _ _ _ _ _ _ _ _ _ _ _ _ _ _ _ _ _ _ _ (hk)) (rfl)⟩
  · exact sjp_u h3 h4 h5 h6 h7 h8 h9 (n_spare m o h4 h1 h2)
theorem J_desert (m : Int32) (hJ : J sta Bd tr w u) : sjp sta (d + 9) 120 271 (.ref 0 :: [.int m]) (.ref 151 :: [.int m]) w u Bd := by
  rcases hJ with ⟨a, b, L, fa, pl, en, at_, be, ki, td, va, c, na, nl, D, DA, D2, DA2, H, rg, pa, x, ac, im, R, P, rd, F, wd, V, PP, QQ, q, MA, nm, h1, h2, h3, h4, h5, h6, h7, h8, h9⟩ | ⟨a, b, L, fa, pl, en, at_, be, ki, td, va, c, na, nl, D, DA, D2, DA2, H, rg, pa, x, R, P, rd, F, wd, mac, mim, V, PP, QQ, h1, h2, h3, h4, h5, h6, h7, h8, h9⟩
  · have h4b := h4
    obtain ⟨hN, SN, C, FR, ⟨v25, vS, vC⟩, hG, hag, v24, v26, v27, vB, v12, v18, vF, vF1, vF2, vI⟩ := h4b
    have hD := h3.2.1
    have hn := hD.2.1
    by_cases hk0 : inR (D 1) m = true
    · obtain ⟨k, hk, -, rfl⟩ := inR_at hk0
      have hVk : V (18 + k) = snd (sdr H.2.2 k (D 1) 0) := by rw [v18 k (by omega), vF1 k hk]
      cases hq : sdr H.2.2 k (D 1) 0 with
      | none =>
        exact sjp_q h3 h4 h5 h6 h7 h8 h9 ⟨_, _, up_odn h1 (fun sl => s_desert_5 _ _ _ _ _ _ _ _ _ (hk) (hq) (hn) (hN.2.2.2.2.2.2)), mp_odv h2 (by decide) (fun _ _ _ _ _ _ _ _ _ _ _ => s_Mdesert_5 _ _ _ _ _ _ _ _ _ _ _ _ _ _ _ _ _ _ _ _ _ _ _ _ _ _ (hk) (hn) (by rw [hVk, hq]; rfl)) (rfl)⟩
      | some z =>
        have hz : z < 6 := vF k z (by rw [vF1 k hk, hq])
        exact sjp_n (up_wacK (H' := (H.1, H.2.1, va_up H.2.2 z none)) h1 rfl rfl rfl (fun sl kn fi => s_desert _ _ _ _ _ _ _ _ _ _ _ _ _ _ _ _ _ _ _ _ (hk) (hq) (hD) (hN) (h5.1) (h5.2.1) (h9))) (ma_odvp h2 (fun _ _ _ _ _ _ _ _ _ _ _ => s_Mdesert _ _ _ _ _ _ _ _ _ _ _ _ _ _ _ _ _ _ _ _ _ _ _ _ _ (ac) _ _ (h5.2.1) (hk) (hn) (by rw [hVk, hq]; rfl) (hz)) rfl) h3 (nrel_B (nrel_desert h4 hk hq) (Nat.le_succ Bd)) (hrel_B (hrel_keep h5 hn h4) (Nat.le_succ Bd)) (irel_B (h6) (Nat.le_succ Bd)) h7 h8 h9
    · have hk := eq_false_of_ne_true hk0
      exact sjp_q h3 h4 h5 h6 h7 h8 h9 ⟨_, _, up_od h1 (fun sl => s_desert_x _ _ _ _ _ _ _ _ _ (hn) (by rw [hk]; rfl)), mp_od h2 (by decide) (fun _ _ _ _ _ _ _ _ _ _ _ => s_Mdesert_x _ _ _ _ _ _ _ _ _ _ _ _ _ _ _ _ _ _ _ _ _ _ _ _ _ (hn) (hk)) (rfl)⟩
  · exact sjp_u h3 h4 h5 h6 h7 h8 h9 (n_desert m h4 h1 h2)
theorem J_seed (m : Int32) (hJ : J sta Bd tr w u) : sjp sta (d + 9) 124 275 (.ref 0 :: [.int m]) (.ref 151 :: [.int m]) w u Bd := by
  rcases hJ with ⟨a, b, L, fa, pl, en, at_, be, ki, td, va, c, na, nl, D, DA, D2, DA2, H, rg, pa, x, ac, im, R, P, rd, F, wd, V, PP, QQ, q, MA, nm, h1, h2, h3, h4, h5, h6, h7, h8, h9⟩ | ⟨a, b, L, fa, pl, en, at_, be, ki, td, va, c, na, nl, D, DA, D2, DA2, H, rg, pa, x, R, P, rd, F, wd, mac, mim, V, PP, QQ, h1, h2, h3, h4, h5, h6, h7, h8, h9⟩
  · have h4b := h4
    obtain ⟨hN, SN, C, FR, ⟨v25, vS, vC⟩, hG, hag, v24, v26, v27, vB, v12, v18, vF, vF1, vF2, vI⟩ := h4b
    have hD := h3.2.1
    have hn := hD.2.1
    by_cases hk0 : inR 65537 m = true
    · obtain ⟨k, hk, -, rfl⟩ := inR_at hk0
      exact sjp_n (up_seed (H' := (va_up H.1 1 k, H.2.1, H.2.2)) h1 rfl rfl rfl (fun sl => s_seed _ _ _ _ _ _ _ _ (hk))) (ma_odv h2 (fun _ _ _ _ _ _ _ _ _ _ _ => s_Mseed _ _ _ _ _ _ _ _ _ _ _ _ _ _ _ _ _ _ _ _ _ _ _ _ _ _ (hk)) rfl) h3 (nrel_B (nrel_seed h4 hk) (Nat.le_succ Bd)) (hrel_B (h5) (Nat.le_succ Bd)) (irel_B (h6) (Nat.le_succ Bd)) h7 h8 h9
    · have hk := eq_false_of_ne_true hk0
      exact sjp_q h3 h4 h5 h6 h7 h8 h9 ⟨_, _, up_o h1 (fun sl => s_seed_2 _ _ _ _ _ _ _ (hk)), mp_o h2 (by decide) (fun _ _ _ _ _ _ _ _ _ _ _ => s_Mseed_2 _ _ _ _ _ _ _ _ _ _ _ _ _ _ _ _ _ _ _ _ _ (hk)) (rfl)⟩
  · exact sjp_u h3 h4 h5 h6 h7 h8 h9 (n_seed m h4 h1 h2)
theorem J_undo  (hJ : J sta Bd tr w u) : sjp sta (d + 9) 125 276 (.ref 0 :: []) (.ref 151 :: []) w u Bd := by
  rcases hJ with ⟨a, b, L, fa, pl, en, at_, be, ki, td, va, c, na, nl, D, DA, D2, DA2, H, rg, pa, x, ac, im, R, P, rd, F, wd, V, PP, QQ, q, MA, nm, h1, h2, h3, h4, h5, h6, h7, h8, h9⟩ | ⟨a, b, L, fa, pl, en, at_, be, ki, td, va, c, na, nl, D, DA, D2, DA2, H, rg, pa, x, R, P, rd, F, wd, mac, mim, V, PP, QQ, h1, h2, h3, h4, h5, h6, h7, h8, h9⟩
  · have h4b := h4
    obtain ⟨hN, SN, C, FR, ⟨v25, vS, vC⟩, hG, hag, v24, v26, v27, vB, v12, v18, vF, vF1, vF2, vI⟩ := h4b
    have hD := h3.2.1
    have hn := hD.2.1
    cases ac with
    | zero =>
      exact sjp_q h3 h4 h5 h6 h7 h8 h9 ⟨_, _, up_ok h1 (fun sl => s_undo_6 _ _ _ _ _ _ _ _ _), mp_o h2 (by decide) (fun _ _ _ _ _ _ _ _ _ _ _ => s_Mundo_6 _ _ _ _ _ _ _ _ _ _ _ _ _ _ _ _ _ _ _) (rfl)⟩
    | succ z =>
      have hz : z < 16 := h5.2.1
      have hh := h5.2.2 z (Nat.lt_succ_self z)
      rw [show (x + 16 - (z + 1) + z) % 16 = (x + 15) % 16 by omega] at hh
      exact sjp_n (up_wacC h1 (fun sl kn fi => s_undo _ _ _ _ _ _ _ _ _ _ _ _ _ _ _ _ _ _ (true) (h5.1) (hz) (h9))) (ma_ovp h2 (fun _ _ _ _ _ _ _ _ _ _ _ => s_Mundo _ _ _ _ _ _ _ _ _ _ _ _ _ _ _ _ _ _ _ _ _ _ (hz)) rfl) h3 (nrel_B (nrel_V hh hn (fun k hk => if_pos hk)) (Nat.le_succ Bd)) (hrel_B ((⟨by omega, by omega, fun i hi => by
        have hi2 := h5.2.2 i (by omega)
        rw [show ((x + 15) % 16 + 16 - z + i) % 16 = (x + 16 - (z + 1) + i) % 16 by have := h5.1; omega]
        exact hi2⟩ : hrel Bd D DA MA ((x + 15) % 16) z R PP)) (Nat.le_succ Bd)) (irel_B (h6) (Nat.le_succ Bd)) h7 h8 h9
  · exact sjp_u h3 h4 h5 h6 h7 h8 h9 (n_undo rfl h1 h2)
theorem J_image  (hJ : J sta Bd tr w u) : sjp sta (d + 9) 126 277 (.ref 0 :: []) (.ref 151 :: []) w u Bd := by
  rcases hJ with ⟨a, b, L, fa, pl, en, at_, be, ki, td, va, c, na, nl, D, DA, D2, DA2, H, rg, pa, x, ac, im, R, P, rd, F, wd, V, PP, QQ, q, MA, nm, h1, h2, h3, h4, h5, h6, h7, h8, h9⟩ | ⟨a, b, L, fa, pl, en, at_, be, ki, td, va, c, na, nl, D, DA, D2, DA2, H, rg, pa, x, R, P, rd, F, wd, mac, mim, V, PP, QQ, h1, h2, h3, h4, h5, h6, h7, h8, h9⟩
  · have h4b := h4
    obtain ⟨hN, SN, C, FR, ⟨v25, vS, vC⟩, hG, hag, v24, v26, v27, vB, v12, v18, vF, vF1, vF2, vI⟩ := h4b
    have hD := h3.2.1
    have hn := hD.2.1
    by_cases hi : im < 3
    · exact sjp_n (up_wacK h1 rfl rfl rfl (fun sl kn fi => s_image _ _ _ _ _ _ _ _ _ _ _ _ _ _ _ _ _ _ (hi) (h9))) (ma_ovq h2 (fun _ _ _ _ _ _ _ _ _ _ _ => s_Mimage _ _ _ _ _ _ _ _ _ _ _ _ _ _ _ _ _ _ _ _ _ _ (hi)) rfl) h3 (nrel_B (h4) (Nat.le_succ Bd)) (hrel_B (h5) (Nat.le_succ Bd)) (irel_B (irel_image h6 hi hn h4) (Nat.le_succ Bd)) h7 h8 h9
    · have hi : im = 3 := by have := h6.1; omega
      subst hi
      exact sjp_q h3 h4 h5 h6 h7 h8 h9 ⟨_, _, up_ok h1 (fun sl => s_image_3 _ _ _ _ _ _ _ _), mp_o h2 (by decide) (fun _ _ _ _ _ _ _ _ _ _ _ => s_Mimage_3 _ _ _ _ _ _ _ _ _ _ _ _ _ _ _ _ _ _ _) (rfl)⟩
  · exact sjp_u h3 h4 h5 h6 h7 h8 h9 (n_image  h4 h1 h2)
theorem J_back (y : Int32) (hJ : J sta Bd tr w u) : sjp sta (d + 9) 127 278 (.ref 0 :: [.int y]) (.ref 151 :: [.int y]) w u Bd := by
  rcases hJ with ⟨a, b, L, fa, pl, en, at_, be, ki, td, va, c, na, nl, D, DA, D2, DA2, H, rg, pa, x, ac, im, R, P, rd, F, wd, V, PP, QQ, q, MA, nm, h1, h2, h3, h4, h5, h6, h7, h8, h9⟩ | ⟨a, b, L, fa, pl, en, at_, be, ki, td, va, c, na, nl, D, DA, D2, DA2, H, rg, pa, x, R, P, rd, F, wd, mac, mim, V, PP, QQ, h1, h2, h3, h4, h5, h6, h7, h8, h9⟩
  · have h4b := h4
    obtain ⟨hN, SN, C, FR, ⟨v25, vS, vC⟩, hG, hag, v24, v26, v27, vB, v12, v18, vF, vF1, vF2, vI⟩ := h4b
    have hD := h3.2.1
    have hn := hD.2.1
    by_cases hk0 : inR im y = true
    · obtain ⟨k, hk, -, rfl⟩ := inR_at hk0
      exact sjp_n (up_wacC h1 (fun sl kn fi => s_back _ _ _ _ _ _ _ _ _ _ _ _ _ _ _ _ _ _ (true) _ (hk) (h6.1) (h9))) (ma_ovq h2 (fun _ _ _ _ _ _ _ _ _ _ _ => s_Mback _ _ _ _ _ _ _ _ _ _ _ _ _ _ _ _ _ _ _ _ _ _ _ (hk) (h6.1)) rfl) h3 (nrel_B (nrel_V (h6.2 k hk) hn (fun j hj => if_pos hj)) (Nat.le_succ Bd)) (hrel_B ((⟨h5.1, by omega, fun i hi => absurd hi (by omega)⟩ : hrel Bd D DA MA x 0 R PP)) (Nat.le_succ Bd)) (irel_B (h6) (Nat.le_succ Bd)) h7 h8 h9
    · have hk := eq_false_of_ne_true hk0
      exact sjp_q h3 h4 h5 h6 h7 h8 h9 ⟨_, _, up_ok h1 (fun sl => s_back_1 _ _ _ _ _ _ _ _ _ (im) _ (h6.1) (hk)), mp_o h2 (by decide) (fun _ _ _ _ _ _ _ _ _ _ _ => s_Mback_1 _ _ _ _ _ _ _ _ _ _ _ _ _ _ _ _ _ _ _ _ _ (h6.1) (hk)) (rfl)⟩
  · exact sjp_u h3 h4 h5 h6 h7 h8 h9 (n_back y rfl h1 h2)
theorem J_feed (y1 y2 y3 y4 y5 : Int32) (hJ : J sta Bd tr w u) : sjp sta (d + 9) 68 194 (.ref 0 :: [.int y1, .int y2, .int y3, .int y4, .int y5]) (.ref 151 :: [.int y1, .int y2, .int y3, .int y4, .int y5]) w u Bd := by
  rcases hJ with ⟨a, b, L, fa, pl, en, at_, be, ki, td, va, c, na, nl, D, DA, D2, DA2, H, rg, pa, x, ac, im, R, P, rd, F, wd, V, PP, QQ, q, MA, nm, h1, h2, h3, h4, h5, h6, h7, h8, h9⟩ | ⟨a, b, L, fa, pl, en, at_, be, ki, td, va, c, na, nl, D, DA, D2, DA2, H, rg, pa, x, R, P, rd, F, wd, mac, mim, V, PP, QQ, h1, h2, h3, h4, h5, h6, h7, h8, h9⟩
  · by_cases hL : L + 20 ≤ 800
    · exact sjp_n (up_feed h1 (fun sl => s_feed _ _ _ _ _ _ _ _ _ _ _ _ _ _ _ _ _ _ _ _ _ _ (hL))) (ma_feed h2 (fun _ _ _ _ _ _ _ _ _ _ _ => s_Mfeed _ _ _ _ _ _ _ _ _ _ _ _ _ _ _ _ _ _ _ _ _ _ _ _ _ _ _ (h7.2.2.1) (hL)) rfl) h3 (nrel_B (h4) (Nat.le_succ Bd)) (hrel_B (h5) (Nat.le_succ Bd)) (irel_B (h6) (Nat.le_succ Bd)) (trel_feed h7 hL y1 y2 y3 y4 y5) h8 h9
    · exact sjp_q h3 h4 h5 h6 h7 h8 h9 ⟨_, _, up_ot h1 (fun sl => s_feed_0 _ _ _ _ _ _ _ _ _ _ _ _ _ _ _ _ _ _ _ _ _ (h7.1) (hL)), mk_o h2 (fun _ _ _ _ _ _ _ _ _ _ _ => s_Mfeed_0 _ _ _ _ _ _ _ _ _ _ _ _ _ _ _ _ _ _ _ _ _ _ _ _ _ _ (h7.2.2.1) (h7.1) (hL)) rfl⟩
  · by_cases hL : L + 20 ≤ 800
    · exact sjp_v (up_feed h1 (fun sl => s_feed _ _ _ _ _ _ _ _ _ _ _ _ _ _ _ _ _ _ _ _ _ _ (hL))) (mb_feed h2 (fun _ _ _ _ _ _ _ _ _ _ _ => s_Mfeed _ _ _ _ _ _ _ _ _ _ _ _ _ _ _ _ _ _ _ _ _ _ _ _ _ _ _ (h9.2.2.1) (hL)) rfl) h3 h4 h5 h6 h7 h8 (trel_feed h9 hL y1 y2 y3 y4 y5)
    · exact sjp_u h3 h4 h5 h6 h7 h8 h9 ⟨_, _, up_ot h1 (fun sl => s_feed_0 _ _ _ _ _ _ _ _ _ _ _ _ _ _ _ _ _ _ _ _ _ (h9.1) (hL)), mq_o h2 (fun _ _ _ _ _ _ _ _ _ _ _ => s_Mfeed_0 _ _ _ _ _ _ _ _ _ _ _ _ _ _ _ _ _ _ _ _ _ _ _ _ _ _ (h9.2.2.1) (h9.1) (hL)) rfl⟩
end Sa
