/-! one step of both: hold -/
theorem cpy_le {C A : Nat → Nat} {g : Nat → Option Nat} {m : Nat} : cpy C A g m ≤ C m := by
  unfold cpy
  split <;> omega
theorem mix_gI {n T T' : Nat} {g G : Nat → Option Nat} (h : gI n T g) (hG : gI n T' G) : mix n g G = G := by
  funext m
  unfold mix
  by_cases e : m < n
  · rw [if_pos e]
  · rw [if_neg e]
    cases h1 : g m with
    | some z => exact absurd (h.1 m z h1).1 e
    | none =>
      cases h2 : G m with
      | none => rfl
      | some z => exact absurd (hG.1 m z h2).1 e
section Nh
variable {Bd : Nat} {D : Nat → Nat} {DA MA : Nat → Nat → Nat} {H : HN} {V : Nat → Int32} {SN C : Nat → Nat} {FR : Nat → Option Nat}
theorem nrel_hold (hN : okN H.1 H.2.1 H.2.2) (hV : vN V (H.1 0) SN C) (hG : okG D MA SN C (H.1 0)) (hag : agM (D 1) DA MA (H.2.1 0) SN (H.2.1 1) C) (hv : hyv Bd (D 1) H V FR) (r' : Nat → Nat) (hr' : bd 6 r') (hrr : ∀ i, i < D 1 → r' i = (dR (D 1) (H.1 1)) i) : nrel (Bd + 1) D DA MA (hld (D 1) (qT D DA (H.1 0) (H.2.1 0) (dR (D 1) (H.1 1))) (dS (D 1) (H.1 1)) r' (cpy (H.2.1 1) (DA 3) (qG D DA (H.1 0) (H.2.1 0) (H.2.1 1) (dR (D 1) (H.1 1)))) (qG D DA (H.1 0) (H.2.1 0) (H.2.1 1) (dR (D 1) (H.1 1))) H) (hVe (D 1) V (dR (D 1) (H.1 1)) (cpy C (MA 3) (qG D MA (H.1 0) SN C (dR (D 1) (H.1 1)))) (fun m => sdr (qG D MA (H.1 0) SN C (dR (D 1) (H.1 1))) m (D 1) 0) (qT D MA (H.1 0) SN (dR (D 1) (H.1 1))) (dS (D 1) (H.1 1))) := by
  obtain ⟨n1, n2, n3, n4, n5, n6, n7⟩ := hN
  obtain ⟨a1, a2, a3⟩ := hV
  obtain ⟨g1, g2, g3, g4, g5, g6, g7, g8, g9⟩ := hG
  obtain ⟨b1, b2, b3, b4, b5, b6, b7, b8, b9, b10⟩ := hv
  have hp : prm (D 1) (dR (D 1) (H.1 1)) := dR_prm
  obtain ⟨q1, q2, q3⟩ := q_cg (D := D) hag (lw := H.1 0) (r := (dR (D 1) (H.1 1))) hp.1
  have hI : gI (D 1) (qT D DA (H.1 0) (H.2.1 0) (dR (D 1) (H.1 1))) (qG D DA (H.1 0) (H.2.1 0) (H.2.1 1) (dR (D 1) (H.1 1))) := qG_gI hp
  have hmx : mix (D 1) H.2.2 (qG D DA (H.1 0) (H.2.1 0) (H.2.1 1) (dR (D 1) (H.1 1))) = (qG D DA (H.1 0) (H.2.1 0) (H.2.1 1) (dR (D 1) (H.1 1))) := mix_gI b10 hI
  have hT : (qT D DA (H.1 0) (H.2.1 0) (dR (D 1) (H.1 1))) < 64 := cms_lt' g1 hp (D 1) (Nat.le_refl _)
  have hs : dS (D 1) (H.1 1) < 65537 := drw_s _ _ _ (by omega)
  rw [← q1, ← q2]
  have hgk : gok (qG D DA (H.1 0) (H.2.1 0) (H.2.1 1) (dR (D 1) (H.1 1))) := fun m z e => by have := (hI.1 m z e).2.1; omega
  have e3 : ∀ y, y < 28 → y ≠ 24 → y ≠ 26 → y ≠ 27 → hVe (D 1) V (dR (D 1) (H.1 1)) (cpy C (MA 3) (qG D DA (H.1 0) (H.2.1 0) (H.2.1 1) (dR (D 1) (H.1 1)))) (fun m => sdr (qG D DA (H.1 0) (H.2.1 0) (H.2.1 1) (dR (D 1) (H.1 1))) m (D 1) 0) (qT D DA (H.1 0) (H.2.1 0) (dR (D 1) (H.1 1))) (dS (D 1) (H.1 1)) y = hVm V (dR (D 1) (H.1 1)) (cpy C (MA 3) (qG D DA (H.1 0) (H.2.1 0) (H.2.1 1) (dR (D 1) (H.1 1)))) (fun m => sdr (qG D DA (H.1 0) (H.2.1 0) (H.2.1 1) (dR (D 1) (H.1 1))) m (D 1) 0) (D 1) y := by
    intro y hy h24 h26 h27
    unfold hVe upd
    rw [if_neg h26, if_neg h27, if_neg h24]
  have e4 : ∀ y, (∀ i, i < D 1 → y ≠ 12 + i ∧ y ≠ 18 + i ∧ y ≠ 6 + i) → hVm V (dR (D 1) (H.1 1)) (cpy C (MA 3) (qG D DA (H.1 0) (H.2.1 0) (H.2.1 1) (dR (D 1) (H.1 1)))) (fun m => sdr (qG D DA (H.1 0) (H.2.1 0) (H.2.1 1) (dR (D 1) (H.1 1))) m (D 1) 0) (D 1) y = V y := by
    intro y hy
    unfold hVm
    rw [if_neg (fun z => (hy (y - 12) (by omega)).1 (by omega)), if_neg (fun z => (hy (y - 18) (by omega)).2.1 (by omega)), if_neg (fun z => (hy (y - 6) (by omega)).2.2 (by omega))]
  unfold hld
  rw [hmx]
  refine ⟨⟨n1, show dS (D 1) (H.1 1) ≤ 65536 by omega, hT, n4, ?_, ?_, hgk⟩, SN, mix (D 1) C (cpy C (MA 3) (qG D DA (H.1 0) (H.2.1 0) (H.2.1 1) (dR (D 1) (H.1 1)))), fun m => if m < D 1 then sdr (qG D DA (H.1 0) (H.2.1 0) (H.2.1 1) (dR (D 1) (H.1 1))) m (D 1) 0 else none, ⟨?_, ?_, ?_⟩, ⟨g1, g2, g3, g4, g5, g6, g7, g8, ?_⟩, ?_, ?_, ?_, ?_, show H.1 2 + 1 ≤ Bd + 1 by omega, ?_, ?_, ?_, ?_, ?_, hI⟩
  · intro i
    show mix (D 1) (H.2.1 1) (cpy (H.2.1 1) (DA 3) (qG D DA (H.1 0) (H.2.1 0) (H.2.1 1) (dR (D 1) (H.1 1)))) i < 201
    have := n5 i
    have := cpy_le (C := H.2.1 1) (A := DA 3) (g := (qG D DA (H.1 0) (H.2.1 0) (H.2.1 1) (dR (D 1) (H.1 1)))) (m := i)
    unfold mix
    split <;> omega
  · intro i
    show mix (D 1) (H.2.1 2) r' i < 6
    unfold mix
    split
    · exact hr' i
    · exact n6 i
  · rw [e3 25 (by decide) (by decide) (by decide) (by decide), e4 25 (fun i hi => by omega)]
    exact a1
  · intro i hi
    rw [e3 i (by omega) (by omega) (by omega) (by omega), e4 i (fun j hj => by omega)]
    exact a2 i hi
  · intro i hi
    rw [e3 (6 + i) (by omega) (by omega) (by omega) (by omega)]
    unfold hVm mix
    rw [if_neg (by omega), if_neg (by omega)]
    by_cases e : i < D 1
    · rw [if_pos (by omega), if_pos e, show 6 + i - 6 = i by omega]
    · rw [if_neg (by omega), if_neg e]
      exact a3 i hi
  · intro i
    have := g9 i
    have := cpy_le (C := C) (A := MA 3) (g := (qG D DA (H.1 0) (H.2.1 0) (H.2.1 1) (dR (D 1) (H.1 1)))) (m := i)
    unfold mix
    split <;> omega
  · intro m hm
    obtain ⟨c1, c2, c3, c4, c5⟩ := hag m hm
    refine ⟨c1, c2, c3, c4, ?_⟩
    show mix (D 1) (H.2.1 1) (cpy (H.2.1 1) (DA 3) (qG D DA (H.1 0) (H.2.1 0) (H.2.1 1) (dR (D 1) (H.1 1)))) m = mix (D 1) C (cpy C (MA 3) (qG D DA (H.1 0) (H.2.1 0) (H.2.1 1) (dR (D 1) (H.1 1)))) m
    unfold mix
    rw [if_pos hm, if_pos hm]
    unfold cpy
    cases hg : (qG D DA (H.1 0) (H.2.1 0) (H.2.1 1) (dR (D 1) (H.1 1))) m with
    | none => exact c5
    | some z =>
      have hz := (hI.1 m z hg).2.1
      show H.2.1 1 m - DA 3 z = C m - MA 3 z
      rw [c5, (hag z hz).2.2.2.1]
  · rfl
  · show V 26 + 1 = nI (H.1 2 + 1)
    rw [b2, nI_succ]
  · rfl
  · intro h0 i hi
    rw [e3 (12 + i) (by omega) (by omega) (by omega) (by omega)]
    show hVm V (dR (D 1) (H.1 1)) _ _ (D 1) (12 + i) = nI (mix (D 1) (H.2.1 2) r' i)
    unfold hVm mix
    rw [if_pos (by omega), if_pos hi, hrr i hi, show 12 + i - 12 = i by omega]
  · intro i hi
    rw [e3 (18 + i) (by omega) (by omega) (by omega) (by omega)]
    unfold hVm
    dsimp only
    rw [if_neg (by omega)]
    by_cases e : i < D 1
    · rw [if_pos (by omega), if_pos e, show 18 + i - 18 = i by omega]
    · rw [if_neg (by omega), if_neg (by omega), if_neg e, b6 i hi]
      cases hf : FR i with
      | none => rfl
      | some z => exact absurd (b9 i z hf) e
  · intro m z e
    dsimp only at e
    by_cases em : m < D 1
    · rw [if_pos em] at e
      have := (hI.1 z m ((gI_sdr hI).mp e)).1
      omega
    · rw [if_neg em] at e; cases e
  · intro j hj
    exact if_pos hj
  · intro j m e
    dsimp only at e
    by_cases em : j < D 1
    · exact em
    · rw [if_neg em] at e; cases e
end Nh
section Sh
variable {sta : mj_S} {d Bd : Nat} {tr : Int32} {w u : mj_W}
theorem J_hold (hJ : J sta Bd tr w u) : sjp sta (d + 9) 119 270 (.ref 0 :: []) (.ref 151 :: []) w u Bd := by
  rcases hJ with ⟨a, b, L, fa, pl, en, at_, be, ki, td, va, c, na, nl, D, DA, D2, DA2, H, rg, pa, x, ac, im, R, P, rd, F, wd, V, PP, QQ, q, MA, nm, h1, h2, h3, h4, h5, h6, h7, h8, h9⟩ | ⟨a, b, L, fa, pl, en, at_, be, ki, td, va, c, na, nl, D, DA, D2, DA2, H, rg, pa, x, R, P, rd, F, wd, mac, mim, V, PP, QQ, h1, h2, h3, h4, h5, h6, h7, h8, h9⟩
  · have h4b := h4
    obtain ⟨hN, SN, C, FR, hV, hG, hag, hv⟩ := h4b
    have hD := h3.2.1
    have hs : H.1 1 < 65537 := by have := hN.2.1; omega
    refine ⟨_, _, _, up_wah (K := fun H' => ∃ r', bd 6 r' ∧ (∀ i, i < D 1 → r' i = (dR (D 1) (H.1 1)) i) ∧ H' = hld (D 1) (qT D DA (H.1 0) (H.2.1 0) (dR (D 1) (H.1 1))) (dS (D 1) (H.1 1)) r' (cpy (H.2.1 1) (DA 3) (qG D DA (H.1 0) (H.2.1 0) (H.2.1 1) (dR (D 1) (H.1 1)))) (qG D DA (H.1 0) (H.2.1 0) (H.2.1 1) (dR (D 1) (H.1 1))) H) h1 (fun sl kn fi tb sb cl g2 r hr => (s_hold _ _ _ _ _ _ _ _ _ _ _ _ _ _ _ _ _ _ _ _ _ _ _ (hr) (hD) (hN) (h5.1) (h5.2.1) (h9)).post (fun v w hp _ => by
      obtain ⟨tb, sb, cl, g2, r', k1, k2, hv, hw⟩ := hp
      exact ⟨hv, tb, sb, cl, g2, r', _, k1, ⟨r', k1, k2, rfl⟩, hw⟩)), ma_hold h2 (fun _ _ _ _ _ _ _ _ _ _ _ _ _ _ _ => s_Mhold _ _ _ _ _ _ _ _ _ _ _ _ _ _ _ _ _ _ _ _ _ _ _ _ _ _ _ _ _ _ (ac) _ _ _ _ (h5.2.1) (hs) (hv.2.2.1) (hV) (hG)) ?_, ?_⟩
    · have hb := mix_gI hv.2.2.2.2.2.2.2.2.2 (qG_gI (D := D) (DA := DA) (lw := H.1 0) (sn := H.2.1 0) (C := H.2.1 1) (dR_prm (n := D 1) (s := H.1 1)))
      rw [hb, gng_row hag hD.2.1 dR_prm]
    · intro w' u' k1 k2
      obtain ⟨H', ⟨r', m1, m2, rfl⟩, k1⟩ := k1
      exact ⟨0, Or.inl ⟨a, b, L, fa, pl, en, at_, be, ki, td, va, c, na, nl, D, DA, D2, DA2, _, rg, pa, _, _, im, _, P, rd, F, wd, _, _, QQ, q, MA, nm, k1, k2, h3, nrel_hold hN hV hG hag hv r' m1 m2, hrel_B (hrel_keep h5 hD.2.1 h4) (Nat.le_succ Bd), irel_B h6 (Nat.le_succ Bd), h7, h8, h9⟩⟩
  · exact sjp_u h3 h4 h5 h6 h7 h8 h9 (n_hold h4 h1 h2)
end Sh
