/-! both sides answer alike: the other questions -/
theorem fd_rg : ∀ {v : mj_W} {s n i : Nat}, s ≤ i → i < s + n → mj_fd (List.range' s n) v i = mj_nth v (i - s)
  | v, s, 0, i, h1, h2 => absurd h2 (by omega)
  | [], s, n + 1, i, h1, h2 => by
    rw [List.range'_succ]
    cases i - s <;> rfl
  | y :: v, s, n + 1, i, h1, h2 => by
    rw [List.range'_succ]
    by_cases e : s = i
    · subst e
      rw [Nat.sub_self]
      show (bif Nat.beq s s then some y else _) = _
      rw [Nat.beq_refl]
      rfl
    · show (bif Nat.beq s i then some y else _) = _
      rw [show Nat.beq s i = false by
        cases hb : Nat.beq s i with
        | false => rfl
        | true => exact absurd (Nat.eq_of_beq_eq_true hb) e]
      show mj_fd _ v i = _
      rw [fd_rg (s := s + 1) (by omega) (by omega), show i - s = (i - (s + 1)) + 1 by omega]
      rfl
theorem nth_ext : ∀ {a b : mj_W}, (∀ i, mj_nth a i = mj_nth b i) → a = b
  | [], [], _ => rfl
  | [], y :: b, h => by have := h 0; cases this
  | x :: a, [], h => by have := h 0; cases this
  | x :: a, y :: b, h => by
    have h0 := h 0
    cases h0
    rw [nth_ext (a := a) (b := b) (fun i => h (i + 1))]
theorem pb_all {w v : mj_W} (hk : mj_ks v = mj_ks w) : mj_pb w (List.range w.length) v = v := by
  have hl : v.length = w.length := by
    have := congrArg List.length hk
    unfold mj_ks at this
    rw [List.length_map, List.length_map] at this
    exact this
  refine nth_ext (fun i => ?_)
  rw [mj_pbx_nth, Nat.zero_add]
  by_cases hi : i < w.length
  · rw [List.range_eq_range', fd_rg (Nat.zero_le i) (by omega), Nat.sub_zero]
    have hx : mj_nth w i = some w[i] := by rw [mj_nth_eq]; exact List.getElem?_eq_getElem hi
    have hy : mj_nth v i = some (v[i]'(by omega)) := by rw [mj_nth_eq]; exact List.getElem?_eq_getElem (by omega)
    rw [hx, hy]
    rfl
  · rw [show mj_nth w i = none by rw [mj_nth_eq]; exact List.getElem?_eq_none (by omega), show mj_nth v i = none by rw [mj_nth_eq]; exact List.getElem?_eq_none (by omega)]
    rfl
section Br
variable {sta : mj_S} {d : Nat} {a b : Nat} {tp : List Value} {c na nl : Nat → Nat} {D : Nat → Nat} {DA : Nat → Nat → Nat} {D2 : Nat → Nat} {DA2 : Nat → Nat → Nat} {H : HN} {rg pa : Nat → Option Nat} {x ac im : Nat} {R P : Nat → HN} {tr : Int32} {w u : mj_W} {rd : Option Nat} {F : Nat → Int32} {wd : Int64} {mac mim : Int32} {V PP QQ : Nat → Int32} {q : Nat} {hi er se : Int32} {MA : Nat → Nat → Nat} {nm : Nat → Nat} {pl : Int32} {SN C : Nat → Nat}
theorem b_club (m : Int32) (lo : Bool) (hy : hyp sta D DA H V MA SN C) (hc : cS true a b tp c na nl D DA D2 DA2 H rg pa x ac im R P tr w) (hm : mSd rd F wd mac mim c V PP QQ q D hi er se MA nm pl tr u) : bth sta (d + 9) 87 231 (.ref 0 :: [.int m, .int (bl lo)]) (.ref 151 :: [.int m, .int (bl lo)]) w u (cS true a b tp c na nl D DA D2 DA2 H rg pa x ac im R P) (mSd rd F wd mac mim c V PP QQ q D hi er se MA nm pl) := by
  obtain ⟨hF, hD, h1, hN, hV, hG, ha, h5, hM5⟩ := hy
  have hn : 1 ≤ D 1 ∧ D 1 ≤ 6 := ⟨h1, hD.2.1⟩
  by_cases hk0 : inR (2 ^ D 1) m = true
  · obtain ⟨k, hk, -, rfl⟩ := inR_at hk0
    rcases Nat.eq_zero_or_pos k with rfl | hp
    · exact ⟨_, _, up_od hc (fun sl => s_club_0 _ _ _ _ _ _ _ _ _ (hD.2.1)), mp_od hm (by decide) (fun _ _ _ _ _ _ _ _ _ _ _ => s_Mclub_x _ _ _ _ _ _ _ _ _ _ _ _ _ _ _ _ _ _ _ _ _ _ _ _ _ _ (hD.2.1) (by rw [show decide (nI 1 ≤ nI 0) = false by decide]; rfl)) (rfl)⟩
    · exact ⟨_, _, up_wod' hc (fun sl X hX hs => s_club _ _ _ _ _ _ _ _ _ _ _ _ _ (hp) (hk) _ (hF) (hD) (h1) (hN) (hX) (hs)), mp_wo hm (by decide) (fun _ _ _ _ _ _ _ _ _ _ _ _ _ _ _ _ _ _ _ => s_Mclub _ _ _ _ _ _ _ _ _ _ _ _ _ _ _ _ _ _ _ _ _ _ _ _ _ _ _ _ _ _ _ _ _ _ _ _ _ _ _ (hp) (hk) (hV) (hG)) (by rw [o3_club, ← lsT_cg ha hn]; rfl)⟩
  · have hk := eq_false_of_ne_true hk0
    exact ⟨_, _, up_od hc (fun sl => s_club_x _ _ _ _ _ _ _ _ _ _ (hD.2.1) (by rw [hk]; rfl)), mp_od hm (by decide) (fun _ _ _ _ _ _ _ _ _ _ _ => s_Mclub_x _ _ _ _ _ _ _ _ _ _ _ _ _ _ _ _ _ _ _ _ _ _ _ _ _ _ (hD.2.1) (by rw [hk, Bool.and_false])) (rfl)⟩
theorem b_ruin (m : Int32) (z : Int32) (lo : Bool) (hy : hyp sta D DA H V MA SN C) (hc : cS true a b tp c na nl D DA D2 DA2 H rg pa x ac im R P tr w) (hm : mSd rd F wd mac mim c V PP QQ q D hi er se MA nm pl tr u) : bth sta (d + 9) 88 232 (.ref 0 :: [.int m, .int z, .int (bl lo)]) (.ref 151 :: [.int m, .int z, .int (bl lo)]) w u (cS true a b tp c na nl D DA D2 DA2 H rg pa x ac im R P) (mSd rd F wd mac mim c V PP QQ q D hi er se MA nm pl) := by
  obtain ⟨hF, hD, h1, hN, hV, hG, ha, h5, hM5⟩ := hy
  have hn : 1 ≤ D 1 ∧ D 1 ≤ 6 := ⟨h1, hD.2.1⟩
  by_cases hk0 : inR (2 ^ D 1) m = true
  · obtain ⟨k, hk, -, rfl⟩ := inR_at hk0
    rcases Nat.eq_zero_or_pos k with rfl | hp
    · exact ⟨_, _, up_od hc (fun sl => s_ruin_0 _ _ _ _ _ _ _ _ _ _ (hD.2.1)), mp_od hm (by decide) (fun _ _ _ _ _ _ _ _ _ _ _ => s_Mruin_x _ _ _ _ _ _ _ _ _ _ _ _ _ _ _ _ _ _ _ _ _ _ _ _ _ _ _ (hD.2.1) (by rw [show decide (nI 1 ≤ nI 0) = false by decide]; rfl)) (rfl)⟩
    · by_cases hz0 : inR 1000 z = true
      · obtain ⟨y, hz, -, rfl⟩ := inR_at hz0
        exact ⟨_, _, up_wod' hc (fun sl X hX hs => s_ruin _ _ _ _ _ _ _ _ _ _ _ _ _ _ (hp) (hk) (hz) _ (hF) (hD) (h1) (hN) (hX) (hs)), mp_wo hm (by decide) (fun _ _ _ _ _ _ _ _ _ _ _ _ _ _ _ _ _ _ _ => s_Mruin _ _ _ _ _ _ _ _ _ _ _ _ _ _ _ _ _ _ _ _ _ _ _ _ _ _ _ _ _ _ _ _ _ _ _ _ _ _ _ _ (hp) (hk) (hz) (hV) (hG)) (by rw [o6_cg ha hn])⟩
      · have hz := eq_false_of_ne_true hz0
        exact ⟨_, _, up_od hc (fun sl => s_ruin_2 _ _ _ _ _ _ _ _ _ _ (hp) (hk) (hD.2.1) (hz)), mp_od hm (by decide) (fun _ _ _ _ _ _ _ _ _ _ _ => s_Mruin_2 _ _ _ _ _ _ _ _ _ _ _ _ _ _ _ _ _ _ _ _ _ _ _ _ _ _ _ (hp) (hk) (hD.2.1) (hz)) (rfl)⟩
  · have hk := eq_false_of_ne_true hk0
    exact ⟨_, _, up_od hc (fun sl => s_ruin_x _ _ _ _ _ _ _ _ _ _ _ (hD.2.1) (by rw [hk]; rfl)), mp_od hm (by decide) (fun _ _ _ _ _ _ _ _ _ _ _ => s_Mruin_x _ _ _ _ _ _ _ _ _ _ _ _ _ _ _ _ _ _ _ _ _ _ _ _ _ _ _ (hD.2.1) (by rw [hk, Bool.and_false])) (rfl)⟩
theorem b_toJoin (m : Int32) (hy : hyp sta D DA H V MA SN C) (hc : cS true a b tp c na nl D DA D2 DA2 H rg pa x ac im R P tr w) (hm : mSd rd F wd mac mim c V PP QQ q D hi er se MA nm pl tr u) : bth sta (d + 9) 89 233 (.ref 0 :: [.int m]) (.ref 151 :: [.int m]) w u (cS true a b tp c na nl D DA D2 DA2 H rg pa x ac im R P) (mSd rd F wd mac mim c V PP QQ q D hi er se MA nm pl) := by
  obtain ⟨hF, hD, h1, hN, hV, hG, ha, h5, hM5⟩ := hy
  have hn : 1 ≤ D 1 ∧ D 1 ≤ 6 := ⟨h1, hD.2.1⟩
  by_cases hk0 : inR (2 ^ D 1) m = true
  · obtain ⟨k, hk, -, rfl⟩ := inR_at hk0
    exact ⟨_, _, up_wod hc (fun sl X hX hs => s_toJoin _ _ _ _ _ _ _ _ _ _ _ _ _ (hk) (hF) (hD) (h1) (hN) (hX) (hs)), mp_wo hm (by decide) (fun _ _ _ _ _ _ _ _ _ _ _ _ _ _ _ _ _ _ _ => s_MtoJoin _ _ _ _ _ _ _ _ _ _ _ _ _ _ _ _ _ _ _ _ _ _ _ _ _ _ _ _ _ _ _ _ _ _ _ _ _ _ (hk) (hV) (hG)) (congrArg (fun z : Option Nat × Nat => Value.int (snd z.1)) (pick_cg (D 1) (fun m hm => ⟨rfl, by rw [lsT_cg ha hn, lsT_one hn hm]⟩)))⟩
  · have hk := eq_false_of_ne_true hk0
    exact ⟨_, _, up_od hc (fun sl => s_toJoin_x _ _ _ _ _ _ _ _ _ (hD.2.1) (by rw [hk]; rfl)), mp_od hm (by decide) (fun _ _ _ _ _ _ _ _ _ _ _ => s_MtoJoin_x _ _ _ _ _ _ _ _ _ _ _ _ _ _ _ _ _ _ _ _ _ _ _ _ _ (hD.2.1) (by rw [hk, Bool.and_false])) (rfl)⟩
theorem b_goesFor (m z : Int32) (lo : Bool) (hy : hyp sta D DA H V MA SN C) (hc : cS true a b tp c na nl D DA D2 DA2 H rg pa x ac im R P tr w) (hm : mSd rd F wd mac mim c V PP QQ q D hi er se MA nm pl tr u) : bth sta (d + 9) 85 228 (.ref 0 :: [.int m, .int z, .int (bl lo)]) (.ref 151 :: [.int m, .int z, .int (bl lo)]) w u (cS true a b tp c na nl D DA D2 DA2 H rg pa x ac im R P) (mSd rd F wd mac mim c V PP QQ q D hi er se MA nm pl) := by
  obtain ⟨hF, hD, h1, hN, hV, hG, ha, h5, hM5⟩ := hy
  have hn : 1 ≤ D 1 ∧ D 1 ≤ 6 := ⟨h1, hD.2.1⟩
  by_cases hk0 : (inR (D 1) m && (inR (D 1) z && decide (m ≠ z))) = true
  · rw [Bool.and_eq_true, Bool.and_eq_true, decide_eq_true_eq] at hk0
    obtain ⟨k1, k2, k3⟩ := hk0
    obtain ⟨k, hk, -, rfl⟩ := inR_at k1
    obtain ⟨s, hs, -, rfl⟩ := inR_at k2
    have hne : k ≠ s := fun e => k3 (by rw [e])
    exact ⟨_, _, up_wod' hc (fun sl X hX hs2 => s_goesFor _ _ _ _ _ _ _ _ _ _ _ _ _ _ (hk) (hs) (hne) _ (hF) (hD) (h1) (hN) (hX) (hs2)), mp_wo hm (by decide) (fun _ _ _ _ _ _ _ _ _ _ _ _ _ _ _ _ _ _ _ => s_MgoesFor _ _ _ _ _ _ _ _ _ _ _ _ _ _ _ _ _ _ _ _ _ _ _ _ _ _ _ _ _ _ _ _ _ _ _ _ _ _ _ _ (hk) (hs) (hne) (hV) (hG)) (by rw [o4_cg ha hn hs])⟩
  · have hk := eq_false_of_ne_true hk0
    exact ⟨_, _, up_od hc (fun sl => s_goesFor_x _ _ _ _ _ _ _ _ _ _ _ (hD.2.1) (by rw [hk]; rfl)), mp_od hm (by decide) (fun _ _ _ _ _ _ _ _ _ _ _ => s_MgoesFor_x _ _ _ _ _ _ _ _ _ _ _ _ _ _ _ _ _ _ _ _ _ _ _ _ _ _ _ (hD.2.1) (hk)) (rfl)⟩
theorem b_takenBy (y : Int32) (hy : hyp sta D DA H V MA SN C) (hc : cS true a b tp c na nl D DA D2 DA2 H rg pa x ac im R P tr w) (hm : mSd rd F wd mac mim c V PP QQ q D hi er se MA nm pl tr u) : bth sta (d + 9) 76 220 (.ref 0 :: [.int y]) (.ref 151 :: [.int y]) w u (cS true a b tp c na nl D DA D2 DA2 H rg pa x ac im R P) (mSd rd F wd mac mim c V PP QQ q D hi er se MA nm pl) := by
  obtain ⟨hF, hD, h1, hN, hV, hG, ha, h5, hM5⟩ := hy
  have hn : 1 ≤ D 1 ∧ D 1 ≤ 6 := ⟨h1, hD.2.1⟩
  cases hi : isr (D 1) y with
  | false =>
    refine ⟨.int (-1), 2, up_wrv hc (fun sl tb sb cl g2 r hr => (s_takenBy _ _ _ _ _ _ _ _ _ _ _ _ _ _ _ _ (y) (hD) (hN) (hr)).post (fun v w hp _ => by
      obtain ⟨tb, sb, cl, g2, r', hr', ⟨e, hv, hw⟩ | ⟨e, hv, hw⟩⟩ := hp
      · exact ⟨hv, tb, sb, cl, g2, r', hr', hw⟩
      · rw [hi] at e; cases e)), ?_⟩
    refine mp_wg (vl2 := (.int (-1))) hm (by decide) (fun _ _ _ _ _ _ _ _ _ _ _ _ _ _ _ => (s_MtakenBy _ _ _ _ _ _ _ _ _ _ _ _ _ _ _ _ _ _ _ _ _ _ _ _ _ _ _ _ _ _ (y) _ _ _ (hV) (hG)).post (fun v w hp _ => by
      obtain ⟨lw, tk, st, r, sn, g, f, ⟨e, hv, hw⟩ | ⟨e, hv, hw⟩⟩ := hp
      · exact ⟨hv, lw, tk, st, r, sn, g, f, hw⟩
      · rw [hi] at e; cases e)) ?_
    rfl
  | true =>
    refine ⟨.int (nI (qT D DA (H.1 0) (H.2.1 0) (rwo (D 1) y.toNatClampNeg))), 0, up_wrv hc (fun sl tb sb cl g2 r hr => (s_takenBy _ _ _ _ _ _ _ _ _ _ _ _ _ _ _ _ (y) (hD) (hN) (hr)).post (fun v w hp _ => by
      obtain ⟨tb, sb, cl, g2, r', hr', ⟨e, hv, hw⟩ | ⟨e, hv, hw⟩⟩ := hp
      · rw [hi] at e; cases e
      · exact ⟨hv, tb, sb, cl, g2, r', hr', hw⟩)), ?_⟩
    refine mp_wg (vl2 := (.int (nI (qT D MA (H.1 0) SN (rwo (D 1) y.toNatClampNeg))))) hm (by decide) (fun _ _ _ _ _ _ _ _ _ _ _ _ _ _ _ => (s_MtakenBy _ _ _ _ _ _ _ _ _ _ _ _ _ _ _ _ _ _ _ _ _ _ _ _ _ _ _ _ _ _ (y) _ _ _ (hV) (hG)).post (fun v w hp _ => by
      obtain ⟨lw, tk, st, r, sn, g, f, ⟨e, hv, hw⟩ | ⟨e, hv, hw⟩⟩ := hp
      · rw [hi] at e; cases e
      · exact ⟨hv, lw, tk, st, r, sn, g, f, hw⟩)) ?_
    rw [(q_cg ha (isr_prm hi).1).1]
theorem b_goesBy (y : Int32) (hy : hyp sta D DA H V MA SN C) (hc : cS true a b tp c na nl D DA D2 DA2 H rg pa x ac im R P tr w) (hm : mSd rd F wd mac mim c V PP QQ q D hi er se MA nm pl tr u) : bth sta (d + 9) 77 221 (.ref 0 :: [.int y]) (.ref 151 :: [.int y]) w u (cS true a b tp c na nl D DA D2 DA2 H rg pa x ac im R P) (mSd rd F wd mac mim c V PP QQ q D hi er se MA nm pl) := by
  obtain ⟨hF, hD, h1, hN, hV, hG, ha, h5, hM5⟩ := hy
  have hn : 1 ≤ D 1 ∧ D 1 ≤ 6 := ⟨h1, hD.2.1⟩
  cases hi : isr (D 1) y with
  | false =>
    refine ⟨.int (-1), 2, up_wrv hc (fun sl tb sb cl g2 r hr => (s_goesBy _ _ _ _ _ _ _ _ _ _ _ _ _ _ _ _ (y) (hD) (hN) (hr)).post (fun v w hp _ => by
      obtain ⟨tb, sb, cl, g2, r', hr', ⟨e, hv, hw⟩ | ⟨e, hv, hw⟩⟩ := hp
      · exact ⟨hv, tb, sb, cl, g2, r', hr', hw⟩
      · rw [hi] at e; cases e)), ?_⟩
    refine mp_wg (vl2 := (.int (-1))) hm (by decide) (fun _ _ _ _ _ _ _ _ _ _ _ _ _ _ _ => (s_MgoesBy _ _ _ _ _ _ _ _ _ _ _ _ _ _ _ _ _ _ _ _ _ _ _ _ _ _ _ _ _ _ (y) _ _ _ (hV) (hG)).post (fun v w hp _ => by
      obtain ⟨lw, tk, st, r, sn, g, f, ⟨e, hv, hw⟩ | ⟨e, hv, hw⟩⟩ := hp
      · exact ⟨hv, lw, tk, st, r, sn, g, f, hw⟩
      · rw [hi] at e; cases e)) ?_
    rfl
  | true =>
    refine ⟨.int (nI (gng (qT D DA (H.1 0) (H.2.1 0) (rwo (D 1) y.toNatClampNeg)) (qG D DA (H.1 0) (H.2.1 0) (H.2.1 1) (rwo (D 1) y.toNatClampNeg)) 6)), 0, up_wrv hc (fun sl tb sb cl g2 r hr => (s_goesBy _ _ _ _ _ _ _ _ _ _ _ _ _ _ _ _ (y) (hD) (hN) (hr)).post (fun v w hp _ => by
      obtain ⟨tb, sb, cl, g2, r', hr', ⟨e, hv, hw⟩ | ⟨e, hv, hw⟩⟩ := hp
      · rw [hi] at e; cases e
      · exact ⟨hv, tb, sb, cl, g2, r', hr', hw⟩)), ?_⟩
    refine mp_wg (vl2 := (.int (nI (gmg (qS D MA (H.1 0) SN C (rwo (D 1) y.toNatClampNeg)) (qT D MA (H.1 0) SN (rwo (D 1) y.toNatClampNeg)) (qG D MA (H.1 0) SN C (rwo (D 1) y.toNatClampNeg)) (D 1))))) hm (by decide) (fun _ _ _ _ _ _ _ _ _ _ _ _ _ _ _ => (s_MgoesBy _ _ _ _ _ _ _ _ _ _ _ _ _ _ _ _ _ _ _ _ _ _ _ _ _ _ _ _ _ _ (y) _ _ _ (hV) (hG)).post (fun v w hp _ => by
      obtain ⟨lw, tk, st, r, sn, g, f, ⟨e, hv, hw⟩ | ⟨e, hv, hw⟩⟩ := hp
      · rw [hi] at e; cases e
      · exact ⟨hv, lw, tk, st, r, sn, g, f, hw⟩)) ?_
    rw [gng_row ha hD.2.1 (isr_prm hi)]
theorem b_sendsBy (y m : Int32) (hy : hyp sta D DA H V MA SN C) (hc : cS true a b tp c na nl D DA D2 DA2 H rg pa x ac im R P tr w) (hm : mSd rd F wd mac mim c V PP QQ q D hi er se MA nm pl tr u) : bth sta (d + 9) 78 222 (.ref 0 :: [.int y, .int m]) (.ref 151 :: [.int y, .int m]) w u (cS true a b tp c na nl D DA D2 DA2 H rg pa x ac im R P) (mSd rd F wd mac mim c V PP QQ q D hi er se MA nm pl) := by
  obtain ⟨hF, hD, h1, hN, hV, hG, ha, h5, hM5⟩ := hy
  have hn : 1 ≤ D 1 ∧ D 1 ≤ 6 := ⟨h1, hD.2.1⟩
  by_cases hk0 : inR (D 1) m = true
  · obtain ⟨k, hk, -, rfl⟩ := inR_at hk0
    cases hi : isr (D 1) y with
    | false =>
      refine ⟨.int (-1), 2, up_wrv hc (fun sl tb sb cl g2 r hr => (s_sendsBy _ _ _ _ _ _ _ _ _ _ _ _ _ _ _ _ (y) _ (hk) (hD) (hN) (hr)).post (fun v w hp _ => by
        obtain ⟨tb, sb, cl, g2, r', hr', ⟨e, hv, hw⟩ | ⟨e, hv, hw⟩⟩ := hp
        · exact ⟨hv, tb, sb, cl, g2, r', hr', hw⟩
        · rw [hi] at e; cases e)), ?_⟩
      refine mp_wg (vl2 := (.int (-1))) hm (by decide) (fun _ _ _ _ _ _ _ _ _ _ _ _ _ _ _ => (s_MsendsBy _ _ _ _ _ _ _ _ _ _ _ _ _ _ _ _ _ _ _ _ _ _ _ _ _ _ _ _ _ _ (y) _ _ _ _ (hk) (hV) (hG)).post (fun v w hp _ => by
        obtain ⟨lw, tk, st, r, sn, g, f, ⟨e, hv, hw⟩ | ⟨e, hv, hw⟩⟩ := hp
        · exact ⟨hv, lw, tk, st, r, sn, g, f, hw⟩
        · rw [hi] at e; cases e)) ?_
      rfl
    | true =>
      refine ⟨.int (snd ((qG D DA (H.1 0) (H.2.1 0) (H.2.1 1) (rwo (D 1) y.toNatClampNeg)) k)), 0, up_wrv hc (fun sl tb sb cl g2 r hr => (s_sendsBy _ _ _ _ _ _ _ _ _ _ _ _ _ _ _ _ (y) _ (hk) (hD) (hN) (hr)).post (fun v w hp _ => by
        obtain ⟨tb, sb, cl, g2, r', hr', ⟨e, hv, hw⟩ | ⟨e, hv, hw⟩⟩ := hp
        · rw [hi] at e; cases e
        · exact ⟨hv, tb, sb, cl, g2, r', hr', hw⟩)), ?_⟩
      refine mp_wg (vl2 := (.int (snd ((qG D MA (H.1 0) SN C (rwo (D 1) y.toNatClampNeg)) k)))) hm (by decide) (fun _ _ _ _ _ _ _ _ _ _ _ _ _ _ _ => (s_MsendsBy _ _ _ _ _ _ _ _ _ _ _ _ _ _ _ _ _ _ _ _ _ _ _ _ _ _ _ _ _ _ (y) _ _ _ _ (hk) (hV) (hG)).post (fun v w hp _ => by
        obtain ⟨lw, tk, st, r, sn, g, f, ⟨e, hv, hw⟩ | ⟨e, hv, hw⟩⟩ := hp
        · rw [hi] at e; cases e
        · exact ⟨hv, lw, tk, st, r, sn, g, f, hw⟩)) ?_
      rw [(q_cg ha (isr_prm hi).1).2.1]
  · have hk := eq_false_of_ne_true hk0
    exact ⟨_, _, up_od hc (fun sl => s_sendsBy_x _ _ _ _ _ _ _ _ _ _ (hD.2.1) (by rw [hk]; rfl)), mp_od hm (by decide) (fun _ _ _ _ _ _ _ _ _ _ _ => s_MsendsBy_x _ _ _ _ _ _ _ _ _ _ _ _ _ _ _ _ _ _ _ _ _ _ _ _ _ _ (hD.2.1) (hk)) (rfl)⟩
theorem b_lossBy (y m : Int32) (hy : hyp sta D DA H V MA SN C) (hc : cS true a b tp c na nl D DA D2 DA2 H rg pa x ac im R P tr w) (hm : mSd rd F wd mac mim c V PP QQ q D hi er se MA nm pl tr u) : bth sta (d + 9) 79 223 (.ref 0 :: [.int y, .int m]) (.ref 151 :: [.int y, .int m]) w u (cS true a b tp c na nl D DA D2 DA2 H rg pa x ac im R P) (mSd rd F wd mac mim c V PP QQ q D hi er se MA nm pl) := by
  obtain ⟨hF, hD, h1, hN, hV, hG, ha, h5, hM5⟩ := hy
  have hn : 1 ≤ D 1 ∧ D 1 ≤ 6 := ⟨h1, hD.2.1⟩
  by_cases hk0 : inR (D 1) m = true
  · obtain ⟨k, hk, -, rfl⟩ := inR_at hk0
    cases hi : isr (D 1) y with
    | false =>
      refine ⟨.int (-1), 2, up_wrv hc (fun sl tb sb cl g2 r hr => (s_lossBy _ _ _ _ _ _ _ _ _ _ _ _ _ _ _ _ (y) _ (hk) (hD) (hN) (hr)).post (fun v w hp _ => by
        obtain ⟨tb, sb, cl, g2, r', hr', ⟨e, hv, hw⟩ | ⟨e, hv, hw⟩⟩ := hp
        · exact ⟨hv, tb, sb, cl, g2, r', hr', hw⟩
        · rw [hi] at e; cases e)), ?_⟩
      refine mp_wg (vl2 := (.int (-1))) hm (by decide) (fun _ _ _ _ _ _ _ _ _ _ _ _ _ _ _ => (s_MlossBy _ _ _ _ _ _ _ _ _ _ _ _ _ _ _ _ _ _ _ _ _ _ _ _ _ _ _ _ _ _ (y) _ _ _ _ (hk) (hV) (hG)).post (fun v w hp _ => by
        obtain ⟨lw, tk, st, r, sn, g, f, ⟨e, hv, hw⟩ | ⟨e, hv, hw⟩⟩ := hp
        · exact ⟨hv, lw, tk, st, r, sn, g, f, hw⟩
        · rw [hi] at e; cases e)) ?_
      rfl
    | true =>
      refine ⟨.int (nI (los (qT D DA (H.1 0) (H.2.1 0) (rwo (D 1) y.toNatClampNeg)) (qG D DA (H.1 0) (H.2.1 0) (H.2.1 1) (rwo (D 1) y.toNatClampNeg)) (DA 1) (DA 3) k)), 0, up_wrv hc (fun sl tb sb cl g2 r hr => (s_lossBy _ _ _ _ _ _ _ _ _ _ _ _ _ _ _ _ (y) _ (hk) (hD) (hN) (hr)).post (fun v w hp _ => by
        obtain ⟨tb, sb, cl, g2, r', hr', ⟨e, hv, hw⟩ | ⟨e, hv, hw⟩⟩ := hp
        · rw [hi] at e; cases e
        · exact ⟨hv, tb, sb, cl, g2, r', hr', hw⟩)), ?_⟩
      refine mp_wg (vl2 := (.int (nI (los (qT D MA (H.1 0) SN (rwo (D 1) y.toNatClampNeg)) (qG D MA (H.1 0) SN C (rwo (D 1) y.toNatClampNeg)) (MA 1) (MA 3) k)))) hm (by decide) (fun _ _ _ _ _ _ _ _ _ _ _ _ _ _ _ => (s_MlossBy _ _ _ _ _ _ _ _ _ _ _ _ _ _ _ _ _ _ _ _ _ _ _ _ _ _ _ _ _ _ (y) _ _ _ _ (hk) (hV) (hG)).post (fun v w hp _ => by
        obtain ⟨lw, tk, st, r, sn, g, f, ⟨e, hv, hw⟩ | ⟨e, hv, hw⟩⟩ := hp
        · rw [hi] at e; cases e
        · exact ⟨hv, lw, tk, st, r, sn, g, f, hw⟩)) ?_
      rw [(q_cg ha (isr_prm hi).1).1, (q_cg ha (isr_prm hi).1).2.1, los_cg ha hk (fun q e => qG_b e)]
  · have hk := eq_false_of_ne_true hk0
    exact ⟨_, _, up_od hc (fun sl => s_lossBy_x _ _ _ _ _ _ _ _ _ _ (hD.2.1) (by rw [hk]; rfl)), mp_od hm (by decide) (fun _ _ _ _ _ _ _ _ _ _ _ => s_MlossBy_x _ _ _ _ _ _ _ _ _ _ _ _ _ _ _ _ _ _ _ _ _ _ _ _ _ _ (hD.2.1) (hk)) (rfl)⟩
theorem b_man (m y : Int32) (hy : hyp sta D DA H V MA SN C) (hc : cS true a b tp c na nl D DA D2 DA2 H rg pa x ac im R P tr w) (hm : mSd rd F wd mac mim c V PP QQ q D hi er se MA nm pl tr u) : bth sta (d + 9) 72 214 (.ref 0 :: [.int m, .int y]) (.ref 151 :: [.int m, .int y]) w u (cS true a b tp c na nl D DA D2 DA2 H rg pa x ac im R P) (mSd rd F wd mac mim c V PP QQ q D hi er se MA nm pl) := by
  obtain ⟨hF, hD, h1, hN, hV, hG, ha, h5, hM5⟩ := hy
  have hn : 1 ≤ D 1 ∧ D 1 ≤ 6 := ⟨h1, hD.2.1⟩
  by_cases hk0 : inR (D 1) m = true
  · obtain ⟨k, hk, -, rfl⟩ := inR_at hk0
    by_cases hy0 : inR 6 y = true
    · obtain ⟨j, hj, -, rfl⟩ := inR_at hy0
      exact ⟨_, _, up_wmn hc (fun sl => s_man _ _ _ _ _ _ _ _ _ _ _ _ _ (hk) (hj) (hD) (hN)), mp_wg0 hm (by decide) (fun _ _ _ _ _ _ _ _ _ _ _ _ _ _ _ => s_Mman _ _ _ _ _ _ _ _ _ _ _ _ _ _ _ _ _ _ _ _ _ _ _ _ _ _ _ _ _ _ _ _ _ _ _ (hk) (hj) (hV) (hD.2.1) (hN.1) (hG.2.2.2.2.2.2.2.1)) (by rw [man_cg ha hk H.1 H.2.1 rfl rfl hj])⟩
    · have hy := eq_false_of_ne_true hy0
      exact ⟨_, _, up_od hc (fun sl => s_man_y _ _ _ _ _ _ _ _ _ (hk) (hy) (hD.2.1)), mp_od hm (by decide) (fun _ _ _ _ _ _ _ _ _ _ _ => s_Mman_y _ _ _ _ _ _ _ _ _ _ _ _ _ _ _ _ _ _ _ _ _ _ _ _ _ _ (hk) (hy) (hD.2.1)) (rfl)⟩
  · have hk := eq_false_of_ne_true hk0
    exact ⟨_, _, up_od hc (fun sl => s_man_x _ _ _ _ _ _ _ _ _ _ (hD.2.1) (by rw [hk]; rfl)), mp_od hm (by decide) (fun _ _ _ _ _ _ _ _ _ _ _ => s_Mman_x _ _ _ _ _ _ _ _ _ _ _ _ _ _ _ _ _ _ _ _ _ _ _ _ _ _ (hD.2.1) (hk)) (rfl)⟩
theorem b_drafts (m y z : Int32) (hy : hyp sta D DA H V MA SN C) (hc : cS true a b tp c na nl D DA D2 DA2 H rg pa x ac im R P tr w) (hm : mSd rd F wd mac mim c V PP QQ q D hi er se MA nm pl tr u) : bth sta (d + 9) 112 264 (.ref 0 :: [.int m, .int y, .int z]) (.ref 151 :: [.int m, .int y, .int z]) w u (cS true a b tp c na nl D DA D2 DA2 H rg pa x ac im R P) (mSd rd F wd mac mim c V PP QQ q D hi er se MA nm pl) := by
  obtain ⟨hF, hD, h1, hN, hV, hG, ha, h5, hM5⟩ := hy
  have hn : 1 ≤ D 1 ∧ D 1 ≤ 6 := ⟨h1, hD.2.1⟩
  by_cases hk0 : inR (D 1) m = true
  · obtain ⟨k, hk, -, rfl⟩ := inR_at hk0
    by_cases hz0 : (inR 65537 y && inD z) = true
    · rw [Bool.and_eq_true] at hz0
      obtain ⟨s, hs, -, rfl⟩ := inR_at hz0.1
      obtain ⟨j, hj1, hj2, rfl⟩ := inD_at hz0.2
      exact ⟨_, _, up_wrv hc (fun sl tb sb cl g2 r hr => s_drafts _ _ rfl _ _ _ rfl (s_countDraws _ _ _ _ _ _ _ _ _ _ _ _ _ _ (false) (hk) (hs) (⟨hj1, hj2⟩) _ _ _ _ _ (hD) (hN) (hr)) (fun v w h => ⟨_, h.1⟩)), mp_wgs hm (by decide) (fun _ _ _ _ _ _ _ _ _ _ _ _ _ _ _ => s_Mdrafts _ _ _ _ _ _ _ _ _ _ _ _ _ _ _ _ _ _ _ _ _ _ _ _ _ _ _ _ _ _ _ _ _ _ _ _ (hk) (hs) (⟨hj1, hj2⟩) (hV) (hG)) (by rw [cdw_cg ha])⟩
    · have hz := eq_false_of_ne_true hz0
      exact ⟨_, _, up_od hc (fun sl => s_drafts _ _ rfl _ _ _ rfl (s_countDraws_2 _ _ _ _ _ _ _ _ _ _ (bl false) (hk) (hD.2.1) (hz)) (fun v w h => ⟨_, h.1⟩)), mp_od hm (by decide) (fun _ _ _ _ _ _ _ _ _ _ _ => s_Mdrafts_2 _ _ _ _ _ _ _ _ _ _ _ _ _ _ _ _ _ _ _ _ _ _ _ _ _ _ _ (hk) (hD.2.1) (hz)) rfl⟩
  · have hk := eq_false_of_ne_true hk0
    exact ⟨_, _, up_od hc (fun sl => s_drafts _ _ rfl _ _ _ rfl (s_countDraws_x _ _ _ _ _ _ _ _ _ _ _ (bl false) (hD.2.1) (by rw [hk]; rfl)) (fun v w h => ⟨_, h.1⟩)), mp_od hm (by decide) (fun _ _ _ _ _ _ _ _ _ _ _ => s_Mdrafts_x _ _ _ _ _ _ _ _ _ _ _ _ _ _ _ _ _ _ _ _ _ _ _ _ _ _ _ (hD.2.1) (hk)) rfl⟩
theorem b_sentIn (m y z : Int32) (hy : hyp sta D DA H V MA SN C) (hc : cS true a b tp c na nl D DA D2 DA2 H rg pa x ac im R P tr w) (hm : mSd rd F wd mac mim c V PP QQ q D hi er se MA nm pl tr u) : bth sta (d + 9) 113 265 (.ref 0 :: [.int m, .int y, .int z]) (.ref 151 :: [.int m, .int y, .int z]) w u (cS true a b tp c na nl D DA D2 DA2 H rg pa x ac im R P) (mSd rd F wd mac mim c V PP QQ q D hi er se MA nm pl) := by
  obtain ⟨hF, hD, h1, hN, hV, hG, ha, h5, hM5⟩ := hy
  have hn : 1 ≤ D 1 ∧ D 1 ≤ 6 := ⟨h1, hD.2.1⟩
  by_cases hk0 : inR (D 1) m = true
  · obtain ⟨k, hk, -, rfl⟩ := inR_at hk0
    by_cases hz0 : (inR 65537 y && inD z) = true
    · rw [Bool.and_eq_true] at hz0
      obtain ⟨s, hs, -, rfl⟩ := inR_at hz0.1
      obtain ⟨j, hj1, hj2, rfl⟩ := inD_at hz0.2
      exact ⟨_, _, up_wrv hc (fun sl tb sb cl g2 r hr => s_sentIn _ _ rfl _ _ _ rfl (s_countDraws _ _ _ _ _ _ _ _ _ _ _ _ _ _ (true) (hk) (hs) (⟨hj1, hj2⟩) _ _ _ _ _ (hD) (hN) (hr)) (fun v w h => ⟨_, h.1⟩) (fun w' hk => pb_all hk)), mp_wgs hm (by decide) (fun _ _ _ _ _ _ _ _ _ _ _ _ _ _ _ => s_MsentIn _ _ _ _ _ _ _ _ _ _ _ _ _ _ _ _ _ _ _ _ _ _ _ _ _ _ _ _ _ _ _ _ _ _ _ _ (hk) (hs) (⟨hj1, hj2⟩) (hV) (hG)) (by rw [cdw_cg ha])⟩
    · have hz := eq_false_of_ne_true hz0
      exact ⟨_, _, up_od hc (fun sl => s_sentIn _ _ rfl _ _ _ rfl (s_countDraws_2 _ _ _ _ _ _ _ _ _ _ (bl true) (hk) (hD.2.1) (hz)) (fun v w h => ⟨_, h.1⟩) (fun w' hk => pb_all hk)), mp_od hm (by decide) (fun _ _ _ _ _ _ _ _ _ _ _ => s_MsentIn_2 _ _ _ _ _ _ _ _ _ _ _ _ _ _ _ _ _ _ _ _ _ _ _ _ _ _ _ (hk) (hD.2.1) (hz)) rfl⟩
  · have hk := eq_false_of_ne_true hk0
    exact ⟨_, _, up_od hc (fun sl => s_sentIn _ _ rfl _ _ _ rfl (s_countDraws_x _ _ _ _ _ _ _ _ _ _ _ (bl true) (hD.2.1) (by rw [hk]; rfl)) (fun v w h => ⟨_, h.1⟩) (fun w' hk => pb_all hk)), mp_od hm (by decide) (fun _ _ _ _ _ _ _ _ _ _ _ => s_MsentIn_x _ _ _ _ _ _ _ _ _ _ _ _ _ _ _ _ _ _ _ _ _ _ _ _ _ _ _ (hD.2.1) (hk)) rfl⟩
theorem b_lossIn (y z : Int32) (hy : hyp sta D DA H V MA SN C) (hc : cS true a b tp c na nl D DA D2 DA2 H rg pa x ac im R P tr w) (hm : mSd rd F wd mac mim c V PP QQ q D hi er se MA nm pl tr u) : bth sta (d + 9) 115 266 (.ref 0 :: [.int y, .int z]) (.ref 151 :: [.int y, .int z]) w u (cS true a b tp c na nl D DA D2 DA2 H rg pa x ac im R P) (mSd rd F wd mac mim c V PP QQ q D hi er se MA nm pl) := by
  obtain ⟨hF, hD, h1, hN, hV, hG, ha, h5, hM5⟩ := hy
  have hn : 1 ≤ D 1 ∧ D 1 ≤ 6 := ⟨h1, hD.2.1⟩
  by_cases hz0 : (inR 65537 y && inD z) = true
  · rw [Bool.and_eq_true] at hz0
    obtain ⟨s, hs, -, rfl⟩ := inR_at hz0.1
    obtain ⟨j, hj1, hj2, rfl⟩ := inD_at hz0.2
    exact ⟨_, _, up_wrv hc (fun sl tb sb cl g2 r hr => s_lossIn _ _ _ _ _ _ _ _ _ _ _ _ _ (hs) (⟨hj1, hj2⟩) _ _ _ _ _ (hD) (hN) (hr)), mp_wgs hm (by decide) (fun _ _ _ _ _ _ _ _ _ _ _ _ _ _ _ => s_MlossIn _ _ _ _ _ _ _ _ _ _ _ _ _ _ _ _ _ _ _ _ _ _ _ _ _ _ _ _ _ _ _ _ _ _ _ (hs) (⟨hj1, hj2⟩) (hV) (hG)) (by rw [lsI_cg ha])⟩
  · have hz := eq_false_of_ne_true hz0
    exact ⟨_, _, up_o hc (fun sl => s_lossIn_2 _ _ _ _ _ _ _ _ (hz)), mp_o hm (by decide) (fun _ _ _ _ _ _ _ _ _ _ _ => s_MlossIn_2 _ _ _ _ _ _ _ _ _ _ _ _ _ _ _ _ _ _ _ _ _ _ (hz)) (rfl)⟩
theorem b_agent (y z m : Int32) (o : Bool) (hy : hyp sta D DA H V MA SN C) (hc : cS true a b tp c na nl D DA D2 DA2 H rg pa x ac im R P tr w) (hm : mSd rd F wd mac mim c V PP QQ q D hi er se MA nm pl tr u) : bth sta (d + 9) 106 258 (.ref 0 :: [.int y, .int z, .int m, .int (bl o)]) (.ref 151 :: [.int y, .int z, .int m, .int (bl o)]) w u (cS true a b tp c na nl D DA D2 DA2 H rg pa x ac im R P) (mSd rd F wd mac mim c V PP QQ q D hi er se MA nm pl) := by
  obtain ⟨hF, hD, h1, hN, hV, hG, ha, h5, hM5⟩ := hy
  have hn : 1 ≤ D 1 ∧ D 1 ≤ 6 := ⟨h1, hD.2.1⟩
  by_cases hz0 : (inR 100 y && (inR 10 z && inR 10 m)) = true
  · rw [Bool.and_eq_true, Bool.and_eq_true] at hz0
    obtain ⟨k1, k2, k3⟩ := hz0
    obtain ⟨i, hi, -, rfl⟩ := inR_at k1
    obtain ⟨j, hj, -, rfl⟩ := inR_at k2
    obtain ⟨k, hk, -, rfl⟩ := inR_at k3
    exact ⟨_, _, up_o hc (fun sl => s_agent _ _ _ _ _ _ _ _ _ _ (hi) (hj) (hk)), mp_o hm (by decide) (fun _ _ _ _ _ _ _ _ _ _ _ => s_Magent _ _ _ _ _ _ _ _ _ _ _ _ _ _ _ _ _ _ _ _ _ _ _ _ (hi) (hj) (hk)) (rfl)⟩
  · have hz := eq_false_of_ne_true hz0
    exact ⟨_, _, up_o hc (fun sl => s_agent_2 _ _ _ _ _ _ _ _ _ _ (hz)), mp_o hm (by decide) (fun _ _ _ _ _ _ _ _ _ _ _ => s_Magent_2 _ _ _ _ _ _ _ _ _ _ _ _ _ _ _ _ _ _ _ _ _ _ _ _ (hz)) (rfl)⟩
end Br
