/-! both drafts -/
theorem mj_Sa.more {sta : mj_S} {d mid : Nat} {as : List Value} {w : mj_W} {n z : Nat} {Post : Nat → Option Value → mj_W → Prop} (t : mj_W) (hS : mj_Sa sta d mid as w n z Post) (hk : ∀ p v w', Post p v w' → ∀ k ∈ mj_ks w', k ∈ mj_ks w ∨ p ≤ k) : mj_Sa sta d mid as (w ++ t) n z (fun p v w' => ∃ u, Post p v u ∧ w' = u ++ t) := by
  intro h hv hl
  obtain ⟨v, w', h', p1, p2, p3, p4, p5, p6⟩ := hS h hv.pre hl
  have hlt := vw_lt hv
  have hm := mj_vw_mem.mp hv
  have hm' := mj_vw_mem.mp p2
  have hnd := mj_nodup_app hm.1.1
  refine ⟨v, w' ++ t, h', ⟨w', p1, rfl⟩, mj_vw_mem.mpr ⟨⟨?_, hm'.1.2⟩, ?_⟩, p3, p4, ?_, p6⟩
  · rw [mj_ks_app]
    refine List.nodup_append.mpr ⟨hm'.1.1, hnd.2.1, fun k hk1 k2 hk2 e => ?_⟩
    subst e
    rcases hk _ _ _ p1 k hk1 with h1 | h1
    · exact hnd.2.2 k h1 hk2
    · have := hlt k (by rw [mj_ks_app]; exact List.mem_append_right _ hk2)
      omega
  · intro y hy
    rcases List.mem_append.mp hy with h1 | h1
    · exact hm'.2 y h1
    · have hyk : y.1 ∈ mj_ks t := List.mem_map.mpr ⟨y, h1, rfl⟩
      rw [p5 y.1 (hlt y.1 (by rw [mj_ks_app]; exact List.mem_append_right _ hyk)) (fun z => hnd.2.2 y.1 z hyk)]
      exact hm.2 y (List.mem_append_right _ h1)
  · intro j hj hn
    refine p5 j hj (fun z => hn ?_)
    rw [mj_ks_app]
    exact List.mem_append_left _ z
theorem nrel_draft {Bd : Nat} {D Dm : Nat → Nat} {DA MA : Nat → Nat → Nat} {V : Nat → Int32} (hD : okD D DA) (h1 : 1 ≤ D 1) (hM : okD Dm MA) (hr : ∀ j, j < 4 → ∀ k, k < D 1 → DA j k = MA j k) (h4 : DA 4 = MA 4) : nrel Bd D DA MA (nw0 D DA) (nVd (D 1) (MA 0) (MA 2) (D 3) V) := by
  obtain ⟨d0, d1, d3, d4, d5, d6, d7, d8, d2, a0, a1, a2, a3, a4, a5⟩ := hD
  obtain ⟨-, -, -, -, -, -, -, -, -, m0, m1, m2, m3, m4, m5⟩ := hM
  have e : ∀ y, y ≠ 25 → ¬ (18 ≤ y ∧ y < 24) → nVd (D 1) (MA 0) (MA 2) (D 3) V y = nV1 (D 1) (MA 0) (MA 2) (mix 28 V (fun _ => 0)) y := by
    intro y h25 h18
    unfold nVd upd nV2
    rw [if_neg h25, if_neg h18]
  have e0 : ∀ y, y < 28 → y ≠ 25 → 12 ≤ y → ¬ (18 ≤ y ∧ y < 24) → nVd (D 1) (MA 0) (MA 2) (D 3) V y = 0 := by
    intro y h28 h25 h12 h18
    rw [e y h25 h18]
    unfold nV1 mix
    rw [if_neg (by omega), if_neg (by omega), if_pos h28]
  refine ⟨⟨d3, Nat.zero_le _, by show 0 < 64; decide, a0, a2, fun i => ?_, (fun m q hq => by cases hq)⟩, fun i => if i < D 1 then MA 0 i else 0, fun i => if i < D 1 then MA 2 i else 0, fun _ => none, ⟨rfl, ?_, ?_⟩, ⟨d1, h1, by omega, d3, bd_le m1 (by decide), bd_le m3 (by decide), m4, fun i => ?_, fun i => ?_⟩, ?_, e0 24 (by decide) (by decide) (by decide) (by decide), e0 26 (by decide) (by decide) (by decide) (by decide), e0 27 (by decide) (by decide) (by decide) (by decide), Nat.zero_le _, fun h => absurd h (Nat.lt_irrefl 0), ?_, (fun m q hq => by cases hq), ?_, (fun q m hq => by cases hq), ⟨(fun m q hq => by cases hq), (fun m m' q hq => by cases hq), fun m hm => ?_⟩⟩
  · show idn 6 (fun _ => 0) i < 6
    unfold idn
    split
    · assumption
    · exact Nat.zero_lt_succ _
  · intro i hi
    rw [e i (by omega) (by omega)]
    unfold nV1 mix
    dsimp only
    by_cases h : i < D 1
    · rw [if_pos h, if_pos h]
    · rw [if_neg h, if_neg h, if_neg (by omega), if_pos (by omega)]
      rfl
  · intro i hi
    rw [e (6 + i) (by omega) (by omega)]
    unfold nV1 mix
    dsimp only
    rw [if_neg (by omega)]
    by_cases h : i < D 1
    · rw [if_pos (by omega), if_pos h, show 6 + i - 6 = i by omega]
    · rw [if_neg (by omega), if_neg h, if_pos (by omega)]
      rfl
  · dsimp only
    split
    · exact m0 i
    · decide
  · dsimp only
    split
    · have := m2 i; omega
    · decide
  · intro m hm
    dsimp only
    rw [if_pos hm, if_pos hm, h4]
    exact ⟨hr 0 (by decide) m hm, rfl, hr 1 (by decide) m hm, hr 3 (by decide) m hm, hr 2 (by decide) m hm⟩
  · intro i hi
    unfold nVd upd nV2
    rw [if_neg (by omega), if_pos (by omega)]
    rfl
  · intro j hj
    show none = sdr (fun _ => none) j (D 1) 0
    cases hs : sdr (fun _ => none) j (D 1) 0 with
    | none => rfl
    | some z => exact absurd (sdr_at hs).2.2 (fun h => by cases h)
  · have hm : (0 : Nat).testBit m = true := hm
    rw [Nat.zero_testBit] at hm
    cases hm
