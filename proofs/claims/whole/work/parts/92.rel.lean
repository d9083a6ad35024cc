/-! the two states; one step of both -/
def JD (sta : mj_S) (Bd : Nat) (tr : Int32) (w u : mj_W) : Prop := ∃ a b L fa pl en at_ be ki td va c na nl D DA D2 DA2 H rg pa x ac im R P rd F wd V PP QQ q MA nm, cS true a b (tpg (nI L) fa pl en at_ be ki td va) c na nl D DA D2 DA2 H rg pa x ac im R P tr w ∧ mSd rd F wd (nI ac) (nI im) c V PP QQ q D (hiI D) (erI D) (seI D) MA nm pl tr u ∧ drel sta D DA MA ∧ nrel Bd D DA MA H V ∧ hrel Bd D DA MA x ac R PP ∧ irel Bd D DA MA im P QQ ∧ trel L c fa F ∧ okD D2 DA2 ∧ okK rg pa
def JU (sta : mj_S) (tr : Int32) (w u : mj_W) : Prop := ∃ a b L fa pl en at_ be ki td va c na nl D DA D2 DA2 H rg pa x R P rd F wd mac mim V PP QQ, cS false a b (tpg (nI L) fa pl en at_ be ki td va) c na nl D DA D2 DA2 H rg pa x 0 0 R P tr w ∧ mSu rd F wd mac mim c V PP QQ pl tr u ∧ stF sta ∧ okD D DA ∧ okD D2 DA2 ∧ okK rg pa ∧ x < 16 ∧ okN H.1 H.2.1 H.2.2 ∧ trel L c fa F
def J (sta : mj_S) (Bd : Nat) (tr : Int32) (w u : mj_W) : Prop := JD sta Bd tr w u ∨ JU sta tr w u
def sjp (sta : mj_S) (d i1 i2 : Nat) (as1 as2 : List Value) (w u : mj_W) (Bd : Nat) : Prop := ∃ v, ∃ CP MP : mj_W → Prop, mj_Sx sta d i1 as1 w (fun v' w' => v' = some v ∧ CP w') ∧ mj_Sx sta d i2 as2 u (fun v' u' => v' = some v ∧ MP u') ∧ ∀ w' u', CP w' → MP u' → ∃ tr', J sta (Bd + 1) tr' w' u'
section St
variable {sta : mj_S} {d Bd i1 i2 : Nat} {as1 as2 : List Value} {a b L : Nat} {fa pl en at_ be ki td va : Int32} {c na nl : Nat → Nat} {D : Nat → Nat} {DA : Nat → Nat → Nat} {D2 : Nat → Nat} {DA2 : Nat → Nat → Nat} {H : HN} {rg pa : Nat → Option Nat} {x ac im : Nat} {R P : Nat → HN} {rd : Option Nat} {F : Nat → Int32} {wd : Int64} {mac mim : Int32} {V PP QQ : Nat → Int32} {q : Nat} {MA : Nat → Nat → Nat} {nm : Nat → Nat} {tr : Int32} {w u : mj_W}
theorem sjp_q (h3 : drel sta D DA MA) (h4 : nrel Bd D DA MA H V) (h5 : hrel Bd D DA MA x ac R PP) (h6 : irel Bd D DA MA im P QQ) (h7 : trel L c fa F) (h8 : okD D2 DA2) (h9 : okK rg pa) (hb : bth sta d i1 i2 as1 as2 w u (cS true a b (tpg (nI L) fa pl en at_ be ki td va) c na nl D DA D2 DA2 H rg pa x ac im R P) (mSd rd F wd (nI ac) (nI im) c V PP QQ q D (hiI D) (erI D) (seI D) MA nm pl)) : sjp sta d i1 i2 as1 as2 w u Bd := by
  obtain ⟨v, t, s1, s2⟩ := hb
  exact ⟨v, _, _, s1, s2, fun w' u' k1 k2 => ⟨t, Or.inl ⟨a, b, L, fa, pl, en, at_, be, ki, td, va, c, na, nl, D, DA, D2, DA2, H, rg, pa, x, ac, im, R, P, rd, F, wd, V, PP, QQ, q, MA, nm, k1, k2, h3, nrel_B h4 (by omega), hrel_B h5 (by omega), irel_B h6 (by omega), h7, h8, h9⟩⟩⟩
theorem sjp_u (h3 : stF sta) (h4 : okD D DA) (h5 : okD D2 DA2) (h6 : okK rg pa) (h7 : x < 16) (h8 : okN H.1 H.2.1 H.2.2) (h9 : trel L c fa F) (hb : bth sta d i1 i2 as1 as2 w u (cS false a b (tpg (nI L) fa pl en at_ be ki td va) c na nl D DA D2 DA2 H rg pa x 0 0 R P) (mSu rd F wd mac mim c V PP QQ pl)) : sjp sta d i1 i2 as1 as2 w u Bd := by
  obtain ⟨v, t, s1, s2⟩ := hb
  exact ⟨v, _, _, s1, s2, fun w' u' k1 k2 => ⟨t, Or.inr ⟨a, b, L, fa, pl, en, at_, be, ki, td, va, c, na, nl, D, DA, D2, DA2, H, rg, pa, x, R, P, rd, F, wd, mac, mim, V, PP, QQ, k1, k2, h3, h4, h5, h6, h7, h8, h9⟩⟩⟩
end St
section Nr
variable {Bd : Nat} {D : Nat → Nat} {DA MA : Nat → Nat → Nat} {H : HN} {V : Nat → Int32}
theorem bd_up {n k y : Nat} {f : Nat → Nat} (h : bd n f) (hy : y < n) : bd n (va_up f k y) := fun i => by
  unfold va_up
  split
  · exact hy
  · exact h i
theorem nrel_marry (h : nrel Bd D DA MA H V) (hD : D 1 ≤ 6) {k : Nat} (hk : k < D 1) : nrel Bd D DA MA (H.1, va_up H.2.1 0 (va_up (H.2.1 0) k 1), H.2.2) (upd V k 1) := by
  obtain ⟨⟨n1, n2, n3, n4, n5, n6, n7⟩, SN, C, FR, ⟨a1, a2, a3⟩, ⟨g1, g2, g3, g4, g5, g6, g7, g8, g9⟩, h4, b1, b2, b3, b4, b5, b6, b7⟩ := h
  have hu : ∀ j, j ≠ k → upd V k 1 j = V j := fun j hj => if_neg hj
  refine ⟨⟨n1, n2, n3, bd_up n4 (by decide), n5, n6, n7⟩, va_up SN k 1, C, FR, ⟨?_, ?_, ?_⟩, ⟨g1, g2, g3, g4, g5, g6, g7, bd_up g8 (by decide), g9⟩, agM_up h4, ?_, ?_, ?_, b4, ?_, ?_, b7⟩
  · rw [hu 25 (by omega)]; exact a1
  · intro i hi
    unfold upd va_up
    by_cases e : i = k
    · rw [if_pos e, if_pos e]; rfl
    · rw [if_neg e, if_neg e]; exact a2 i hi
  · intro i hi; rw [hu (6 + i) (by omega)]; exact a3 i hi
  · rw [hu 24 (by omega)]; exact b1
  · rw [hu 26 (by omega)]; exact b2
  · rw [hu 27 (by omega)]; exact b3
  · intro h0 i hi; rw [hu (12 + i) (by omega)]; exact b5 h0 i hi
  · intro i hi; rw [hu (18 + i) (by omega)]; exact b6 i hi
theorem nrel_spare (h : nrel Bd D DA MA H V) {k : Nat} (hk : k < 4) : nrel Bd D DA MA (va_up H.1 0 (H.1 0 ^^^ 2 ^ k), H.2.1, H.2.2) (upd V 25 (nI (H.1 0 ^^^ 2 ^ k))) := by
  obtain ⟨⟨n1, n2, n3, n4, n5, n6, n7⟩, SN, C, FR, ⟨a1, a2, a3⟩, ⟨g1, g2, g3, g4, g5, g6, g7, g8, g9⟩, h4, b1, b2, b3, b4, b5, b6, b7⟩ := h
  have hu : ∀ j, j ≠ 25 → upd V 25 (nI (H.1 0 ^^^ 2 ^ k)) j = V j := fun j hj => if_neg hj
  have hx : H.1 0 ^^^ 2 ^ k < 16 := Nat.xor_lt_two_pow (n := 4) n1 (Nat.lt_of_lt_of_le (Nat.pow_lt_pow_right (by decide) hk) (Nat.le_refl _))
  refine ⟨⟨hx, n2, n3, n4, n5, n6, n7⟩, SN, C, FR, ⟨if_pos rfl, ?_, ?_⟩, ⟨g1, g2, g3, hx, g5, g6, g7, g8, g9⟩, h4, ?_, ?_, ?_, b4, ?_, ?_, b7⟩
  · intro i hi; rw [hu i (by omega)]; exact a2 i hi
  · intro i hi; rw [hu (6 + i) (by omega)]; exact a3 i hi
  · rw [hu 24 (by decide)]; exact b1
  · rw [hu 26 (by decide)]; exact b2
  · rw [hu 27 (by decide)]; exact b3
  · intro h0 i hi; rw [hu (12 + i) (by have := g1; omega)]; exact b5 h0 i hi
  · intro i hi; rw [hu (18 + i) (by omega)]; exact b6 i hi
theorem nrel_seed (h : nrel Bd D DA MA H V) {k : Nat} (hk : k < 65537) : nrel Bd D DA MA (va_up H.1 1 k, H.2.1, H.2.2) (upd V 27 (nI k)) := by
  obtain ⟨⟨n1, n2, n3, n4, n5, n6, n7⟩, SN, C, FR, ⟨a1, a2, a3⟩, ⟨g1, g2, g3, g4, g5, g6, g7, g8, g9⟩, h4, b1, b2, b3, b4, b5, b6, b7⟩ := h
  have hu : ∀ j, j ≠ 27 → upd V 27 (nI k) j = V j := fun j hj => if_neg hj
  refine ⟨⟨n1, show k ≤ 65536 by omega, n3, n4, n5, n6, n7⟩, SN, C, FR, ⟨?_, ?_, ?_⟩, ⟨g1, g2, g3, g4, g5, g6, g7, g8, g9⟩, h4, ?_, ?_, if_pos rfl, b4, ?_, ?_, b7⟩
  · rw [hu 25 (by decide)]; exact a1
  · intro i hi; rw [hu i (by omega)]; exact a2 i hi
  · intro i hi; rw [hu (6 + i) (by omega)]; exact a3 i hi
  · rw [hu 24 (by decide)]; exact b1
  · rw [hu 26 (by decide)]; exact b2
  · intro h0 i hi; rw [hu (12 + i) (by omega)]; exact b5 h0 i hi
  · intro i hi; rw [hu (18 + i) (by omega)]; exact b6 i hi
theorem nrel_desert (h : nrel Bd D DA MA H V) {k q : Nat} (hk : k < D 1) (hq : sdr H.2.2 k (D 1) 0 = some q) : nrel Bd D DA MA (H.1, H.2.1, va_up H.2.2 q none) (upd V (18 + k) (-2)) := by
  obtain ⟨⟨n1, n2, n3, n4, n5, n6, n7⟩, SN, C, FR, ⟨a1, a2, a3⟩, ⟨g1, g2, g3, g4, g5, g6, g7, g8, g9⟩, h4, b1, b2, b3, b4, b5, b6, b7, b8, b9, b10⟩ := h
  have hu : ∀ j, j ≠ 18 + k → upd V (18 + k) (-2) j = V j := fun j hj => if_neg hj
  have hg' : ∀ m p, va_up H.2.2 q none m = some p → m ≠ q ∧ H.2.2 m = some p := by
    intro m p e
    unfold va_up at e
    by_cases em : m = q
    · rw [if_pos em] at e; cases e
    · rw [if_neg em] at e; exact ⟨em, e⟩
  have hI' : gI (D 1) (H.1 3) (va_up H.2.2 q none) := ⟨fun m p e => b10.1 m p (hg' m p e).2, fun m m' p e e' => b10.2.1 m m' p (hg' m p e).2 (hg' m' p e').2, b10.2.2⟩
  have hqk := (gI_sdr b10).mp hq
  refine ⟨⟨n1, n2, n3, n4, n5, n6, fun m p e => n7 m p (hg' m p e).2⟩, SN, C, va_up FR k none, ⟨?_, ?_, ?_⟩, ⟨g1, g2, g3, g4, g5, g6, g7, g8, g9⟩, h4, ?_, ?_, ?_, b4, ?_, ?_, ?_, ?_, ?_, hI'⟩
  · rw [hu 25 (by omega)]; exact a1
  · intro i hi; rw [hu i (by omega)]; exact a2 i hi
  · intro i hi; rw [hu (6 + i) (by omega)]; exact a3 i hi
  · rw [hu 24 (by omega)]; exact b1
  · rw [hu 26 (by omega)]; exact b2
  · rw [hu 27 (by omega)]; exact b3
  · intro h0 i hi; rw [hu (12 + i) (by omega)]; exact b5 h0 i hi
  · intro i hi
    unfold upd va_up
    by_cases e : i = k
    · rw [if_pos (by omega), if_pos e]; rfl
    · rw [if_neg (by omega), if_neg e]; exact b6 i hi
  · intro m p e
    unfold va_up at e
    by_cases em : m = k
    · rw [if_pos em] at e; cases e
    · rw [if_neg em] at e; exact b7 m p e
  · intro j hj
    unfold va_up
    cases hs : sdr (va_up H.2.2 q none) j (D 1) 0 with
    | none =>
      by_cases e : j = k
      · rw [if_pos e]; exact hs.symm
      · rw [if_neg e]
        cases hf : FR j with
        | none => exact hs.symm
        | some m =>
          have h5 := (gI_sdr b10).mp ((b8 j hj).symm.trans hf)
          have hmq : m ≠ q := fun z => e (by rw [z, hqk] at h5; exact (Option.some.inj h5).symm)
          have h6 := (gI_sdr hI' (m := m) (q := j)).mpr (by rw [va_up, if_neg hmq]; exact h5)
          rw [hs] at h6
          cases h6
    | some m =>
      have h5 := hg' m j ((gI_sdr hI').mp hs)
      by_cases e : j = k
      · subst e
        exact absurd (b10.2.1 m q j h5.2 hqk) h5.1
      · rw [if_neg e, b8 j hj, (gI_sdr b10).mpr h5.2]
        exact hs.symm
  · intro j m e
    unfold va_up at e
    by_cases em : j = k
    · rw [if_pos em] at e; cases e
    · rw [if_neg em] at e; exact b9 j m e
end Nr
