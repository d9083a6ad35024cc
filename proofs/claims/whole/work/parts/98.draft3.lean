/-! one step of both: draft -/
def sja (sta : mj_S) (d : Nat) (y : Int32) (w u : mj_W) (Bd : Nat) : Prop := ∃ v, ∃ CP MP : mj_W → Prop, mj_Sx sta d 69 [.ref 0, .int y] w (fun v' w' => v' = some v ∧ CP w') ∧ mj_Sa sta d 195 [.ref 151, .int y] u 8 54 (fun p v' u' => v' = some v ∧ (∀ k ∈ mj_ks u', k ∈ mj_ks u ∨ p ≤ k) ∧ MP u') ∧ ∀ w' u', CP w' → MP u' → ∃ tr' w2 u2 t2, w'.Perm w2 ∧ u'.Perm (u2 ++ t2) ∧ J sta (Bd + 1) tr' w2 u2
theorem rd_r {c : Nat → Nat} {n : Nat} {D2 : Nat → Nat} {DA2 : Nat → Nat → Nat} : PRr (lAll c n 801 (rn blk_ c n 0, false, dclr D2, va_up DA2 4 (fun _ => 0), fun _ => [])) (lAll c n 801 (rn blk_ c n 0, false, fun _ => 0, fun _ _ => 0, fun _ => [])) := by
  refine lAll_r 801 ⟨rfl, rfl, rfl, ?_, ?_, ?_, ?_, ?_⟩
  · intro k h5 h6 h7
    show dclr D2 k = 0
    unfold dclr
    rw [if_neg (by omega)]
  · intro h
    exact absurd (show dclr D2 4 = 0 by unfold dclr; rw [if_neg (by omega)]) h
  · intro j hj k hk
    have : dclr D2 1 = 0 := by unfold dclr; rw [if_neg (by omega)]
    have hk : k < dclr D2 1 := hk
    omega
  · rfl
  · intro k hk
    have : dclr D2 8 = 0 := by unfold dclr; rw [if_neg (by omega)]
    have hk : k < dclr D2 8 := hk
    omega

section Md3
variable {sta : mj_S} {d : Nat} {th tr wh : Int32} {dr rd : Option Nat} {F : Nat → Int32} {wd : Int64} {ac im lw tk st : Int32} {sh ru : Int64} {rz aw al sd : Int32} {c : Nat → Nat} {V P Q : Nat → Int32} {r sn : Nat → Nat} {g f : Nat → Option Nat} {b1 b2 b3 b4 c0 : Nat → Nat} {t : mj_W}
theorem m_draft (L n : Nat) (h6 : F 6 = nI L) (hL : L ≤ 800) (hn : n ≤ L) (hc : bd 256 c) : mj_Sa sta (d + 9) 195 [.ref 151, (.int (nI n))] ([(mo th tr wh dr rd F wd ac im lw tk st sh ru rz aw al sd), (152, ab c), (153, aI 28 V)] ++ ([(154, aI 448 P), (155, aI 84 Q), (156, an r), (157, an sn), (158, sq g), (159, sq f), (160, aL 6 b1), (161, aL 6 b2), (162, aL 6 b3), (163, aL 36 b4), (164, aN 18 c0)] ++ t)) 8 54 (fun p v w => match lAll c n 801 (rn blk_ c n 0, false, fun _ => 0, fun _ _ => 0, fun _ => []) with
    | .inr e => v = some (.int (-1)) ∧ ∃ F' wd', F' 6 = 0 ∧ F' 12 = nI e.1 ∧ w = [(mo 0 4 (nI e.2) dr (some p) F' wd' ac im lw tk st sh ru rz aw al sd), (152, ab c), (153, aI 28 V)] ++ ([(154, aI 448 P), (155, aI 84 Q), (156, an r), (157, an sn), (158, sq g), (159, sq f), (160, aL 6 b1), (161, aL 6 b2), (162, aL 6 b3), (163, aL 36 b4), (164, aN 18 c0)] ++ t)
    | .inl s => v = some (.int (nI (s.2.2.1 1))) ∧ okP s.2.1 s.2.2.1 s.2.2.2.1 s.2.2.2.2 ∧ ∃ F' wd', F' 6 = 0 ∧ F' 12 = 0 ∧ w = ([(mo 0 0 (-1) (some p) (some p) F' wd' 0 0 lw tk st sh ru rz aw al sd), (152, ab c), (153, aI 28 (nVd (s.2.2.1 1) (s.2.2.2.1 0) (s.2.2.2.1 2) (s.2.2.1 3) V))] ++ md8 p s) ++ ([(154, aI 448 P), (155, aI 84 Q), (156, an r), (157, an sn), (158, sq g), (159, sq f), (160, aL 6 b1), (161, aL 6 b2), (162, aL 6 b3), (163, aL 36 b4), (164, aN 18 c0)] ++ t)) := by
  have hS := s_Mdraft sta d th tr wh dr rd F wd ac im lw tk st sh ru rz aw al sd c V L n h6 hL hn hc
  have h2 := hS.more ([(154, aI 448 P), (155, aI 84 Q), (156, an r), (157, an sn), (158, sq g), (159, sq f), (160, aL 6 b1), (161, aL 6 b2), (162, aL 6 b3), (163, aL 36 b4), (164, aN 18 c0)] ++ t) (fun p v w' hp k hk => by
    cases hA : lAll c n 801 (rn blk_ c n 0, false, fun _ => 0, fun _ _ => 0, fun _ => []) with
    | inr e =>
      rw [hA] at hp
      obtain ⟨-, F', wd', -, -, rfl⟩ := hp
      exact Or.inl hk
    | inl s =>
      rw [hA] at hp
      obtain ⟨-, -, F', wd', -, -, rfl⟩ := hp
      rw [mj_ks_app] at hk
      rcases List.mem_append.mp hk with h | h
      · exact Or.inl h
      · refine Or.inr ?_
        have h : k ∈ [p, p + 1, p + 2, p + 3, p + 4, p + 5, p + 6, p + 7] := h
        simp only [List.mem_cons, List.not_mem_nil, or_false] at h
        omega)
  intro h hv hl
  obtain ⟨v, w', h', ⟨u, hp, rfl⟩, k2⟩ := h2 h hv hl
  refine ⟨v, u ++ ([(154, aI 448 P), (155, aI 84 Q), (156, an r), (157, an sn), (158, sq g), (159, sq f), (160, aL 6 b1), (161, aL 6 b2), (162, aL 6 b3), (163, aL 36 b4), (164, aN 18 c0)] ++ t), h', ?_, k2⟩
  cases hA : lAll c n 801 (rn blk_ c n 0, false, fun _ => 0, fun _ _ => 0, fun _ => []) with
  | inr e =>
    rw [hA] at hp
    obtain ⟨q1, F', wd', q2, q3, rfl⟩ := hp
    exact ⟨q1, F', wd', q2, q3, rfl⟩
  | inl s =>
    rw [hA] at hp
    obtain ⟨q1, q0, F', wd', q2, q3, rfl⟩ := hp
    exact ⟨q1, q0, F', wd', q2, q3, rfl⟩
end Md3
theorem mj_Sa.post {sta : mj_S} {d mid : Nat} {as : List Value} {w : mj_W} {n z : Nat} {Po Qo : Nat → Option Value → mj_W → Prop} (hS : mj_Sa sta d mid as w n z Po) (hq : ∀ p v w', Po p v w' → Qo p v w') : mj_Sa sta d mid as w n z Qo := fun h hv hl => by
  obtain ⟨v, w', h', h1, h2⟩ := hS h hv hl
  exact ⟨v, w', h', hq _ _ _ h1, h2⟩
theorem pm_md {α : Type} {A B C D : List α} : ((A ++ B) ++ (C ++ D)).Perm (((A ++ C) ++ B) ++ D) := by
  rw [List.append_assoc, List.append_assoc, List.append_assoc]
  refine List.Perm.append_left A ?_
  rw [← List.append_assoc, ← List.append_assoc]
  exact List.Perm.append_right D List.perm_append_comm
theorem kz1 {A A' B : mj_W} (hA : mj_ks A' = mj_ks A) {p : Nat} : ∀ k ∈ mj_ks (A' ++ B), k ∈ mj_ks (A ++ B) ∨ p ≤ k := by
  intro k hk
  rw [mj_ks_app, hA, ← mj_ks_app] at hk
  exact Or.inl hk
theorem kz2 {A A' B C : mj_W} {p : Nat} (hA : mj_ks A' = mj_ks A) (hC : ∀ k ∈ mj_ks C, p ≤ k) : ∀ k ∈ mj_ks ((A' ++ C) ++ B), k ∈ mj_ks (A ++ B) ∨ p ≤ k := by
  intro k hk
  rw [mj_ks_app, mj_ks_app, hA] at hk
  rcases List.mem_append.mp hk with h | h
  · rcases List.mem_append.mp h with h | h
    · exact Or.inl (by rw [mj_ks_app]; exact List.mem_append_left _ h)
    · exact Or.inr (hC k h)
  · exact Or.inl (by rw [mj_ks_app]; exact List.mem_append_right _ h)
theorem kz8 (p : Nat) (t : PS) : ∀ k ∈ mj_ks (md8 p t), p ≤ k := by
  intro k hk
  have hk : k ∈ [p, p + 1, p + 2, p + 3, p + 4, p + 5, p + 6, p + 7] := hk
  simp only [List.mem_cons, List.not_mem_nil, or_false] at hk
  omega
section Sj
variable {sta : mj_S} {d Bd : Nat} {db : Bool} {a b L n : Nat} {fa pl en at_ be ki td va : Int32} {c na nl : Nat → Nat} {D : Nat → Nat} {DA : Nat → Nat → Nat} {D2 : Nat → Nat} {DA2 : Nat → Nat → Nat} {H : HN} {rg pa : Nat → Option Nat} {x cac cim : Nat} {R PH : Nat → HN} {tr0 : Int32} {w0 : mj_W}
variable {th tr wh : Int32} {dr rd : Option Nat} {F : Nat → Int32} {wd : Int64} {ac im lw tk st : Int32} {sh ru : Int64} {rz aw al sd : Int32} {V P Q : Nat → Int32} {r sn : Nat → Nat} {g f : Nat → Option Nat} {b1 b2 b3 b4 c0 : Nat → Nat} {t : mj_W}
theorem sja_in (hC : cS db a b (tpg (nI L) fa pl en at_ be ki td va) c na nl D DA D2 DA2 H rg pa x cac cim R PH tr0 w0) (hF : stF sta) (hD : okD D DA) (hD2 : okD D2 DA2) (hK : okK rg pa) (hx : x < 16) (ht : trel L c fa F) (hn : n ≤ L)
    (hbad : ∀ (e : FP) F' wd' p en at_ be ki td va na nl D2' DA2' w', okD D2' DA2' → trel 0 c (nI e.1) F' → cS db a b (tpg (nI 0) (nI e.1) (nI e.2) en at_ be ki td va) c na nl D DA D2' DA2' H rg pa x cac cim R PH 4 w' → ∃ u2 t2, ([(mo 0 4 (nI e.2) dr (some p) F' wd' ac im lw tk st sh ru rz aw al sd), (152, ab c), (153, aI 28 V)] ++ ([(154, aI 448 P), (155, aI 84 Q), (156, an r), (157, an sn), (158, sq g), (159, sq f), (160, aL 6 b1), (161, aL 6 b2), (162, aL 6 b3), (163, aL 36 b4), (164, aN 18 c0)] ++ t)).Perm (u2 ++ t2) ∧ J sta (Bd + 1) 4 w' u2) : sja sta (d + 9) (nI n) w0 ([(mo th tr wh dr rd F wd ac im lw tk st sh ru rz aw al sd), (152, ab c), (153, aI 28 V)] ++ ([(154, aI 448 P), (155, aI 84 Q), (156, an r), (157, an sn), (158, sq g), (159, sq f), (160, aL 6 b1), (161, aL 6 b2), (162, aL 6 b3), (163, aL 36 b4), (164, aN 18 c0)] ++ t)) Bd := by
  have hr := rd_r (c := c) (n := n) (D2 := D2) (DA2 := DA2)
  have s1 := up_draft (sta := sta) (d := d) n hC hn ht.1 hD2 ht.2.1
  have s2 := m_draft (sta := sta) (d := d) (th := th) (tr := tr) (wh := wh) (dr := dr) (rd := rd) (F := F) (wd := wd) (ac := ac) (im := im) (lw := lw) (tk := tk) (st := st) (sh := sh) (ru := ru) (rz := rz) (aw := aw) (al := al) (sd := sd) (c := c) (V := V) (P := P) (Q := Q) (r := r) (sn := sn) (g := g) (f := f) (b1 := b1) (b2 := b2) (b3 := b3) (b4 := b4) (c0 := c0) (t := t) L n ht.2.2.1 ht.1 hn ht.2.1
  cases hA : lAll c n 801 (rn blk_ c n 0, false, dclr D2, va_up DA2 4 (fun _ => 0), fun _ => []) with
  | inr e =>
    cases hB : lAll c n 801 (rn blk_ c n 0, false, fun _ => 0, fun _ _ => 0, fun _ => []) with
    | inl s => rw [hA, hB] at hr; exact hr.elim
    | inr e' =>
      rw [hA, hB] at hr
      have hr : e = e' := hr
      subst hr
      rw [hA] at s1
      rw [hB] at s2
      refine ⟨.int (-1), _, _, s1, s2.post (Qo := fun p v' u' => v' = some (.int (-1)) ∧ (∀ k ∈ mj_ks u', k ∈ mj_ks ([(mo th tr wh dr rd F wd ac im lw tk st sh ru rz aw al sd), (152, ab c), (153, aI 28 V)] ++ ([(154, aI 448 P), (155, aI 84 Q), (156, an r), (157, an sn), (158, sq g), (159, sq f), (160, aL 6 b1), (161, aL 6 b2), (162, aL 6 b3), (163, aL 36 b4), (164, aN 18 c0)] ++ t)) ∨ p ≤ k) ∧ ∃ p F' wd', F' 6 = 0 ∧ F' 12 = nI e.1 ∧ u' = [(mo 0 4 (nI e.2) dr (some p) F' wd' ac im lw tk st sh ru rz aw al sd), (152, ab c), (153, aI 28 V)] ++ ([(154, aI 448 P), (155, aI 84 Q), (156, an r), (157, an sn), (158, sq g), (159, sq f), (160, aL 6 b1), (161, aL 6 b2), (162, aL 6 b3), (163, aL 36 b4), (164, aN 18 c0)] ++ t)) (fun p v w' hp => ⟨hp.1, by
        obtain ⟨-, F', wd', -, -, rfl⟩ := hp
        exact kz1 rfl, p, hp.2⟩), ?_⟩
      rintro w' u' ⟨en', at', be', ki', td', va', na', nl', D2', DA2', k1, k2⟩ ⟨p, F', wd', q1, q2, rfl⟩
      obtain ⟨u2, t2, z1, z2⟩ := hbad e F' wd' p en' at' be' ki' td' va' na' nl' D2' DA2' w' k1 ⟨by decide, ht.2.1, q1, q2⟩ k2
      exact ⟨4, w', u2, t2, List.Perm.refl _, z1, z2⟩
  | inl s =>
    cases hB : lAll c n 801 (rn blk_ c n 0, false, fun _ => 0, fun _ _ => 0, fun _ => []) with
    | inr e => rw [hA, hB] at hr; exact hr.elim
    | inl s' =>
      rw [hA, hB] at hr
      have hpos := lAll_pos hA
      obtain ⟨si, st', D', DA', nm'⟩ := s
      obtain ⟨mi, mt, Dm, MA, nm2⟩ := s'
      obtain ⟨r1, r2, r3, r4, r5, r6, r7, r8⟩ := (hr : PSr (si, st', D', DA', nm') (mi, mt, Dm, MA, nm2))
      rw [hA] at s1
      rw [hB] at s2
      have e1 : D' 1 = Dm 1 := r4 1 (by decide) (by decide) (by decide)
      refine ⟨.int (nI (D' 1)), fun w' => okD D' DA' ∧ ∃ pl en at_ be ki td va na nl w2, w'.Perm w2 ∧ cS true b a (tpg (nI 0) (nI 0) pl en at_ be ki td va) c na nl D' DA' D DA (nw0 D' DA') rg pa x 0 0 R PH 0 w2, fun u' => okP mt Dm MA nm2 ∧ ∃ p F' wd', F' 6 = 0 ∧ F' 12 = 0 ∧ u' = ([(mo 0 0 (-1) (some p) (some p) F' wd' 0 0 lw tk st sh ru rz aw al sd), (152, ab c), (153, aI 28 (nVd (Dm 1) (MA 0) (MA 2) (Dm 3) V))] ++ md8 p (mi, mt, Dm, MA, nm2)) ++ ([(154, aI 448 P), (155, aI 84 Q), (156, an r), (157, an sn), (158, sq g), (159, sq f), (160, aL 6 b1), (161, aL 6 b2), (162, aL 6 b3), (163, aL 36 b4), (164, aN 18 c0)] ++ t), s1, s2.post (fun p v w' hp => ⟨by rw [e1]; exact hp.1, by
        obtain ⟨-, -, F', wd', -, -, rfl⟩ := hp
        exact kz2 rfl (kz8 p _), hp.2.1, p, hp.2.2⟩), ?_⟩
      rintro w' u' ⟨kD, pl', en', at', be', ki', td', va', na', nl', w2, kp, k1⟩ ⟨kP, p, F', wd', q1, q2, rfl⟩
      have e0 : D' 0 = Dm 0 := r4 0 (by decide) (by decide) (by decide)
      have e2 : D' 2 = Dm 2 := r4 2 (by decide) (by decide) (by decide)
      have e3 : D' 3 = Dm 3 := r4 3 (by decide) (by decide) (by decide)
      have e4 : D' 4 = Dm 4 := r4 4 (by decide) (by decide) (by decide)
      have e8 : D' 8 = Dm 8 := r4 8 (by decide) (by decide) (by decide)
      have hpos : 0 < D' 1 := hpos
      have hmt : mt = true := by
        cases mt with
        | true => rfl
        | false => have := (kP.2.1 rfl).1; omega
      subst hmt
      have hh : mdg p (tkI true Dm) Dm (hiI Dm) (erI Dm) (seI Dm) = mdh p D' (hiI D') (erI D') (seI D') := by
        unfold hiI erI seI tkI
        rw [e4]
        by_cases z4 : Dm 4 = 0
        · rw [if_pos z4, if_pos z4, if_pos z4, if_pos z4, if_pos z4, if_pos z4, if_pos rfl]
          show mdg p (nI (Dm 0)) Dm (-1) 0 0 = mdh p D' (-1) 0 0
          unfold mdg mdh
          rw [e0, e1, e2, e3, e8]
        · obtain ⟨x5, x6, x7⟩ := r5 (show D' 4 ≠ 0 by omega)
          have x5 : D' 5 = Dm 5 := x5
          have x6 : D' 6 = Dm 6 := x6
          have x7 : D' 7 = Dm 7 := x7
          rw [if_neg z4, if_neg z4, if_neg z4, if_neg z4, if_neg z4, if_neg z4, if_pos rfl, x5, x6, x7]
          unfold mdg mdh
          rw [e0, e1, e2, e3, e8]
      refine ⟨0, w2, mVd (some p) F' wd' (nI 0) (nI 0) c (nVd (D' 1) (MA 0) (MA 2) (D' 3) V) P Q p D' (hiI D') (erI D') (seI D') MA (fun k => pkd (nm2 k)) 0 (-1) 0 lw tk st sh ru rz aw al sd r sn g f b1 b2 b3 b4 c0, t, kp, ?_, Or.inl ⟨b, a, 0, nI 0, pl', en', at', be', ki', td', va', c, na', nl', D', DA', D, DA, nw0 D' DA', rg, pa, x, 0, 0, R, PH, some p, F', wd', nVd (D' 1) (MA 0) (MA 2) (D' 3) V, P, Q, p, MA, fun k => pkd (nm2 k), k1, ⟨0, lw, tk, st, sh, ru, rz, aw, al, sd, r, sn, g, f, b1, b2, b3, b4, c0, rfl⟩, ⟨hF, kD, hpos, r8, fun k hk => by rw [e1]; exact kP.2.2.2 k (by omega)⟩, nrel_draft kD hpos kP.1 r6 r7, ⟨hx, by omega, fun i hi => absurd hi (by omega)⟩, ⟨by omega, fun i hi => absurd hi (by omega)⟩, ⟨by decide, ht.2.1, q1, q2⟩, hD, hK⟩⟩
      show (_ ++ [mdg p (tkI true Dm) Dm (hiI Dm) (erI Dm) (seI Dm), _, _, _, _, _, _, _] ++ _).Perm _
      rw [hh, e1, e3]
      exact pm_md
end Sj
