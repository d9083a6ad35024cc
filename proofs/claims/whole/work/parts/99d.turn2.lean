/-! the law's switch: draft, led; a turn; the loop -/
section Lb
variable {sta : mj_S} {d : Nat} {M : mj_M} {T : Nat → mj_L → List Value → mj_H → Prop} {pc q len wp c : Nat} {lv : mj_L} {r : List Value} {h : mj_H} {w u t : mj_W} {raw : Instr} {i y : Int32} {f : Nat → Int64} {o o' : Nat × va_E}
theorem L_led {v : Value} {x y : Nat} {h' : mj_H} (h8 : 8 ≤ d) (he : mj_ent (mj_cd M) pc = some (q, .invokestatic c, len, raw, wp)) (hc : Nat.beq (c / 256) 3 = true) (hc2 : Nat.beq (c / 16 % 16) 3 = true) (hs : Nat.ble (r.map Value.category).sum 8 = true) (hC : mj_bi sta (mj_Cl sta d) 3 [.ref x, .int i, .ref y] h (some v) h') (k : mj_go sta (mj_Cl sta (d + 1)) M T (q + 3) lv (v :: r) h') : mj_go sta (mj_Cl sta (d + 1)) M T pc lv (.ref y :: .int i :: .ref x :: r) h := by
  have e1 := mj_ent_pc he
  dsimp only at e1
  subst e1
  have e2 := Nat.eq_of_beq_eq_true hc2
  have e3 := Nat.eq_of_beq_eq_true hc
  refine mj_go.call (v := some v) (h' := h') he rfl (by show c / 16 % 16 ≤ _; rw [e2]; exact Nat.le_add_left 3 _) trivial ?_ ?_ ?_
  · show ((List.drop (c / 16 % 16) (Value.ref y :: .int i :: .ref x :: r)).map Value.category).sum ≤ 8
    rw [e2]
    exact Nat.le_of_ble_eq_true hs
  · show mj_Cl sta (d + 1) (c / 256) (List.take (c / 16 % 16) (Value.ref y :: .int i :: .ref x :: r)).reverse h (some v) h'
    rw [e2, e3]
    exact Or.inl ⟨hC, fun _ => h8⟩
  · show mj_go sta (mj_Cl sta (d + 1)) M T (q + 3) lv (v :: List.drop (c / 16 % 16) (Value.ref y :: .int i :: .ref x :: r)) h'
    rw [e2]
    exact k
theorem pm_o : (w ++ (u ++ (o :: t))).Perm (o :: (w ++ (u ++ t))) := by
  rw [← List.append_assoc, ← List.append_assoc]
  exact List.perm_middle
theorem L_ledF {CP : mj_W → Prop} (h8 : 8 ≤ d) (hfs : ∃ fs, mj_nth h.1 0 = some (.inr (8, fs))) (hv : mj_vw (w ++ (u ++ ((165, .inl (1, 1, .inr (.inl f))) :: t))) h) (he : mj_ent (mj_cd M) pc = some (q, .invokestatic c, len, raw, wp)) (hc : Nat.beq (c / 256) 3 = true) (hc2 : Nat.beq (c / 16 % 16) 3 = true) (hs : Nat.ble (r.map Value.category).sum 8 = true) (s1 : mj_Sx sta d 128 [.ref 0, .int i] w (fun v w' => v = some (.int y) ∧ CP w'))
    (k : ∀ w1 g2, CP w1 → mj_vw (w1 ++ (u ++ ((165, .inl (1, 1, .inr (.inl (vp_updL f 0 y.toInt64)))) :: t))) g2 → g2.1.length = h.1.length → g2.2 = h.2 → mj_go sta (mj_Cl sta (d + 1)) M T (q + 3) lv (.int 0 :: r) g2) : mj_go sta (mj_Cl sta (d + 1)) M T pc lv (.ref 165 :: .int i :: .ref 0 :: r) h := by
  obtain ⟨v1, w1, g1, ⟨rfl, hp⟩, hk, hv1, hC⟩ := s1 h hv.pre
  have hv3 := (hv.V.preC hk hv1).perm pm_o
  have ho : mj_nth g1.1 165 = some (.inl (1, 0 + 1, .inr (.inl f))) := hv3.1.2 0 _ _ rfl
  refine L_led h8 he hc hc2 hs (Or.inr (Or.inr (Or.inr ⟨rfl, Or.inl ⟨0, 165, i, rfl, hfs, Or.inl ⟨y, g1, 0, f, hC, ho, rfl, rfl⟩⟩⟩))) ?_
  have hv4 : mj_Vw h ((165, .inl (1, 1, .inr (.inl (vp_updL f 0 y.toInt64)))) :: (w1 ++ (u ++ t))) (g1.1.set 165 (.inl (1, 0 + 1, .inr (.inl (vp_updL f 0 y.toInt64)))), g1.2) := hv3.set (j := 0) rfl
  exact k w1 _ hp (hv4.1.perm pm_o.symm) hv4.2.1 hv4.2.2.1
theorem vw_app {x : va_E} {z : Nat} (hv : mj_vw w h) (hb : h.1.length + 1 ≤ mj_SB) : mj_vw w (h.1 ++ [x], z) := by
  refine ⟨⟨hv.1.1, by simpa using hb⟩, fun j a e hj => ?_⟩
  have h1 := hv.2 j a e hj
  have hl := mj_nth_lt h1
  rw [mj_nth_eq] at h1 ⊢
  show (h.1 ++ [x])[a]? = _
  rw [List.getElem?_append_left hl]
  exact h1
theorem L_ledN (h8 : 8 ≤ d) (hfs : ∃ fs, mj_nth h.1 0 = some (.inr (8, fs))) (hv : mj_vw (w ++ t) h) (hb : h.1.length + 1 ≤ mj_SB) (he : mj_ent (mj_cd M) pc = some (q, .invokestatic c, len, raw, wp)) (hc : Nat.beq (c / 256) 3 = true) (hc2 : Nat.beq (c / 16 % 16) 3 = true) (hs : Nat.ble (r.map Value.category).sum 8 = true) (s1 : lno sta d i w)
    (k : ∀ g2, mj_vw (w ++ t) g2 → g2.1.length = h.1.length + 1 → g2.2 = h.2 + 6 → mj_go sta (mj_Cl sta (d + 2)) M T (q + 3) lv (.int 1 :: r) g2) : mj_go sta (mj_Cl sta (d + 2)) M T pc lv (.ref 165 :: .int i :: .ref 0 :: r) h := by
  obtain ⟨h1, hv1, hg⟩ := s1 h hv.pre
  have hv3 := hv.V.preC rfl hv1
  have e1 : h1.1.length = h.1.length := hv3.2.1
  have e2 : h1.2 = h.2 := hv3.2.2.1
  refine L_led (d := d + 1) (by omega) he hc hc2 hs (Or.inr (Or.inr (Or.inr ⟨rfl, Or.inl ⟨0, 165, i, rfl, hfs, Or.inr ⟨Or.inl ⟨Or.inr (Or.inr (Or.inr ⟨rfl, Or.inr ⟨0, i, h1, rfl, hg, rfl, rfl⟩⟩)), fun _ => h8⟩, rfl⟩⟩⟩))) ?_
  exact k _ (vw_app hv3.1 (by omega)) (by simp [e1]) (by show h1.2 + 6 = _; rw [e2])
end Lb
theorem t_1 {sta : mj_S} {Bd L n : Nat} {xs : Nat → Int32} {T : Nat → mj_L → List Value → mj_H → Prop} {h : mj_H} {a b : Option Value} (hs : sta (mj_SB + 101) = some (L, xs)) (h1 : vp_in (nI n + Int32.ofInt 1) L) (h2 : vp_in (nI n + Int32.ofInt 2) L) (h3 : vp_in (nI n + Int32.ofInt 3) L) (h4 : vp_in (nI n + Int32.ofInt 4) L) (h5 : vp_in (nI n + Int32.ofInt 5) L) (hB : Bd < 2 ^ 20) (hI : LI sta Bd h) (hK : ∀ h a b, LI sta (Bd + 1) h → mj_go sta (mj_Cl sta 11) m_L_law T 2027 [some (.ref (mj_SB + 101)), some (.ref 0), some (.ref 151), some (.ref 165), some (.int (nI n)), a, b] [] h) : mj_go sta (mj_Cl sta 11) m_L_law T 341 [some (.ref (mj_SB + 101)), some (.ref 0), some (.ref 151), some (.ref 165), some (.int (nI n)), a, b] [] h := by
  obtain ⟨tr, w, u, f, t, hJ, hv, hl, hz⟩ := hI
  obtain ⟨fs, hf⟩ := (J_at hJ).2
  have hV := hv.V
  repeat (first | refine g_sald hV hs rfl (by assumption) ?_ | refine g_px rfl rfl rfl ?_)
  rcases J_draft (d := 2) (xs (nI n + Int32.ofInt 1).toNatClampNeg) hJ with hsj | ⟨v, CP, MP, s1, s2, s3⟩
  · refine L_oneI hv hJ rfl rfl rfl rfl rfl rfl rfl n_X8_draft rfl hsj (fun x MP w1 h6 s2 s3 hv e1 e2 => ?_)
    have hV := hv.V
    repeat (first | refine g_sald hV hs rfl (by assumption) ?_ | refine g_px rfl rfl rfl ?_)
    refine L_twoV hv hf rfl rfl rfl rfl rfl rfl s2 (fun u1 h7 hp hv e3 e4 => ?_)
    obtain ⟨tr1, hJ1⟩ := s3 u1 hp
    exact g_ic rfl (fun _ => hK h7 a b ⟨tr1, w1, u1, f, t, hJ1, hv, by omega, by omega⟩) (fun cq => absurd rfl cq)
  · have hx : ∃ x, v = .int x := by
      obtain ⟨v1, w1, g1, ⟨hp, -⟩, -, -, hC⟩ := s1 h hv.pre
      subst hp
      obtain ⟨pc1, lv1, st1, g1, hret⟩ := Cl_met rfl n_X8_draft hC
      exact ret_int rfl hret
    obtain ⟨x, rfl⟩ := hx
    refine L_oneV hv hJ rfl rfl rfl rfl rfl rfl s1 (fun w1 h6 hp _ hv e1 e2 => ?_)
    have hV := hv.V
    repeat (first | refine g_sald hV hs rfl (by assumption) ?_ | refine g_px rfl rfl rfl ?_)
    refine L_twoA hv (by have : mj_SB = 1000000000 := rfl; omega) hf rfl rfl rfl rfl rfl rfl s2 (fun u1 h7 hq hv e3 e4 => ?_)
    obtain ⟨tr1, w2, u2, t2, p1, p2, hJ1⟩ := s3 w1 u1 hp hq
    have hv2 : mj_vw (w2 ++ (u2 ++ ((165, .inl (1, 1, .inr (.inl f))) :: (t2 ++ t)))) h7 := by
      refine hv.perm (p1.append ((p2.append_right _).trans ?_))
      rw [List.append_assoc]
      exact List.Perm.append_left u2 List.perm_middle
    exact g_ic rfl (fun _ => hK h7 a b ⟨tr1, w2, u2, f, t2 ++ t, hJ1, hv2, by omega, by omega⟩) (fun cq => absurd rfl cq)
theorem t_50 {sta : mj_S} {Bd L n : Nat} {xs : Nat → Int32} {T : Nat → mj_L → List Value → mj_H → Prop} {h : mj_H} {a b : Option Value} (hs : sta (mj_SB + 101) = some (L, xs)) (h1 : vp_in (nI n + Int32.ofInt 1) L) (h2 : vp_in (nI n + Int32.ofInt 2) L) (h3 : vp_in (nI n + Int32.ofInt 3) L) (h4 : vp_in (nI n + Int32.ofInt 4) L) (h5 : vp_in (nI n + Int32.ofInt 5) L) (hB : Bd < 2 ^ 20) (hI : LI sta Bd h) (hK : ∀ h a b, LI sta (Bd + 1) h → mj_go sta (mj_Cl sta 11) m_L_law T 2027 [some (.ref (mj_SB + 101)), some (.ref 0), some (.ref 151), some (.ref 165), some (.int (nI n)), a, b] [] h) : mj_go sta (mj_Cl sta 11) m_L_law T 1933 [some (.ref (mj_SB + 101)), some (.ref 0), some (.ref 151), some (.ref 165), some (.int (nI n)), a, b] [] h := by
  obtain ⟨tr, w, u, f, t, hJ, hv, hl, hz⟩ := hI
  obtain ⟨fs, hf⟩ := (J_at hJ).2
  have hfs : ∃ fs, mj_nth h.1 0 = some (.inr (8, fs)) := by
    obtain ⟨fs8, hf8⟩ := (J_at hJ).1
    exact ⟨fs8, hv.2 0 _ _ (mj_nth_l hf8)⟩
  have hV := hv.V
  repeat (first | refine g_sald hV hs rfl (by assumption) ?_ | refine g_px rfl rfl rfl ?_)
  rcases J_led (d := 2) (xs (nI n + Int32.ofInt 1).toNatClampNeg) hJ with ⟨m, CP, MP, s1, s2, s3⟩ | ⟨MP, s1, s2, s3⟩
  · refine L_ledF (by decide) hfs hv rfl rfl rfl rfl s1 (fun w1 h6 hp hv e1 e2 => ?_)
    have hV := hv.V
    refine g_px rfl rfl rfl ?_
    show mj_go sta (mj_Cl sta 11) m_L_law T 1946 [some (.ref (mj_SB + 101)), some (.ref 0), some (.ref 151), some (.ref 165), some (.int (nI n)), some (.int 0), b] [] h6
    repeat (first | refine g_sald hV hs rfl (by assumption) ?_ | refine g_px rfl rfl rfl ?_)
    refine L_twoV hv hf rfl rfl rfl rfl rfl rfl s2 (fun u1 h7 hq hv e3 e4 => ?_)
    obtain ⟨hJ1, ht⟩ := s3 w1 u1 hp hq
    obtain ⟨fs1, hf1⟩ := (J_at hJ1).2
    refine g_px rfl rfl rfl ?_
    show mj_go sta (mj_Cl sta 11) m_L_law T 1958 [some (.ref (mj_SB + 101)), some (.ref 0), some (.ref 151), some (.ref 165), some (.int (nI n)), some (.int 0), some (.int (nI m))] [] h7
    refine g_px rfl rfl rfl ?_
    refine L_twoV hv hf1 rfl rfl rfl rfl rfl rfl (MP := fun u' => u' = u1) (show mj_Sx sta 11 160 (.ref 151 :: []) u1 (fun v u' => v = some (.int 0) ∧ u' = u1) from ht) (fun u2 h8 e hv8 e5 e6 => ?_)
    subst e
    refine g_px rfl rfl rfl ?_
    refine g_ic rfl (fun _ => ?_) (fun cq => absurd rfl cq)
    refine g_px rfl rfl rfl ?_
    refine g_if rfl (fun cq => absurd rfl cq) (fun _ => ?_)
    refine g_run 2 rfl ?_
    refine g_lald (n := 1) (hv8.perm pm_o).V 0 rfl rfl (by unfold vp_in; decide) ?_
    refine g_run 3 rfl ?_
    refine g_if rfl (fun _ => ?_) (fun cq => absurd ((lg_cmp_eq _ _).mpr (show vp_updL f 0 (nI m).toInt64 (Int32.ofInt 0).toNatClampNeg = (nI m).toInt64 from if_pos rfl)) cq)
    refine g_px rfl rfl rfl ?_
    exact hK h8 _ _ ⟨tr, w1, u2, _, t, hJ1, hv8, by omega, by omega⟩
  · refine L_ledN (by decide) hfs hv (by have : mj_SB = 1000000000 := rfl; omega) rfl rfl rfl rfl s1 (fun h6 hv e1 e2 => ?_)
    have hV := hv.V
    refine g_px rfl rfl rfl ?_
    show mj_go sta (mj_Cl sta 11) m_L_law T 1946 [some (.ref (mj_SB + 101)), some (.ref 0), some (.ref 151), some (.ref 165), some (.int (nI n)), some (.int 1), b] [] h6
    repeat (first | refine g_sald hV hs rfl (by assumption) ?_ | refine g_px rfl rfl rfl ?_)
    refine L_twoV hv hf rfl rfl rfl rfl rfl rfl s2 (fun u1 h7 hq hv e3 e4 => ?_)
    obtain ⟨hJ1, ht⟩ := s3 u1 hq
    obtain ⟨fs1, hf1⟩ := (J_at hJ1).2
    refine g_px rfl rfl rfl ?_
    show mj_go sta (mj_Cl sta 11) m_L_law T 1958 [some (.ref (mj_SB + 101)), some (.ref 0), some (.ref 151), some (.ref 165), some (.int (nI n)), some (.int 1), some (.int 0)] [] h7
    refine g_px rfl rfl rfl ?_
    refine L_twoV hv hf1 rfl rfl rfl rfl rfl rfl (MP := fun u' => u' = u1) (show mj_Sx sta 11 160 (.ref 151 :: []) u1 (fun v u' => v = some (.int 1) ∧ u' = u1) from ht) (fun u2 h8 e hv8 e5 e6 => ?_)
    subst e
    refine g_px rfl rfl rfl ?_
    refine g_ic rfl (fun _ => ?_) (fun cq => absurd rfl cq)
    refine g_px rfl rfl rfl ?_
    refine g_if rfl (fun _ => ?_) (fun cq => absurd (cpT (by decide)) cq)
    refine g_px rfl rfl rfl ?_
    exact hK h8 _ _ ⟨tr, w, u2, f, t, hJ1, hv8, by omega, by omega⟩
