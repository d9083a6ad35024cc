/-! the law's turn: what a call answers; calls; boolean arguments -/
theorem mj_go.ex {sta : mj_S} {Cl : mj_R} {M : mj_M} {T : Nat → mj_L → List Value → mj_H → Prop} {pc : Nat} {lv : mj_L} {st : List Value} {h : mj_H} (hg : mj_go sta Cl M T pc lv st h) : ∃ pc1 lv1 st1 h1, T pc1 lv1 st1 h1 ∧ mj_go sta Cl M (fun p l s g => p = pc1 ∧ l = lv1 ∧ s = st1 ∧ g = h1) pc lv st h := by
  refine hg (fun pc lv st h => ∃ pc1 lv1 st1 h1, T pc1 lv1 st1 h1 ∧ mj_go sta Cl M (fun p l s g => p = pc1 ∧ l = lv1 ∧ s = st1 ∧ g = h1) pc lv st h) ?_ ?_ ?_
  · intro pc lv st h ht
    exact ⟨pc, lv, st, h, ht, mj_go.here ⟨rfl, rfl, rfl, rfl⟩⟩
  · rintro pc lv st h e pc' lv' st' h' he hn ⟨a, b, c, g, h1, h2⟩
    exact ⟨a, b, c, g, h1, mj_go.nx he hn h2⟩
  · rintro pc lv st h e c v h' he hc hl hr hs hC ⟨a, b, c', g, h1, h2⟩
    exact ⟨a, b, c', g, h1, mj_go.call he hc hl hr hs hC h2⟩
def rtI (M : mj_M) : Bool := match mj_rt M with
  | some .int => true
  | some .boolean => true
  | _ => false
def isIret (i : Instr) : Bool := match i with
  | .ireturn => true
  | _ => false
def noI (M : mj_M) : Bool := (mj_cd M).all fun r => r.all fun e => !isIret e.2.1
theorem ret_int {M : mj_M} {v : Value} {h' h : mj_H} {pc : Nat} {lv : mj_L} {st : List Value} (hr : rtI M = true) (ht : mj_ret M (some v) h' pc lv st h) : ∃ x : Int32, v = .int x := by
  obtain ⟨-, e, he, hm⟩ := ht
  unfold rtI at hr
  split at hm
  · exact absurd hm.2.1 (fun z => by cases z)
  · obtain ⟨x, ty, -, e1, -⟩ := hm
    cases e1
    exact ⟨x, rfl⟩
  · obtain ⟨x, -, -, e1⟩ := hm
    rw [e1] at hr
    have hr : false = true := hr
    cases hr
  · obtain ⟨a, C, -, -, e1⟩ := hm
    rw [e1] at hr
    have hr : false = true := hr
    cases hr
  · exact hm.elim
theorem ret_long {M : mj_M} {v : Value} {h' h : mj_H} {pc : Nat} {lv : mj_L} {st : List Value} (hr : mj_rt M = some .long) (hn : noI M = true) (ht : mj_ret M (some v) h' pc lv st h) : ∃ x : Int64, v = .long x := by
  obtain ⟨-, e, he, hm⟩ := ht
  have hi : (!isIret e.2.1) = true := by
    unfold mj_ent at he
    cases hq : mj_nth (mj_cd M) (pc / 32) with
    | none => rw [hq] at he; cases he
    | some r =>
      rw [hq] at he
      exact List.all_eq_true.mp (List.all_eq_true.mp hn r (mj_nth_mem hq)) e (mj_find_spec he).1
  split at hm
  · exact absurd hm.2.1 (fun z => by cases z)
  · rename_i hq
    rw [hq] at hi
    have hi : false = true := hi
    cases hi
  · obtain ⟨x, -, e1, -⟩ := hm
    cases e1
    exact ⟨x, rfl⟩
  · obtain ⟨a, C, -, -, e1⟩ := hm
    rw [hr] at e1
    cases e1
  · exact hm.elim
theorem Cl_met {sta : mj_S} {d mid : Nat} {as : List Value} {h h' : mj_H} {v : Value} {M : mj_M} (h4 : Nat.ble 4 mid = true) (hM : mj_nth mj_ms mid = some M) (hC : mj_Cl sta d mid as h (some v) h') : ∃ pc lv st h1, mj_ret M (some v) h' pc lv st h1 := by
  have h4 := Nat.le_of_ble_eq_true h4
  cases d with
  | zero => exact hC.elim
  | succ d =>
    rcases hC with ⟨hb, -⟩ | ⟨M', -, hM', -, hg⟩
    · rcases hb with ⟨z, -⟩ | ⟨z, -⟩ | ⟨z, -⟩ | ⟨z, -⟩ <;> omega
    · rw [hM] at hM'
      cases hM'
      obtain ⟨a, b, c, g, h1, -⟩ := mj_go.ex hg
      exact ⟨a, b, c, g, h1⟩
theorem lgc_self (x : Int64) : lg_cmp x x = 0 := by
  exact (lg_cmp_eq x x).mpr rfl
section Lx
variable {sta : mj_S} {d Bd : Nat} {M M1 : mj_M} {T : Nat → mj_L → List Value → mj_H → Prop} {pc q len wp c : Nat} {lv : mj_L} {st rest ar as2 r : List Value} {h : mj_H} {w u t : mj_W} {raw : Instr} {tr : Int32} {i2 : Nat} {Cl : mj_R}
theorem L_oneV (hv : mj_vw (w ++ (u ++ t)) h) (hJ : J sta Bd tr w u) (he : mj_ent (mj_cd M) pc = some (q, .invokevirtual c, len, raw, wp)) (hc : Nat.beq (c % 16) 8 = true) (hlen : Nat.ble (c / 16 % 16) st.length = true) (has : (st.take (c / 16 % 16)).reverse = .ref 0 :: ar) (hdr : st.drop (c / 16 % 16) = rest) (hcat : Nat.ble (rest.map Value.category).sum 8 = true) {v : Value} {CP : mj_W → Prop} (s1 : mj_Sx sta d (c / 256) (.ref 0 :: ar) w (fun v' w' => v' = some v ∧ CP w'))
    (k : ∀ (w' : mj_W) (h' : mj_H), CP w' → mj_ks w' = mj_ks w → mj_vw (w' ++ (u ++ t)) h' → h'.1.length = h.1.length → h'.2 = h.2 → mj_go sta (mj_Cl sta d) M T (q + 3) lv (v :: rest) h') : mj_go sta (mj_Cl sta d) M T pc lv st h := by
  obtain ⟨fs, hf⟩ := (J_at hJ).1
  refine g_callVp (h0 := h) hv.V 0 he hlen has (fs := fs) (by rw [Nat.eq_of_beq_eq_true hc]; exact hf) hdr hcat s1 (fun v' w' h' hp hk hv' => ?_)
  obtain ⟨rfl, hp⟩ := hp
  exact k w' h' hp hk hv'.1 hv'.2.1 hv'.2.2.1
theorem L_oneI (hv : mj_vw (w ++ (u ++ t)) h) (hJ : J sta Bd tr w u) (he : mj_ent (mj_cd M) pc = some (q, .invokevirtual c, len, raw, wp)) (hc : Nat.beq (c % 16) 8 = true) (h4 : Nat.ble 4 (c / 256) = true) (hlen : Nat.ble (c / 16 % 16) st.length = true) (has : (st.take (c / 16 % 16)).reverse = .ref 0 :: ar) (hdr : st.drop (c / 16 % 16) = rest) (hcat : Nat.ble (rest.map Value.category).sum 8 = true) (hM : mj_nth mj_ms (c / 256) = some M1) (hr : rtI M1 = true) (hs : sjp sta d (c / 256) i2 (.ref 0 :: ar) as2 w u Bd)
    (k : ∀ (x : Int32) (MP : mj_W → Prop) (w' : mj_W) (h' : mj_H), mj_Sx sta d i2 as2 u (fun v' u' => v' = some (.int x) ∧ MP u') → (∀ u', MP u' → ∃ tr', J sta (Bd + 1) tr' w' u') → mj_vw (w' ++ (u ++ t)) h' → h'.1.length = h.1.length → h'.2 = h.2 → mj_go sta (mj_Cl sta d) M T (q + 3) lv (.int x :: rest) h') : mj_go sta (mj_Cl sta d) M T pc lv st h := by
  obtain ⟨v, CP, MP, s1, s2, s3⟩ := hs
  have hx : ∃ x, v = .int x := by
    obtain ⟨v1, w1, h1, ⟨hp, -⟩, -, -, hC⟩ := s1 h hv.pre
    subst hp
    obtain ⟨pc1, lv1, st1, g1, hret⟩ := Cl_met h4 hM hC
    exact ret_int hr hret
  obtain ⟨x, rfl⟩ := hx
  exact L_oneV hv hJ he hc hlen has hdr hcat s1 (fun w' h' hp _ hv' e1 e2 => k x MP w' h' s2 (fun u' hu => s3 w' u' hp hu) hv' e1 e2)
theorem L_oneL (hv : mj_vw (w ++ (u ++ t)) h) (hJ : J sta Bd tr w u) (he : mj_ent (mj_cd M) pc = some (q, .invokevirtual c, len, raw, wp)) (hc : Nat.beq (c % 16) 8 = true) (h4 : Nat.ble 4 (c / 256) = true) (hlen : Nat.ble (c / 16 % 16) st.length = true) (has : (st.take (c / 16 % 16)).reverse = .ref 0 :: ar) (hdr : st.drop (c / 16 % 16) = rest) (hcat : Nat.ble (rest.map Value.category).sum 8 = true) (hM : mj_nth mj_ms (c / 256) = some M1) (hr : mj_rt M1 = some .long) (hn : noI M1 = true) (hs : sjp sta d (c / 256) i2 (.ref 0 :: ar) as2 w u Bd)
    (k : ∀ (x : Int64) (MP : mj_W → Prop) (w' : mj_W) (h' : mj_H), mj_Sx sta d i2 as2 u (fun v' u' => v' = some (.long x) ∧ MP u') → (∀ u', MP u' → ∃ tr', J sta (Bd + 1) tr' w' u') → mj_vw (w' ++ (u ++ t)) h' → h'.1.length = h.1.length → h'.2 = h.2 → mj_go sta (mj_Cl sta d) M T (q + 3) lv (.long x :: rest) h') : mj_go sta (mj_Cl sta d) M T pc lv st h := by
  obtain ⟨v, CP, MP, s1, s2, s3⟩ := hs
  have hx : ∃ x, v = .long x := by
    obtain ⟨v1, w1, h1, ⟨hp, -⟩, -, -, hC⟩ := s1 h hv.pre
    subst hp
    obtain ⟨pc1, lv1, st1, g1, hret⟩ := Cl_met h4 hM hC
    exact ret_long hr hn hret
  obtain ⟨x, rfl⟩ := hx
  exact L_oneV hv hJ he hc hlen has hdr hcat s1 (fun w' h' hp _ hv' e1 e2 => k x MP w' h' s2 (fun u' hu => s3 w' u' hp hu) hv' e1 e2)
theorem pm_3 {A B C : mj_W} : (A ++ (B ++ C)).Perm (B ++ (A ++ C)) := by
  rw [← List.append_assoc, ← List.append_assoc]
  exact List.Perm.append_right C List.perm_append_comm
theorem L_twoV {v : Value} {MP : mj_W → Prop} {w' : mj_W} {fs : List Value} (hv : mj_vw (w' ++ (u ++ t)) h) (hf : mj_nth u 0 = some (151, .inr (10, fs))) (he : mj_ent (mj_cd M) pc = some (q, .invokevirtual c, len, raw, wp)) (hc : Nat.beq (c % 16) 10 = true) (hlen : Nat.ble (c / 16 % 16) st.length = true) (has : (st.take (c / 16 % 16)).reverse = .ref 151 :: ar) (hdr : st.drop (c / 16 % 16) = rest) (hcat : Nat.ble (rest.map Value.category).sum 8 = true) (s2 : mj_Sx sta d (c / 256) (.ref 151 :: ar) u (fun v' u' => v' = some v ∧ MP u'))
    (k : ∀ u' h', MP u' → mj_vw (w' ++ (u' ++ t)) h' → h'.1.length = h.1.length → h'.2 = h.2 → mj_go sta (mj_Cl sta d) M T (q + 3) lv (v :: rest) h') : mj_go sta (mj_Cl sta d) M T pc lv st h := by
  refine g_callVp (h0 := h) (hv.perm pm_3).V 0 he hlen has (fs := fs) (by rw [Nat.eq_of_beq_eq_true hc]; exact hf) hdr hcat s2 (fun v' u' h' hp hk hv' => ?_)
  obtain ⟨rfl, hp⟩ := hp
  exact k u' h' hp (hv'.1.perm pm_3) hv'.2.1 hv'.2.2.1
/-- the reference's draft, which makes cells -/
theorem L_twoA {v : Value} {MP : mj_W → Prop} {w' : mj_W} {fs : List Value} {n z : Nat} (hv : mj_vw (w' ++ (u ++ t)) h) (hb : h.1.length + n ≤ mj_SB) (hf : mj_nth u 0 = some (151, .inr (10, fs))) (he : mj_ent (mj_cd M) pc = some (q, .invokevirtual c, len, raw, wp)) (hc : Nat.beq (c % 16) 10 = true) (hlen : Nat.ble (c / 16 % 16) st.length = true) (has : (st.take (c / 16 % 16)).reverse = .ref 151 :: ar) (hdr : st.drop (c / 16 % 16) = rest) (hcat : Nat.ble (rest.map Value.category).sum 8 = true) (s2 : mj_Sa sta d (c / 256) (.ref 151 :: ar) u n z (fun p v' u' => v' = some v ∧ (∀ k ∈ mj_ks u', k ∈ mj_ks u ∨ p ≤ k) ∧ MP u'))
    (k : ∀ u' h', MP u' → mj_vw (w' ++ (u' ++ t)) h' → h'.1.length = h.1.length + n → h'.2 = h.2 + z → mj_go sta (mj_Cl sta d) M T (q + 3) lv (v :: rest) h') : mj_go sta (mj_Cl sta d) M T pc lv st h := by
  subst hdr
  have hv1 := hv.perm pm_3
  obtain ⟨v', u', h', ⟨uu, ⟨p1, p2, p3⟩, rfl⟩, q2, q3, q4, q5, q6⟩ := s2.more (w' ++ t) (fun p v w1 hp => hp.2.1) h hv1 hb
  subst p1
  have e1 := mj_ent_pc he
  dsimp only at e1
  subst e1
  refine mj_go.call (v := some v) (h' := h') he rfl (Nat.le_of_ble_eq_true hlen) (Or.inr ⟨151, ar, fs, has, ?_⟩) (Nat.le_of_ble_eq_true hcat) (by rw [has]; exact q6) (k uu h' p3 (q2.perm pm_3) q3 q4)
  rw [Nat.eq_of_beq_eq_true hc]
  exact hv1.2 0 _ _ (mj_nth_l hf)
theorem L_bool {x : Int32} {q1 w1 q2 w2 q3 w3 : Nat} {r0 r1 r2 r3 : Instr} (he : mj_ent (mj_cd M) pc = some (q, .ifCond .eq 7, 3, r0, wp)) (h1 : mj_ent (mj_cd M) (q + 3) = some (q1, .iconst 1, 1, r1, w1)) (h2 : mj_ent (mj_cd M) (q + 4) = some (q2, .goto 4, 3, r2, w2)) (h3 : mj_ent (mj_cd M) (q + 7) = some (q3, .iconst 0, 1, r3, w3)) (k : mj_go sta Cl M T (q + 8) lv (.int (bl (!decide (x = 0))) :: r) h) : mj_go sta Cl M T pc lv (.int x :: r) h := by
  have e1 := mj_ent_pc h1
  have e2 := mj_ent_pc h2
  have e3 := mj_ent_pc h3
  dsimp only at e1 e2 e3
  subst e1; subst e2; subst e3
  refine g_if he (fun cq => ?_) (fun cq => ?_)
  · have cq : x = 0 := cq
    rw [decide_eq_true cq] at k
    rw [show mj_tg q 7 = q + 7 by unfold mj_tg; omega]
    exact g_nx h3 (show some (q + 7 + 1, lv, Value.int (Int32.ofInt 0) :: r, h) = _ from rfl) k
  · have cq : ¬ x = 0 := cq
    rw [decide_eq_false cq] at k
    refine g_nx h1 (show some (q + 3 + 1, lv, Value.int (Int32.ofInt 1) :: r, h) = _ from rfl) ?_
    refine g_nx h2 (show some (mj_tg (q + 4) 4, lv, Value.int (Int32.ofInt 1) :: r, h) = _ from rfl) ?_
    rw [show mj_tg (q + 4) 4 = q + 8 by unfold mj_tg; omega]
    exact k
theorem g_slen {a n : Nat} {f : Nat → Int32} {h0 : mj_H} {w : mj_W} (hv : mj_Vw h0 w h) (hs : sta (mj_SB + a) = some (n, f)) (he : mj_ent (mj_cd M) pc = some (q, .arraylength, len, raw, wp)) (k : mj_go sta Cl M T (q + len) lv (.int (nI n) :: r) h) : mj_go sta Cl M T pc lv (.ref (mj_SB + a) :: r) h := by
  refine g_nx he ?_ k
  have hno : mj_nth h.1 (mj_SB + a) = none := by
    rw [mj_nth_eq]
    exact List.getElem?_eq_none (Nat.le_trans hv.1.1.2 (Nat.le_add_right _ _))
  simp only [mj_nx, mj_ints, hno, hs]
  rfl
end Lx
theorem J_mono {sta : mj_S} {Bd : Nat} {tr : Int32} {w u : mj_W} (hJ : J sta Bd tr w u) : J sta (Bd + 1) tr w u := by
  rcases hJ with ⟨a, b, L, fa, pl, en, at_, be, ki, td, va, c, na, nl, D, DA, D2, DA2, H, rg, pa, x, ac, im, R, P, rd, F, wd, V, PP, QQ, q, MA, nm, h1, h2, h3, h4, h5, h6, h7, h8, h9⟩ | hU
  · exact Or.inl ⟨a, b, L, fa, pl, en, at_, be, ki, td, va, c, na, nl, D, DA, D2, DA2, H, rg, pa, x, ac, im, R, P, rd, F, wd, V, PP, QQ, q, MA, nm, h1, h2, h3, nrel_B h4 (by omega), hrel_B h5 (by omega), irel_B h6 (by omega), h7, h8, h9⟩
  · exact Or.inr hU
/-- the script's turns: after Bd of them -/
def LI (sta : mj_S) (Bd : Nat) (h : mj_H) : Prop := ∃ tr w u f t, J sta Bd tr w u ∧ mj_vw (w ++ (u ++ ((165, .inl (1, 1, .inr (.inl f))) :: t))) h ∧ h.1.length ≤ 166 + 8 * Bd ∧ h.2 ≤ 8000 + 54 * Bd
theorem LI_mono {sta : mj_S} {Bd : Nat} {h : mj_H} (hI : LI sta Bd h) : LI sta (Bd + 1) h := by
  obtain ⟨tr, w, u, f, t, h1, h2, h3, h4⟩ := hI
  exact ⟨tr, w, u, f, t, J_mono h1, h2, by omega, by omega⟩
