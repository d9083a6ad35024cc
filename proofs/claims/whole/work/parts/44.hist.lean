/-! Kept, over all its cells -/
theorem cpT {c : ClassFile.Cond} {x y : Int32} (h : mj_cmp c x y = true) : mj_cp c x y := (mj_cp_iff c x y).mp h
theorem cpF {c : ClassFile.Cond} {x y : Int32} (h : mj_cmp c x y = false) : ¬ mj_cp c x y := fun z => by rw [(mj_cp_iff c x y).mpr z] at h; cases h
abbrev HN : Type := (Nat → Nat) × (Nat → Nat → Nat) × (Nat → Option Nat)
abbrev nvH (c : Nat) (H : HN) : mj_W := nv c H.1 H.2.1 H.2.2
abbrev mkN (H : HN) : mj_N := ((nI (H.1 0), nI (H.1 1), nI (H.1 2), nI (H.1 3)), H.2.1 0, H.2.1 1, H.2.1 2, H.2.2)
def okK (rg pa : Nat → Option Nat) : Prop := (∀ i, i < 16 → rg i = some (32 + 5 * i)) ∧ ∀ i, i < 3 → pa i = some (112 + 5 * i)
/-- the j from the k-th on -/
def fam (b : Nat) (R : Nat → HN) (k : Nat) : Nat → mj_W
  | 0 => []
  | j + 1 => nvH (b + 5 * k) (R k) ++ fam b R (k + 1) j
theorem fam_split {b : Nat} {R : Nat → HN} : ∀ {k x j}, fam b R k (x + j) = fam b R k x ++ fam b R (k + x) j
  | k, 0, j => by rw [Nat.zero_add]; rfl
  | k, x + 1, j => by
    rw [show x + 1 + j = (x + j) + 1 by omega, fam, fam_split, fam, List.append_assoc, show k + 1 + x = k + (x + 1) by omega]
theorem fam_at {b : Nat} {R : Nat → HN} {n x : Nat} (h : x < n) : fam b R 0 n = fam b R 0 x ++ (nvH (b + 5 * x) (R x) ++ fam b R (x + 1) (n - x - 1)) := by
  have e : n = x + ((n - x - 1) + 1) := by omega
  have : fam b R 0 n = fam b R 0 (x + ((n - x - 1) + 1)) := congrArg _ e
  rw [this, fam_split, Nat.zero_add, fam]
theorem fam_ks {b : Nat} {R R' : Nat → HN} : ∀ k j, mj_ks (fam b R k j) = mj_ks (fam b R' k j)
  | k, 0 => rfl
  | k, j + 1 => by
    show (nvH (b + 5 * k) (R k) ++ fam b R (k + 1) j).map Prod.fst = (nvH (b + 5 * k) (R' k) ++ fam b R' (k + 1) j).map Prod.fst
    rw [List.map_append, List.map_append]
    have e : (fam b R (k + 1) j).map Prod.fst = (fam b R' (k + 1) j).map Prod.fst := fam_ks (k + 1) j
    rw [e]
    rfl
theorem fam_up {b x : Nat} {R : Nat → HN} {H : HN} : ∀ k j, (x < k ∨ k + j ≤ x) → fam b (va_up R x H) k j = fam b R k j
  | k, 0, _ => rfl
  | k, j + 1, h => by
    rw [fam, fam, fam_up (k + 1) j (by omega)]
    have e : va_up R x H k = R k := if_neg (by omega)
    rw [e]
/-- ring and images -/
def kt (R P : Nat → HN) : mj_W := fam 32 R 0 16 ++ fam 112 P 0 3
theorem mj_vw_mem {w : mj_W} {h : mj_H} : mj_vw w h ↔ ((mj_ks w).Nodup ∧ h.1.length ≤ mj_SB) ∧ ∀ x ∈ w, mj_nth h.1 x.1 = some x.2 := by
  unfold mj_vw
  refine and_congr_right fun _ => ⟨fun q x hx => ?_, fun q j a e hj => ?_⟩
  · obtain ⟨j, hj⟩ := List.getElem?_of_mem hx
    exact q j x.1 x.2 (by rw [mj_nth_eq]; exact hj)
  · rw [mj_nth_eq] at hj
    exact q (a, e) (List.mem_of_getElem? hj)
theorem mj_vw.perm {w u : mj_W} {h : mj_H} (hp : w.Perm u) (hv : mj_vw w h) : mj_vw u h := by
  rw [mj_vw_mem] at hv ⊢
  exact ⟨⟨((hp.map Prod.fst).nodup_iff).mp hv.1.1, hv.1.2⟩, fun x hx => hv.2 x (hp.mem_iff.mpr hx)⟩
theorem mj_Vw.perm {w u : mj_W} {h0 h : mj_H} (hp : w.Perm u) (hv : mj_Vw h0 w h) : mj_Vw h0 u h :=
  ⟨hv.1.perm hp, hv.2.1, hv.2.2.1, fun j hj => hv.2.2.2 j (fun q => hj (((hp.map Prod.fst).mem_iff).mp q))⟩
/-- a contract over the cells in another order -/
theorem mj_Sx.perm {sta : mj_S} {d mid : Nat} {as : List Value} {w u : mj_W} {P Q : Option Value → mj_W → Prop} (hp : w.Perm u) (hS : mj_Sx sta d mid as u P) (hq : ∀ v u', P v u' → mj_ks u' = mj_ks u → ∃ w', u'.Perm w' ∧ mj_ks w' = mj_ks w ∧ Q v w') : mj_Sx sta d mid as w Q := fun h hv => by
  obtain ⟨v, u', h', h1, h2, h3, h4⟩ := hS h (hv.perm hp)
  obtain ⟨w', p1, p2, p3⟩ := hq v u' h1 h2
  exact ⟨v, w', h', p3, p2, h3.perm p1, h4⟩
theorem mj_nodup_app {w1 w2 : mj_W} (h : (mj_ks (w1 ++ w2)).Nodup) : (mj_ks w1).Nodup ∧ (mj_ks w2).Nodup ∧ ∀ x ∈ mj_ks w1, x ∉ mj_ks w2 := by
  have h : (w1.map Prod.fst ++ w2.map Prod.fst).Nodup := by
    have h : ((w1 ++ w2).map Prod.fst).Nodup := h
    rwa [List.map_append] at h
  obtain ⟨h1, h2, h3⟩ := List.nodup_append.mp h
  exact ⟨h1, h2, fun x hx hy => h3 x hx x hy rfl⟩
theorem mj_nth_r {w1 w2 : mj_W} {j : Nat} {x : Nat × va_E} (h : mj_nth w2 j = some x) : mj_nth (w1 ++ w2) (w1.length + j) = some x := by
  rw [mj_nth_eq] at h ⊢
  rw [List.getElem?_append_right (by omega), show w1.length + j - w1.length = j by omega]
  exact h
theorem mj_nth_l {w1 w2 : mj_W} {j : Nat} {x : Nat × va_E} (h : mj_nth w1 j = some x) : mj_nth (w1 ++ w2) j = some x := by
  have hl := mj_nth_lt h
  rw [mj_nth_eq] at h ⊢
  rw [List.getElem?_append_left hl]
  exact h
theorem mj_ks_app {w1 w2 : mj_W} : mj_ks (w1 ++ w2) = mj_ks w1 ++ mj_ks w2 := List.map_append
theorem mj_vw.suf {w1 w2 : mj_W} {h : mj_H} (hv : mj_vw (w1 ++ w2) h) : mj_vw w2 h := ⟨⟨(mj_nodup_app hv.1.1).2.1, hv.1.2⟩, fun j a e hj => hv.2 _ a e (mj_nth_r hj)⟩
theorem mj_vw.pre {w1 w2 : mj_W} {h : mj_H} (hv : mj_vw (w1 ++ w2) h) : mj_vw w1 h := ⟨⟨(mj_nodup_app hv.1.1).1, hv.1.2⟩, fun j a e hj => hv.2 _ a e (mj_nth_l hj)⟩
theorem mj_Vw.sufC {h0 h h' : mj_H} {w1 w2 w' : mj_W} (hv : mj_Vw h0 (w1 ++ w2) h) (hk : mj_ks w' = mj_ks w2) (hc : mj_Vw h w' h') : mj_Vw h0 (w1 ++ w') h' := by
  obtain ⟨⟨⟨a1, a2⟩, a3⟩, b1, b2, b3⟩ := hv
  obtain ⟨⟨⟨c1, c2⟩, c3⟩, e1, e2, e3⟩ := hc
  obtain ⟨n1, n2, n3⟩ := mj_nodup_app a1
  have hks : mj_ks (w1 ++ w') = mj_ks (w1 ++ w2) := by rw [mj_ks_app, mj_ks_app, hk]
  refine ⟨⟨⟨by rw [hks]; exact a1, c2⟩, fun j a e hj => ?_⟩, e1.trans b1, e2.trans b2, fun j hj => ?_⟩
  · rcases mj_nth_app hj with q | ⟨q1, q2⟩
    · have : a ∉ mj_ks w' := by rw [hk]; exact n3 a (mj_ks_in q.2)
      rw [e3 a this]
      exact a3 j a e (mj_nth_l q.2)
    · exact c3 _ a e q2
  · rw [hks] at hj
    have : j ∉ mj_ks w' := by rw [hk]; intro q; exact hj (by rw [mj_ks_app]; exact List.mem_append_right _ q)
    rw [e3 j this]
    exact b3 j hj
theorem mj_Vw.preC {h0 h h' : mj_H} {w1 w2 w' : mj_W} (hv : mj_Vw h0 (w1 ++ w2) h) (hk : mj_ks w' = mj_ks w1) (hc : mj_Vw h w' h') : mj_Vw h0 (w' ++ w2) h' := by
  have p1 : mj_Vw h0 (w2 ++ w1) h := hv.perm List.perm_append_comm
  exact (p1.sufC hk hc).perm List.perm_append_comm
/-- a contract over more cells, behind its own -/
theorem mj_Sx.more {sta : mj_S} {d mid : Nat} {as : List Value} {w : mj_W} {P : Option Value → mj_W → Prop} (t : mj_W) (hS : mj_Sx sta d mid as w P) : mj_Sx sta d mid as (w ++ t) (fun v w' => ∃ u, P v u ∧ mj_ks u = mj_ks w ∧ w' = u ++ t) := fun h hv => by
  obtain ⟨v, u', h', h1, h2, h3, h4⟩ := hS h hv.pre
  exact ⟨v, u' ++ t, h', ⟨u', h1, h2, rfl⟩, by rw [mj_ks_app, mj_ks_app, h2], hv.V.preC h2 h3, h4⟩
section MJS
variable {sta : mj_S} {d : Nat} {M : mj_M} {T : Nat → mj_L → List Value → mj_H → Prop} {pc : Nat} {lv : mj_L} {st rest as : List Value} {h0 h : mj_H} {w w1 t wc : mj_W} {Post : Option Value → mj_W → Prop} {q len wp c : Nat} {raw : Instr}
/-- the callee's view is the suffix -/
theorem g_callVs {a : Nat} {fs ar : List Value} (hv : mj_Vw h0 (w1 ++ wc) h) (j0 : Nat) (he : mj_ent (mj_cd M) pc = some (q, .invokevirtual c, len, raw, wp)) (hlen : Nat.ble (c / 16 % 16) st.length = true) (has : (st.take (c / 16 % 16)).reverse = .ref a :: ar) (hj0 : mj_nth (w1 ++ wc) j0 = some (a, .inr (c % 16, fs))) (hdr : st.drop (c / 16 % 16) = rest) (hcat : Nat.ble (rest.map Value.category).sum 8 = true)
    (hS : mj_Sx sta d (c / 256) (.ref a :: ar) wc Post) (k : ∀ v w' h', Post v w' → mj_ks w' = mj_ks wc → mj_Vw h0 (w1 ++ w') h' → mj_go sta (mj_Cl sta d) M T (q + 3) lv (v.toList ++ rest) h') : mj_go sta (mj_Cl sta d) M T pc lv st h := by
  subst hdr
  obtain ⟨v, w', h', h1, h2, h3, h4⟩ := hS h hv.1.suf
  have e1 := mj_ent_pc he
  dsimp only at e1
  subst e1
  exact mj_go.call he rfl (Nat.le_of_ble_eq_true hlen) (Or.inr ⟨a, ar, fs, has, hv.1.2 j0 _ _ hj0⟩) (Nat.le_of_ble_eq_true hcat) (by rw [has]; exact h4) (k v w' h' h1 h2 (hv.sufC h2 h3))
/-- the callee's view is the prefix -/
theorem g_callVp {a : Nat} {fs ar : List Value} (hv : mj_Vw h0 (wc ++ t) h) (j0 : Nat) (he : mj_ent (mj_cd M) pc = some (q, .invokevirtual c, len, raw, wp)) (hlen : Nat.ble (c / 16 % 16) st.length = true) (has : (st.take (c / 16 % 16)).reverse = .ref a :: ar) (hj0 : mj_nth wc j0 = some (a, .inr (c % 16, fs))) (hdr : st.drop (c / 16 % 16) = rest) (hcat : Nat.ble (rest.map Value.category).sum 8 = true)
    (hS : mj_Sx sta d (c / 256) (.ref a :: ar) wc Post) (k : ∀ v w' h', Post v w' → mj_ks w' = mj_ks wc → mj_Vw h0 (w' ++ t) h' → mj_go sta (mj_Cl sta d) M T (q + 3) lv (v.toList ++ rest) h') : mj_go sta (mj_Cl sta d) M T pc lv st h := by
  subst hdr
  obtain ⟨v, w', h', h1, h2, h3, h4⟩ := hS h hv.1.pre
  have e1 := mj_ent_pc he
  dsimp only at e1
  subst e1
  exact mj_go.call he rfl (Nat.le_of_ble_eq_true hlen) (Or.inr ⟨a, ar, fs, has, hv.1.2 j0 _ _ (mj_nth_l hj0)⟩) (Nat.le_of_ble_eq_true hcat) (by rw [has]; exact h4) (k v w' h' h1 h2 (hv.preC h2 h3))
/-- the callee's cells by their places in the view ahead of a tail -/
theorem g_callVt {a : Nat} {fs ar : List Value} (hv : mj_Vw h0 (w1 ++ t) h) (is : List Nat) (j0 : Nat) (he : mj_ent (mj_cd M) pc = some (q, .invokevirtual c, len, raw, wp)) (hlen : Nat.ble (c / 16 % 16) st.length = true) (has : (st.take (c / 16 % 16)).reverse = .ref a :: ar) (hj0 : mj_nth w1 j0 = some (a, .inr (c % 16, fs))) (hdr : st.drop (c / 16 % 16) = rest) (hcat : Nat.ble (rest.map Value.category).sum 8 = true) (hpk : mj_pk w1 is = wc) (hil : wc.length = is.length) (hnd : is.Nodup)
    (hS : mj_Sx sta d (c / 256) (.ref a :: ar) wc Post) (k : ∀ v w' h', Post v w' → mj_ks w' = mj_ks wc → mj_Vw h0 (mj_pb w1 is w' ++ t) h' → mj_go sta (mj_Cl sta d) M T (q + 3) lv (v.toList ++ rest) h') : mj_go sta (mj_Cl sta d) M T pc lv st h := by
  refine g_callVp hv j0 he hlen has hj0 hdr hcat (hS.fr is hpk hil hnd) (fun v w' h' hp hk hv' => ?_)
  obtain ⟨wc', p1, p2, rfl⟩ := hp
  exact k v wc' h' p1 p2 hv'
theorem g_callSt (hv : mj_Vw h0 (w1 ++ t) h) (is : List Nat) (he : mj_ent (mj_cd M) pc = some (q, .invokestatic c, len, raw, wp)) (hlen : Nat.ble (c / 16 % 16) st.length = true) (has : (st.take (c / 16 % 16)).reverse = as) (hdr : st.drop (c / 16 % 16) = rest) (hcat : Nat.ble (rest.map Value.category).sum 8 = true) (hpk : mj_pk w1 is = wc) (hil : wc.length = is.length) (hnd : is.Nodup)
    (hS : mj_Sx sta d (c / 256) as wc Post) (k : ∀ v w' h', Post v w' → mj_ks w' = mj_ks wc → mj_Vw h0 (mj_pb w1 is w' ++ t) h' → mj_go sta (mj_Cl sta d) M T (q + 3) lv (v.toList ++ rest) h') : mj_go sta (mj_Cl sta d) M T pc lv st h := by
  subst has; subst hdr; subst hpk
  obtain ⟨v, w', h', h1, h2, h3, h4⟩ := hS h (mj_Vw.pick (h0 := h) ⟨hv.1.pre, mj_eq.rf⟩ hil hnd)
  have e1 := mj_ent_pc he
  dsimp only at e1
  subst e1
  have h5 : mj_Vw h (mj_pb w1 is w') h' := mj_Vw.call (h0 := h) ⟨hv.1.pre, mj_eq.rf⟩ hil hnd h2 h3
  have hks : mj_ks (mj_pb w1 is w') = mj_ks w1 := mj_pb_ks (fun t j ht x hx => by
    obtain ⟨y, hy, hy2⟩ := mj_pk_at hil ht
    have e1 : mj_nth (mj_ks w') t = some x.1 := mj_ks_at (e := x.2) hx
    have e2 : mj_nth (mj_ks (mj_pk w1 is)) t = some y.1 := mj_ks_at (e := y.2) hy2
    rw [h2, e2] at e1
    exact ⟨y.2, by rw [hy, ← Option.some.inj e1]⟩)
  exact mj_go.call he rfl (Nat.le_of_ble_eq_true hlen) trivial (Nat.le_of_ble_eq_true hcat) h4 (k v w' h' h1 h2 (hv.preC hks h5))
end MJS
theorem pm_ {α : Type} (F1 X F2 Q N : List α) : ((F1 ++ (X ++ F2)) ++ Q ++ N).Perm ((X ++ N) ++ (F1 ++ F2 ++ Q)) := by
  have h1 : (F1 ++ (X ++ F2)).Perm (X ++ (F1 ++ F2)) := List.perm_append_comm_assoc F1 X F2
  have h2 : ((F1 ++ (X ++ F2)) ++ Q ++ N).Perm ((X ++ (F1 ++ F2)) ++ Q ++ N) := (h1.append_right Q).append_right N
  refine h2.trans ?_
  have e : (X ++ (F1 ++ F2)) ++ Q ++ N = X ++ ((F1 ++ F2 ++ Q) ++ N) := by simp only [List.append_assoc]
  rw [e, List.append_assoc X N]
  exact List.Perm.append_left X List.perm_append_comm
/-- now, then kept's head and rows, then what they hold -/
abbrev kh (rg pa : Nat → Option Nat) (x a im : Nat) : mj_W := [(29, .inr (2, kob (nI x) (nI a) (nI im))), (30, ar 16 rg), (31, ar 3 pa)]
abbrev kn3 (H : HN) (rg pa : Nat → Option Nat) (x a im : Nat) (R P : Nat → HN) : mj_W := (nvH 19 H ++ kh rg pa x a im) ++ kt R P
section Hist
variable (sta : mj_S) (d x a im : Nat) (rg pa : Nat → Option Nat) (R P : Nat → HN) (H : HN)
/-- now's cells and kept's, in the order of the contracts for the x-th of the ring -/
theorem kpR (rg pa : Nat → Option Nat) (R P : Nat → HN) (H O : HN) (x y a im : Nat) (hy : y < 16) : (kn3 H rg pa x a im (va_up R y O) P).Perm (([(29, .inr (2, kob (nI x) (nI a) (nI im))), (30, ar 16 rg)] ++ (nvH (32 + 5 * y) O ++ nvH 19 H)) ++ ([(31, ar 3 pa)] ++ (fam 32 R 0 y ++ fam 32 R (y + 1) (16 - y - 1) ++ fam 112 P 0 3))) := by
  unfold kn3 kt
  rw [fam_at hy, fam_up 0 y (by omega), fam_up (y + 1) (16 - y - 1) (by omega), show va_up R y O y = O from if_pos rfl]
  have h1 := pm_ (fam 32 R 0 y) (nvH (32 + 5 * y) O) (fam 32 R (y + 1) (16 - y - 1)) (fam 112 P 0 3) (nvH 19 H)
  have h2 : ((nvH 19 H ++ kh rg pa x a im) ++ ((fam 32 R 0 y ++ (nvH (32 + 5 * y) O ++ fam 32 R (y + 1) (16 - y - 1))) ++ fam 112 P 0 3)).Perm (kh rg pa x a im ++ (((fam 32 R 0 y ++ (nvH (32 + 5 * y) O ++ fam 32 R (y + 1) (16 - y - 1))) ++ fam 112 P 0 3) ++ nvH 19 H)) := by
    rw [List.append_assoc]
    refine List.perm_append_comm.trans ?_
    rw [List.append_assoc]
  refine h2.trans ((List.Perm.append_left _ h1).trans ?_)
  generalize fam 32 R 0 y ++ fam 32 R (y + 1) (16 - y - 1) ++ fam 112 P 0 3 = F
  generalize nvH (32 + 5 * y) O ++ nvH 19 H = X
  show ((29, _) :: (30, _) :: (31, _) :: (X ++ F)).Perm ((29, _) :: (30, _) :: (X ++ (31, _) :: F))
  exact (List.perm_middle.symm.cons _).cons _
theorem kpP (rg pa : Nat → Option Nat) (R P : Nat → HN) (H O : HN) (x y a im : Nat) (hy : y < 3) : (kn3 H rg pa x a im R (va_up P y O)).Perm (([(29, .inr (2, kob (nI x) (nI a) (nI im))), (31, ar 3 pa)] ++ (nvH (112 + 5 * y) O ++ nvH 19 H)) ++ ([(30, ar 16 rg)] ++ (fam 112 P 0 y ++ fam 112 P (y + 1) (3 - y - 1) ++ fam 32 R 0 16))) := by
  unfold kn3 kt
  rw [fam_at (n := 3) hy, fam_up 0 y (by omega), fam_up (y + 1) (3 - y - 1) (by omega), show va_up P y O y = O from if_pos rfl]
  have h1 := pm_ (fam 112 P 0 y) (nvH (112 + 5 * y) O) (fam 112 P (y + 1) (3 - y - 1)) (fam 32 R 0 16) (nvH 19 H)
  have h2 : ((nvH 19 H ++ kh rg pa x a im) ++ (fam 32 R 0 16 ++ (fam 112 P 0 y ++ (nvH (112 + 5 * y) O ++ fam 112 P (y + 1) (3 - y - 1))))).Perm (kh rg pa x a im ++ (((fam 112 P 0 y ++ (nvH (112 + 5 * y) O ++ fam 112 P (y + 1) (3 - y - 1))) ++ fam 32 R 0 16) ++ nvH 19 H)) := by
    rw [List.append_assoc]
    refine List.perm_append_comm.trans ?_
    rw [List.append_assoc]
    exact List.Perm.append_left _ (List.perm_append_comm.append_right _)
  refine h2.trans ((List.Perm.append_left _ h1).trans ?_)
  generalize fam 112 P 0 y ++ fam 112 P (y + 1) (3 - y - 1) ++ fam 32 R 0 16 = F
  generalize nvH (112 + 5 * y) O ++ nvH 19 H = X
  show ((29, _) :: (30, _) :: (31, _) :: (X ++ F)).Perm ((29, _) :: (31, _) :: (X ++ (30, _) :: F))
  refine List.Perm.cons _ ((List.Perm.swap _ _ _).trans (List.Perm.cons _ List.perm_middle.symm))
theorem up_self {R : Nat → HN} {y : Nat} : va_up R y (R y) = R := by
  funext i
  unfold va_up
  split
  · rename_i e; rw [e]
  · rfl
theorem kn_ks {H H' : HN} {x a im x' a' im' : Nat} {R R' P P' : Nat → HN} : mj_ks (kn3 H rg pa x a im R P) = mj_ks (kn3 H' rg pa x' a' im' R' P') := by
  unfold kn3 kt
  rw [mj_ks_app, mj_ks_app (w1 := nvH 19 H' ++ kh rg pa x' a' im'), mj_ks_app (w1 := fam 32 R 0 16), mj_ks_app (w1 := fam 32 R' 0 16), fam_ks (R' := R') 0 16, fam_ks (R' := P') 0 3]
  rfl
theorem s_keepK (hx : x < 16) (ha : a ≤ 16) (hk : okK rg pa) : mj_Sx sta (d + 2) 21 [.ref 29, .ref 19] (kn3 H rg pa x a im R P) (fun v w => v = none ∧ w = kn3 H rg pa ((x + 1) % 16) (min (a + 1) 16) im (va_up R x H) P) := by
  have h0 := kpR rg pa R P H (R x) x x a im hx
  rw [up_self] at h0
  refine mj_Sx.perm h0 (mj_Sx.more _ (s_keep sta d x a (nI im) rg (mkN H) (mkN (R x)) hx ha (hk.1 x hx))) (fun v u' hp hk2 => ?_)
  obtain ⟨u, ⟨rfl, rfl⟩, -, rfl⟩ := hp
  exact ⟨_, (kpR rg pa R P H H ((x + 1) % 16) x (min (a + 1) 16) im hx).symm, kn_ks rg pa, rfl, rfl⟩
theorem s_takeBackK (hx : x < 16) (ha : a < 16) (hk : okK rg pa) : mj_Sx sta (d + 2) 22 [.ref 29, .ref 19] (kn3 H rg pa x (a + 1) im R P) (fun v w => v = some (.int 1) ∧ w = kn3 (R ((x + 15) % 16)) rg pa ((x + 15) % 16) a im R P) := by
  have hy : (x + 15) % 16 < 16 := Nat.mod_lt _ (by decide)
  have sw : ∀ (x' a' : Nat) (H' : HN), (kn3 H' rg pa x' a' im R P).Perm (([(29, .inr (2, kob (nI x') (nI a') (nI im))), (30, ar 16 rg)] ++ (nvH 19 H' ++ nvH (32 + 5 * ((x + 15) % 16)) (R ((x + 15) % 16)))) ++ ([(31, ar 3 pa)] ++ (fam 32 R 0 ((x + 15) % 16) ++ fam 32 R ((x + 15) % 16 + 1) (16 - (x + 15) % 16 - 1) ++ fam 112 P 0 3))) := by
    intro x' a' H'
    have h0 := kpR rg pa R P H' (R ((x + 15) % 16)) x' ((x + 15) % 16) a' im hy
    rw [up_self] at h0
    exact h0.trans ((List.Perm.append_left _ List.perm_append_comm).append_right _)
  refine mj_Sx.perm (sw x (a + 1) H) (mj_Sx.more _ (s_takeBack sta d x a (nI im) rg (mkN H) (mkN (R ((x + 15) % 16))) hx ha (hk.1 _ hy))) (fun v u' hp hk2 => ?_)
  obtain ⟨u, ⟨rfl, rfl⟩, -, rfl⟩ := hp
  exact ⟨_, (sw ((x + 15) % 16) a (R ((x + 15) % 16))).symm, kn_ks rg pa, rfl, rfl⟩
theorem s_paintK (hi : im < 3) (hk : okK rg pa) : mj_Sx sta (d + 2) 23 [.ref 29, .ref 19] (kn3 H rg pa x a im R P) (fun v w => v = some (.int (nI im)) ∧ w = kn3 H rg pa x a (im + 1) R (va_up P im H)) := by
  have h0 := kpP rg pa R P H (P im) x im a im hi
  rw [up_self] at h0
  refine mj_Sx.perm h0 (mj_Sx.more _ (s_paint sta d im (nI x) (nI a) pa (mkN H) (mkN (P im)) hi (hk.2 im hi))) (fun v u' hp hk2 => ?_)
  obtain ⟨u, ⟨rfl, rfl⟩, -, rfl⟩ := hp
  exact ⟨_, (kpP rg pa R P H H x im a (im + 1) hi).symm, kn_ks rg pa, rfl, rfl⟩
theorem s_goBackK (i : Nat) (hi : i < im) (him : im ≤ 3) (hk : okK rg pa) : mj_Sx sta (d + 2) 24 [.ref 29, (.int (nI i)), .ref 19] (kn3 H rg pa x a im R P) (fun v w => v = some (.int 1) ∧ w = kn3 (P i) rg pa x 0 im R P) := by
  have hy : i < 3 := by omega
  have sw : ∀ (a' : Nat) (H' : HN), (kn3 H' rg pa x a' im R P).Perm (([(29, .inr (2, kob (nI x) (nI a') (nI im))), (31, ar 3 pa)] ++ (nvH 19 H' ++ nvH (112 + 5 * i) (P i))) ++ ([(30, ar 16 rg)] ++ (fam 112 P 0 i ++ fam 112 P (i + 1) (3 - i - 1) ++ fam 32 R 0 16))) := by
    intro a' H'
    have h0 := kpP rg pa R P H' (P i) x i a' im hy
    rw [up_self] at h0
    exact h0.trans ((List.Perm.append_left _ List.perm_append_comm).append_right _)
  refine mj_Sx.perm (sw a H) (mj_Sx.more _ (s_goBack sta d i im (nI x) (nI a) pa (mkN H) (mkN (P i)) hi him (hk.2 i hy))) (fun v u' hp hk2 => ?_)
  obtain ⟨u, ⟨rfl, rfl⟩, -, rfl⟩ := hp
  exact ⟨_, (sw 0 (P i)).symm, kn_ks rg pa, rfl, rfl⟩
end Hist
