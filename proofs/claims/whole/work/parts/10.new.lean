/-! new cells -/
theorem mj_nth_1 {α : Type} {a b : α} {j : Nat} (h : mj_nth [a] j = some b) : j = 0 ∧ b = a := by
  match j, h with
  | 0, h => exact ⟨rfl, (Option.some.inj h).symm⟩
  | n + 1, h => simp [mj_nth] at h
section MJN
variable {D : mj_D} {M : mj_M} {p : Program} {l : Launch} {e : Env} {R : Room} {s : State} {m : MethodId} {args : Array Value} {below : List Frame} {meth : Method} {c : Code} {Q : State → Prop} {n0 s0 Lx Sx : Nat}
variable {pc : Nat} {lv : mj_L} {st r : List Value} {h : mj_H} {a : Nat} {n : Int32}
theorem mj_St.useA (hS : mj_St D s) {ty : FieldType} (hw : Cond.arrayClass ty ∈ lw_tbl) : (Cond.arrayClass ty).before args s = true := word_at (State.WarmedH.refl s) (Or.inr ⟨ty, rfl⟩) (hS.1 _ hw rfl)
theorem mj_w_new (C : mj_Cx D M p R s m meth c n0 s0 Lx Sx) {ci j wp : Nat} {q : vw_C} (hd : decode (mj_bt M) pc = .ok (.new j, 3)) (hq : mj_nth vwCl ci = some q) (hw : mj_nth lw_tbl wp = some (.classLink (mj_nm M).cls j q.1)) (hi1 : Cond.instantiable q.1 q.2.2 ∈ lw_tbl) (hi2 : Cond.initialized q.1 ∈ lw_tbl)
    (k : mj_P D M p l e R s m args below meth c Q n0 s0 Lx Sx (pc + 3) lv (.ref h.1.length :: r) (h.1 ++ [.inr (ci, mj_new ci)], h.2 + mj_sz ci)) : mj_P D M p l e R s m args below meth c Q n0 s0 Lx Sx pc lv r h := by
  obtain ⟨hx, hb, hml, hown, hnm, hSt, hRc, hRs, hLx, -⟩ := id C
  obtain ⟨c1, c2, c3, c4, c5⟩ := mj_cls hq
  have hk1 : h.1.length + 1 ≤ Lx := by have := k.1; simpa using this
  have hk2 : h.2 + q.2.2 ≤ Sx := by have := k.2.1; rw [c5] at this; exact this
  refine ⟨by omega, by omega, fun H locs ls a1 a2 a3 a4 a5 => ?_⟩
  have hq' : vwCl[ci]? = some q := by rw [← mj_nth_eq]; exact hq
  have hKn := hSt.2.1 ci _ hq'
  have ha : mj_ad D h.1.length = mj_b D + h.1.length := mj_ad_l (by omega)
  refine W.newcK hx hb hown (hSt.use (mj_nth_mem hw) rfl rfl) (hSt.use hi1 rfl rfl) (hSt.use hi2 rfl rfl) rfl hd (by rw [hRc]; omega) (by rw [hRs]; omega) hKn.2.1 rfl fun H1 kC hkC e1 z1 o1 => ?_
  have w := k.2.2 H1 locs ls (mj_hp.push a1 (by simpa using z1) o1 ?_) (mj_S_push a2 (by omega) o1) a3 (by simp; omega) (by show s0 ≤ h.2 + mj_sz ci; omega)
  · have e2 : (h.1 ++ [Sum.inr (ci, mj_new ci)] : List va_E).length - n0 = h.1.length - n0 + 1 := by simp; omega
    have e3 : h.2 + mj_sz ci - s0 = h.2 - s0 + q.2.2 := by rw [c5]; omega
    dsimp only at w
    rw [e2, e3, List.map_cons, show mj_cv D (.ref h.1.length) = .ref (mj_ad D h.1.length) from rfl, ha, ← a1.1] at w
    exact w
  intro j' e' hj' hg
  obtain ⟨rfl, rfl⟩ := mj_nth_1 hj'
  refine ⟨q, hq', (u_born (args := #[]) (mj_tyc ci) (mj_lays hSt hq) (fun _ h => h) hKn hkC (by show H1[mj_b D + h.1.length]? = _; rw [← a1.1]; exact e1) c2).to (fun x hx => ?_)⟩
  have hv : mj_nth (mj_new ci) x = some (defaultValue (mj_tyc ci x)) := by
    rw [mj_nth_eq]
    simp [mj_new, c5, hx]
  rw [mj_V hv, mj_cv_def]
theorem mj_w_newa (C : mj_Cx D M p R s m meth c n0 s0 Lx Sx) {t : Nat} {aty : ArrayType} {x : (Nat → Int32) ⊕ (Nat → Int64) ⊕ (Nat → UInt32) ⊕ (Nat → UInt64) ⊕ (Nat → Option Nat)} (hd : decode (mj_bt M) pc = .ok (.newarray aty, 2)) (hty : mj_tys[t]? = some (newarray.typeOf aty)) (hA : Cond.arrayClass (newarray.typeOf aty) ∈ lw_tbl)
    (hnm0 : ∀ cA, va_RA s (mj_dA D t) (newarray.typeOf aty) → s.vm.findClass ("[" ++ (newarray.typeOf aty).toString) = some cA → cA = mj_dA D t) (hx0 : ∀ cA, vp_cell cA (n.toNatClampNeg, mj_cx D x) = arrV cA n.toNatClampNeg (fun _ => defaultValue (newarray.typeOf aty))) (hby : componentBytes (newarray.typeOf aty) ≤ 8) (hn : ¬ (n < 0 ∨ 65536 < n.toNatClampNeg))
    (k : mj_P D M p l e R s m args below meth c Q n0 s0 Lx Sx (pc + 2) lv (.ref h.1.length :: r) (h.1 ++ [.inl (t, n.toNatClampNeg, x)], h.2 + n.toNatClampNeg)) : mj_P D M p l e R s m args below meth c Q n0 s0 Lx Sx pc lv (.int n :: r) h := by
  obtain ⟨hx, hb, hml, hown, hnm, hSt, hRc, hRs, hLx, -⟩ := id C
  have hk1 : h.1.length + 1 ≤ Lx := by have := k.1; simpa using this
  have hk2 : h.2 + n.toNatClampNeg ≤ Sx := k.2.1
  refine ⟨by omega, by omega, fun H locs ls a1 a2 a3 a4 a5 => ?_⟩
  have ha : mj_ad D h.1.length = mj_b D + h.1.length := mj_ad_l (by omega)
  have h64 : n.toNatClampNeg ≤ 65536 := Nat.not_lt.mp fun q => hn (Or.inr q)
  refine va_newaK hx hb (hSt.useA hA) rfl hd rfl (fun q => hn (Or.inl q)) rfl (Nat.le_trans (Nat.mul_le_mul h64 hby) (by decide)) (by rw [hRc]; omega) (by rw [hRs]; omega) rfl fun H1 cA e1 z1 o1 hAr hNm => ?_
  have hcA := hnm0 cA (hSt.2.2.1 t _ hty).2 hNm
  subst hcA
  have w := k.2.2 H1 locs ls (mj_hp.push a1 (by simpa using z1) o1 ?_) (mj_S_push a2 (by omega) o1) a3 (by simp; omega) (by show s0 ≤ h.2 + n.toNatClampNeg; omega)
  · have e2 : (h.1 ++ [Sum.inl (t, n.toNatClampNeg, x)] : List va_E).length - n0 = h.1.length - n0 + 1 := by simp; omega
    have e3 : h.2 + n.toNatClampNeg - s0 = h.2 - s0 + n.toNatClampNeg := by omega
    dsimp only at w
    rw [e2, e3, List.map_cons, show mj_cv D (.ref h.1.length) = .ref (mj_ad D h.1.length) from rfl, ha, ← a1.1] at w
    exact w
  intro j' e' hj' hg
  obtain ⟨rfl, rfl⟩ := mj_nth_1 hj'
  show H1[mj_b D + h.1.length]? = some (vp_cell (mj_dA D t) (n.toNatClampNeg, mj_cx D x))
  rw [hx0, ← a1.1]
  exact e1
theorem mj_w_anew (C : mj_Cx D M p R s m meth c n0 s0 Lx Sx) {j wp : Nat} (hd : decode (mj_bt M) pc = .ok (.anewarray j, 3)) (hw : mj_nth lw_tbl wp = some (.classLink (mj_nm M).cls j "LowNumber$Now")) (hn : ¬ (n < 0 ∨ 65536 < n.toNatClampNeg))
    (k : mj_P D M p l e R s m args below meth c Q n0 s0 Lx Sx (pc + 3) lv (.ref h.1.length :: r) (h.1 ++ [.inl (3, n.toNatClampNeg, .inr (.inr (.inr (.inr (fun _ => none)))))], h.2 + n.toNatClampNeg)) : mj_P D M p l e R s m args below meth c Q n0 s0 Lx Sx pc lv (.int n :: r) h := by
  obtain ⟨hx, hb, hml, hown, hnm, hSt, hRc, hRs, hLx, -⟩ := id C
  have hk1 : h.1.length + 1 ≤ Lx := by have := k.1; simpa using this
  have hk2 : h.2 + n.toNatClampNeg ≤ Sx := k.2.1
  refine ⟨by omega, by omega, fun H locs ls a1 a2 a3 a4 a5 => ?_⟩
  have ha : mj_ad D h.1.length = mj_b D + h.1.length := mj_ad_l (by omega)
  have h64 : n.toNatClampNeg ≤ 65536 := Nat.not_lt.mp fun q => hn (Or.inr q)
  refine W.anew hx hb hown (hSt.use (mj_nth_mem hw) rfl rfl) (va_AO.use hSt.2.2.2.2.2.1) rfl hd rfl (fun q => hn (Or.inl q)) (Nat.le_trans (Nat.mul_le_mul_right 4 h64) (by decide)) (by rw [hRc]; omega) (by rw [hRs]; omega) fun cA kA comp f1 f2 f3 f4 => ?_
  generalize hH1 : H.push ({ cls := cA, slots := Array.replicate n.toNatClampNeg .null, vm := .none } : Cell) = H1
  have z1 : H1.size = H.size + 1 := by rw [← hH1, Array.size_push]
  have e1 : H1[H.size]? = some (arrV cA n.toNatClampNeg (fun _ => .null)) := by rw [← hH1, Array.getElem?_push_size, ← arrV_new]
  have o1 : ∀ q : Nat, q < H.size → H1[q]? = H[q]? := fun q hq => by rw [← hH1, Array.getElem?_push, if_neg (Nat.ne_of_lt hq)]
  obtain ⟨kA', comp', k1, k2, k3, k4⟩ := (hSt.2.2.1 3 (.object "LowNumber$Now") rfl).2
  have hcA : cA = mj_dA D 3 := Option.some.inj (f1.symm.trans k4)
  subst hcA
  have w := k.2.2 H1 locs ls (mj_hp.push a1 (by simpa using z1) o1 ?_) (mj_S_push a2 (by omega) o1) a3 (by simp; omega) (by show s0 ≤ h.2 + n.toNatClampNeg; omega)
  · have e2 : (h.1 ++ [Sum.inl (3, n.toNatClampNeg, Sum.inr (Sum.inr (Sum.inr (Sum.inr (fun _ => none)))))] : List va_E).length - n0 = h.1.length - n0 + 1 := by simp; omega
    have e3 : h.2 + n.toNatClampNeg - s0 = h.2 - s0 + n.toNatClampNeg := by omega
    dsimp only at w
    rw [e2, e3, List.map_cons, show mj_cv D (.ref h.1.length) = .ref (mj_ad D h.1.length) from rfl, ha, ← a1.1] at w
    exact w
  intro j' e' hj' hg
  obtain ⟨rfl, rfl⟩ := mj_nth_1 hj'
  show H1[mj_b D + h.1.length]? = some (vp_cell (mj_dA D 3) (n.toNatClampNeg, .inr (.inr (.inr (.inr (fun j => Option.map (mj_ad D) none))))))
  rw [vp_cell_q, ← a1.1]
  exact e1
theorem mj_outer (c : ClassId) (N h0 : Nat) : ∀ i : Nat, Jvm.Free.Multi.outerC c N h0 i = arrV c N (fun j => va_rf (if j < i then some (h0 + 1 + j) else none))
  | 0 => by
    show ({ cls := c, slots := Array.replicate N .null, vm := .none } : Cell) = _
    rw [arrV_new]
    refine congrArg (arrV c N) (funext fun j => ?_)
    simp [va_rf]
  | i + 1 => by
    show (Jvm.Free.Multi.outerC c N h0 i).setSlot i (.ref (h0 + 1 + i)) = _
    rw [mj_outer c N h0 i, arrV_store]
    refine congrArg (arrV c N) (funext fun j => ?_)
    by_cases e : j = i
    · subst e
      simp [updV, va_rf]
    · by_cases h : j < i
      · simp [updV, e, h, Nat.lt_succ_of_lt h]
      · simp [updV, e, h, show ¬ j < i + 1 by omega]
theorem mj_w_mna (C : mj_Cx D M p R s m meth c n0 s0 Lx Sx) {j wp : Nat} (hd : decode (mj_bt M) pc = .ok (.multianewarray j 2, 4)) (hw : mj_nth lw_tbl wp = some (.classLink (mj_nm M).cls j "[[I")) (hA : Cond.arrayClass .int ∈ lw_tbl)
    (k : mj_P D M p l e R s m args below meth c Q n0 s0 Lx Sx (pc + 4) lv (.ref h.1.length :: r) (h.1 ++ [.inl (4, 3, .inr (.inr (.inr (.inr (fun i => if i < 3 then some (h.1.length + 1 + i) else none))))), .inl (0, 6, .inl (fun _ => 0)), .inl (0, 6, .inl (fun _ => 0)), .inl (0, 6, .inl (fun _ => 0))], h.2 + 21)) : mj_P D M p l e R s m args below meth c Q n0 s0 Lx Sx pc lv (.int 6 :: .int 3 :: r) h := by
  obtain ⟨hx, hb, hml, hown, hnm, hSt, hRc, hRs, hLx, -⟩ := id C
  have hk1 : h.1.length + 4 ≤ Lx := by have := k.1; simpa using this
  have hk2 : h.2 + 21 ≤ Sx := k.2.1
  refine ⟨by omega, by omega, fun H locs ls a1 a2 a3 a4 a5 => ?_⟩
  have ha : ∀ z, z < 4 → mj_ad D (h.1.length + z) = mj_b D + h.1.length + z := fun z hz => (mj_ad_l (by omega)).trans (by omega)
  intro T hT X
  obtain ⟨vm₁, cA, comp, -, fA, fC, hO, -, X', step⟩ := X.multianewarray2F hx (ty := .int) hown (hSt.use (mj_nth_mem hw) rfl rfl) hSt.2.2.2.2.2.2.1 (hSt.useA hA) (g := F0 m pc ls (.int 6 :: .int 3 :: r.map (mj_cv D))) rfl (by rw [hb]; exact hd) rfl (by decide) (by decide) (by decide) (by decide) (by decide) (by decide) (by decide) (by rw [hRc]; show h.1.length - n0 + (1 + 3) ≤ _; omega) (by rw [hRs]; show h.2 - s0 + (3 + 3 * 6) ≤ _; omega)
  rw [show (3 : Int32).toNatClampNeg = 3 from rfl, show (6 : Int32).toNatClampNeg = 6 from rfl] at X' step
  have ec : comp = mj_dA D 0 := Option.some.inj (fC.symm.trans (va_nm_int (hSt.2.2.1 0 .int rfl).2))
  have ea : cA = mj_dA D 4 := Option.some.inj (fA.symm.trans (hSt.2.2.1 4 (.array .int) rfl).2)
  subst ec; subst ea
  generalize hF : Jvm.Free.Multi.fill (T.setVm vm₁) (mj_dA D 4) (mj_dA D 0) 3 6 (defaultValue .int) 3 = F at X' step
  have hTh : (T.setVm vm₁).heap = H := hT
  obtain ⟨f1, f2, -, -⟩ := Jvm.Free.Multi.fill_facts (T.setVm vm₁) (mj_dA D 4) (mj_dA D 0) 3 6 (defaultValue .int) 3
  rw [hF, hTh] at f1 f2
  have hold : ∀ x : Nat, x < H.size → F.heap[x]? = H[x]? := fun x hx => by
    have := Jvm.Free.Multi.fill_old (T.setVm vm₁) (mj_dA D 4) (mj_dA D 0) 3 6 (defaultValue .int) (a := x) (by rw [hTh]; exact hx) 3
    rw [hF, hTh] at this
    exact this
  have hrow : ∀ j : Nat, j < 3 → F.heap[H.size + 1 + j]? = some (vp_cell (mj_dA D 0) (6, .inl (fun _ => 0))) := fun j hj => by
    have := Jvm.Free.Multi.fill_inner (T.setVm vm₁) (mj_dA D 4) (mj_dA D 0) 3 6 (defaultValue .int) 3 j hj
    rw [hF, hTh] at this
    rw [this, vp_cell_i, ← arrV_new]
    rfl
  rw [mj_outer] at f2
  have hz : F.heap.size = H.size + 4 := by rw [f1]
  have hs := a1.1
  have w := k.2.2 F.heap locs ls (mj_hp.push a1 (by simpa using hz) hold ?_) (mj_S_push a2 (by omega) hold) a3 (by simp; omega) (by show s0 ≤ h.2 + 21; omega)
  · have e2 : (h.1 ++ [Sum.inl (4, 3, Sum.inr (Sum.inr (Sum.inr (Sum.inr (fun i => if i < 3 then some (h.1.length + 1 + i) else none))))), Sum.inl (0, 6, Sum.inl (fun _ => 0)), Sum.inl (0, 6, Sum.inl (fun _ => 0)), Sum.inl (0, 6, Sum.inl (fun _ => 0))] : List va_E).length - n0 = h.1.length - n0 + 1 + 3 := by simp; omega
    have e3 : h.2 + 21 - s0 = h.2 - s0 + 3 + 3 * 6 := by omega
    have e4 : mj_ad D h.1.length = H.size := (mj_ad_l (by omega)).trans hs.symm
    dsimp only at w
    rw [e2, e3, List.map_cons, show mj_cv D (.ref h.1.length) = .ref (mj_ad D h.1.length) from rfl, e4] at w
    obtain ⟨t, b1, b2⟩ := w F rfl X'
    rw [hT] at step
    exact ⟨t, step t b1, b2⟩
  intro j' e' hj' hg
  match j', hj' with
  | 0, hj' =>
    cases hj'
    show F.heap[mj_b D + (h.1.length + 0)]? = some (vp_cell (mj_dA D 4) (3, .inr (.inr (.inr (.inr (fun i => (if i < 3 then some (h.1.length + 1 + i) else none).map (mj_ad D)))))))
    rw [Nat.add_zero, ← hs, f2, vp_cell_q]
    refine congrArg (fun f => some (arrV (mj_dA D 4) 3 f)) (funext fun j => ?_)
    by_cases hj : j < 3
    · rw [if_pos hj, if_pos hj]
      show Value.ref _ = Value.ref (mj_ad D (h.1.length + 1 + j))
      rw [mj_ad_l (by omega)]
      have hTs : (T.setVm vm₁).heap.size = H.size := by rw [hTh]
      refine congrArg Value.ref ?_
      have hz2 : ∀ x y z w : Nat, x = y + z → x + 1 + w = y + (z + 1 + w) := fun x y z w h => by omega
      exact hz2 _ _ _ _ hs
    · rw [if_neg hj, if_neg hj]
      rfl
  | 1, hj' =>
    cases hj'
    have := hrow 0 (by omega)
    rw [hs] at this
    exact this
  | 2, hj' =>
    cases hj'
    have := hrow 1 (by omega)
    rw [hs] at this
    exact this
  | 3, hj' =>
    cases hj'
    have := hrow 2 (by omega)
    rw [hs] at this
    exact this
  | z + 4, hj' => simp [mj_nth] at hj'
end MJN
