/-! a step of the small machine is a step of the Jvm: fields, arrays, new cells -/
theorem mj_cls : ∀ {ci : Nat} {q : vw_C}, mj_nth vwCl ci = some q → (∀ w ∈ u_ws q.1 q.2.1 q.2.2, w ∈ lw_tbl) ∧ (∀ k, k < q.2.2 → parseFieldDescriptor (q.2.1 k).2.2.1 = some (mj_tyc ci k)) ∧ (∀ a, a < q.2.2 → ∀ b, b < q.2.2 → a ≠ b → (q.2.1 a).2.1 ≠ (q.2.1 b).2.1) ∧ ci < 11 ∧ mj_sz ci = q.2.2 := by
  intro ci q h
  match ci, h with
  | 0, h => cases h; exact ⟨inX0, tyX0_ok, nmX0, by omega, rfl⟩
  | 1, h => cases h; exact ⟨inX1, tyX1_ok, nmX1, by omega, rfl⟩
  | 2, h => cases h; exact ⟨inX2, tyX2_ok, nmX2, by omega, rfl⟩
  | 3, h => cases h; exact ⟨inX3, tyX3_ok, nmX3, by omega, rfl⟩
  | 4, h => cases h; exact ⟨inX4, tyX4_ok, nmX4, by omega, rfl⟩
  | 5, h => cases h; exact ⟨inX5, tyX5_ok, nmX5, by omega, rfl⟩
  | 6, h => cases h; exact ⟨inX6, tyX6_ok, nmX6, by omega, rfl⟩
  | 7, h => cases h; exact ⟨inX7, tyX7_ok, nmX7, by omega, rfl⟩
  | 8, h => cases h; exact ⟨inX8, tyX8_ok, nmX8, by omega, rfl⟩
  | 9, h => cases h; exact ⟨inX9, tyX9_ok, nmX9, by omega, rfl⟩
  | 10, h => cases h; exact ⟨inX10, tyX10_ok, nmX10, by omega, rfl⟩
  | n + 11, h => simp [vwCl, mj_nth] at h
theorem mj_nf {D : mj_D} {ty : FieldType} {v : Value} (h1 : narrow ty v = v) (h2 : fits ty v = true) : narrow ty (mj_cv D v) = mj_cv D v ∧ fits ty (mj_cv D v) = true := by
  cases v <;> first | exact ⟨h1, h2⟩ | (cases ty <;> simp_all [mj_cv, narrow, fits])
theorem mj_cv_def (D : mj_D) (ty : FieldType) : mj_cv D (defaultValue ty) = defaultValue ty := by cases ty <;> rfl
theorem mj_V {D : mj_D} {fs : List Value} {j : Nat} {v : Value} (hv : mj_nth fs j = some v) : vp_V (fs.map (mj_cv D)) j = mj_cv D v := by
  rw [mj_nth_eq] at hv
  simp [vp_V, hv]
section MJH
variable {D : mj_D} {M : mj_M} {p : Program} {l : Launch} {e : Env} {R : Room} {s : State} {m : MethodId} {args : Array Value} {below : List Frame} {meth : Method} {c : Code} {Q : State → Prop} {n0 s0 Lx Sx : Nat}
variable {pc : Nat} {lv : mj_L} {st r : List Value} {h : mj_H}
theorem mj_lays (hS : mj_St D s) {ci : Nat} {q : vw_C} (hq : mj_nth vwCl ci = some q) : ∀ w ∈ u_ws q.1 q.2.1 q.2.2, w.before args s = true := fun w hw => by
  have hm := (mj_cls hq).1 w hw
  obtain ⟨k, -, rfl⟩ := List.mem_map.mp hw
  refine hS.use hm ?_ ?_ <;> (unfold u_lay; split <;> rfl)
theorem mj_gbI {ci : Nat} {fs : List Value} (h : ci < 11) : mj_gb (.inr (ci, fs)) = false := by
  unfold mj_gb
  split
  · rename_i h2; cases h2; omega
  · rfl
/-- a put: the cell's new fields -/
theorem mj_put_at {H H1 : Heap} {ci j a : Nat} {fs : List Value} {v : Value} {q : vw_C} {cell : Cell} (hS : mj_St D s) (hq : mj_nth vwCl ci = some q) (hj : j < q.2.2) (hl : j < fs.length) (q2 : cell.cls = (mj_G D).1 ci) (q3 : cell.vm = .none) (q4 : ∀ k, k < q.2.2 → cell.slots[(mj_G D).2 ci k]? = some (vp_V (fs.map (mj_cv D)) k))
    (e1 : H1[a]? = some (cell.setSlot ((mj_G D).2 ci j) (mj_cv D v))) : va_at (mj_G D) vwCl (a, mj_ca D (.inr (ci, fs.set j v))) H1 := by
  obtain ⟨c1, c2, c3, c4, -⟩ := mj_cls hq
  have hq' : vwCl[ci]? = some q := by rw [← mj_nth_eq]; exact hq
  have hK : va_K (mj_G D) vwCl [] s := ⟨hS.2.1, fun k x hx => by simp at hx⟩
  have hap := va_apart (args := #[]) (own := "") (Ts := u_ws q.1 q.2.1 q.2.2) (mj_lays hS hq) (fun _ h => h) (mj_tyc ci) c2 c3 hK hq'
  refine ⟨q, hq', t_OB.to (V := updV (vp_V (fs.map (mj_cv D))) j (mj_cv D v)) ⟨_, e1, q2, q3, t_set q4 hap hj _⟩ (fun k _ => ?_)⟩
  rw [List.map_set]
  exact vp_updV_set (by simpa using hl) _ k
theorem mj_S_put {H H1 : Heap} {locs : List Loc} {a k : Nat} (hS : va_S (fun q => mj_b D ≤ q) s.heap H locs) (z : H1.size = H.size) (oq : ∀ q : Nat, q ≠ mj_b D + a → H1[q]? = H[q]?) : va_S (fun q => mj_b D ≤ q) s.heap H1 (locs ++ [⟨mj_b D + a, k⟩]) := hS.put z oq (Nat.le_add_right _ _)
theorem mj_S_push {H H1 : Heap} {locs : List Loc} (hS : va_S (fun q => mj_b D ≤ q) s.heap H locs) (z : H.size ≤ H1.size) (oq : ∀ q : Nat, q < H.size → H1[q]? = H[q]?) : va_S (fun q => mj_b D ≤ q) s.heap H1 locs :=
  ⟨Nat.le_trans hS.1 z, fun q h1 h2 => (oq q (Nat.lt_of_lt_of_le h1 hS.1)).trans (hS.2.1 q h1 h2), hS.2.2⟩
theorem mj_w_get (C : mj_Cx D M p R s m meth c n0 s0 Lx Sx) {i ci j wp a : Nat} {q : vw_C} {fs : List Value} {v : Value} (hd : decode (mj_bt M) pc = .ok (.getfield i, 3)) (hq : mj_nth vwCl ci = some q) (hj : j < q.2.2) (hF : mj_isF (mj_nth lw_tbl wp) (mj_nm M).cls i (q.2.1 j) = true)
    (hc : mj_nth h.1 a = some (.inr (ci, fs))) (hv : mj_nth fs j = some v) (k : mj_P D M p l e R s m args below meth c Q n0 s0 Lx Sx (pc + 3) lv (v :: r) h) : mj_P D M p l e R s m args below meth c Q n0 s0 Lx Sx pc lv (.ref a :: r) h := by
  obtain ⟨hx, hb, hml, hown, hnm, hSt, hRc, hRs, hLx, -⟩ := id C
  refine ⟨k.1, k.2.1, fun H locs ls a1 a2 a3 a4 a5 => ?_⟩
  have ha : mj_ad D a = mj_b D + a := mj_ad_l (Nat.lt_of_lt_of_le (mj_nth_lt hc) (Nat.le_trans k.1 hLx))
  obtain ⟨c1, c2, c3, c4, -⟩ := mj_cls hq
  have hq' : vwCl[ci]? = some q := by rw [← mj_nth_eq]; exact hq
  obtain ⟨r', h1, cell, q1, q2, q3, q4⟩ := a1.2.2 a _ hc (mj_gbI c4)
  have hr : r' = q := Option.some.inj (h1.symm.trans hq')
  subst hr
  obtain ⟨hS, hfc, kC, hkC, hkind⟩ := hSt.2.1 ci _ hq'
  obtain ⟨cf, kf, fi, f, hi, hsl⟩ := hS j hj
  have hst := (u_facts (args := #[]) hfc hkC (u_lays (mj_lays hSt hq) (fun _ h => h) hj) hi).1
  have hslot : cell.slots[f.slot]? = some (mj_cv D v) := by rw [hsl, q4 j hj, mj_V hv]
  have w := k.2.2 H locs ls a1 a2 a3 a4 a5
  show W p l e R s m args below meth c H locs _ _ Q (F0 m pc ls (.ref (mj_ad D a) :: r.map (mj_cv D)))
  rw [ha]
  cases hw : mj_nth lw_tbl wp with
  | none => rw [hw] at hF; cases hF
  | some w0 =>
    rw [hw] at hF
    cases w0 <;> simp only [mj_isF, Bool.false_eq_true] at hF
    · obtain ⟨e1, e2, e3, e4, e5⟩ := of_decide_eq_true hF
      subst e1; subst e2; subst e3; subst e4; subst e5
      exact W.getf hx hb hown (hSt.use (mj_nth_mem hw) rfl rfl) hi hst q1 (by rw [q3]; exact fun h => by cases h) hslot rfl rfl hd w
    · obtain ⟨e1, e2, e3, e4, e5⟩ := of_decide_eq_true hF
      subst e1; subst e2; subst e3; subst e4; subst e5
      exact va_Wgetf hx hb hown (hSt.use (mj_nth_mem hw) rfl rfl) hi hst q1 (by rw [q3]; exact fun h => by cases h) hslot rfl rfl hd w
theorem mj_w_put (C : mj_Cx D M p R s m meth c n0 s0 Lx Sx) {i ci j wp a : Nat} {q : vw_C} {fs : List Value} {v : Value} (hd : decode (mj_bt M) pc = .ok (.putfield i, 3)) (hq : mj_nth vwCl ci = some q) (hj : j < q.2.2) (hF : mj_isF (mj_nth lw_tbl wp) (mj_nm M).cls i (q.2.1 j) = true)
    (hfin : (!(q.2.1 j).2.2.2 || (decide ((mj_nm M).name = "<init>") && (mj_isFp (mj_nth lw_tbl wp) && decide ((q.2.1 j).1 = (mj_nm M).cls)))) = true)
    (hc : mj_nth h.1 a = some (.inr (ci, fs))) (hl : j < fs.length) (hn1 : narrow (mj_tyc ci j) v = v) (hn2 : fits (mj_tyc ci j) v = true) (k : mj_P D M p l e R s m args below meth c Q n0 s0 Lx Sx (pc + 3) lv r (h.1.set a (.inr (ci, fs.set j v)), h.2)) : mj_P D M p l e R s m args below meth c Q n0 s0 Lx Sx pc lv (v :: .ref a :: r) h := by
  obtain ⟨hx, hb, hml, hown, hnm, hSt, hRc, hRs, hLx, -⟩ := id C
  have hk1 : h.1.length ≤ Lx := by have := k.1; simpa using this
  refine ⟨hk1, k.2.1, fun H locs ls a1 a2 a3 a4 a5 => ?_⟩
  have ha : mj_ad D a = mj_b D + a := mj_ad_l (Nat.lt_of_lt_of_le (mj_nth_lt hc) (Nat.le_trans hk1 hLx))
  obtain ⟨c1, c2, c3, c4, -⟩ := mj_cls hq
  have hq' : vwCl[ci]? = some q := by rw [← mj_nth_eq]; exact hq
  obtain ⟨r', h1, cell, q1, q2, q3, q4⟩ := a1.2.2 a _ hc (mj_gbI c4)
  have hr : r' = q := Option.some.inj (h1.symm.trans hq')
  subst hr
  obtain ⟨hS, hfc, kC, hkC, hkind⟩ := hSt.2.1 ci _ hq'
  obtain ⟨cf, kf, fi, f, hi, hsl⟩ := hS j hj
  have hst := (u_facts (args := #[]) hfc hkC (u_lays (mj_lays hSt hq) (fun _ h => h) hj) hi).1
  obtain ⟨g1, g2⟩ := mj_nf (D := D) hn1 hn2
  have hlt : f.slot < cell.slots.size := by rw [hsl]; exact k2_hasslot (q4 j hj)
  have go : ∀ H1 : Heap, H1[mj_b D + a]? = some (cell.setSlot f.slot (mj_cv D v)) → H1.size = H.size → (∀ q, q ≠ mj_b D + a → H1[q]? = H[q]?) → W p l e R s m args below meth c H1 (locs ++ [⟨mj_b D + a, f.slot⟩]) (h.1.length - n0) (h.2 - s0) Q (F0 m (pc + 3) ls (r.map (mj_cv D))) := by
    intro H1 e1 e2 e3
    rw [hsl] at e1
    have w := k.2.2 H1 (locs ++ [⟨mj_b D + a, f.slot⟩]) ls (mj_hp.set a1 hc e2 e3 (mj_put_at (H := H) hSt hq hj hl q2 q3 q4 e1)) (mj_S_put a2 e2 e3) a3 (by simpa using a4) a5
    rw [List.length_set] at w
    exact w
  show W p l e R s m args below meth c H locs _ _ Q (F0 m pc ls (mj_cv D v :: .ref (mj_ad D a) :: r.map (mj_cv D)))
  rw [ha]
  have hlay : (u_lay r'.1 r'.2.1 j).before #[] s = true := mj_lays (args := #[]) hSt hq _ (u_in_lay hj)
  cases hfl : (r'.2.1 j).2.2.2 with
  | false =>
    unfold u_lay at hlay
    rw [if_neg (by rw [hfl]; decide)] at hlay
    have h6 := u_store hfc hkC hkind hlay hi (c2 j hj) g1 g2
    cases hw : mj_nth lw_tbl wp with
    | none => rw [hw] at hF; cases hF
    | some w0 =>
      rw [hw] at hF
      cases w0 <;> simp only [mj_isF, Bool.false_eq_true] at hF
      · obtain ⟨e1, e2, e3, e4, e5⟩ := of_decide_eq_true hF
        subst e1; subst e2; subst e3; subst e4; subst e5
        exact W.putK hx hb (f := f) ⟨hown, hSt.use (mj_nth_mem hw) rfl rfl, ⟨_, _, _, hi⟩, hst⟩ (by rw [q2]; exact h6) q1 q3 hlt rfl rfl hd go
      · obtain ⟨e1, e2, e3, e4, e5⟩ := of_decide_eq_true hF
        subst e1; subst e2; subst e3; subst e4; subst e5
        exact va_WputK hx hb (f := f) hown (hSt.use (mj_nth_mem hw) rfl rfl) hi hst (by rw [q2]; exact h6) q1 q3 hlt rfl rfl hd go
  | true =>
    rw [hfl] at hfin
    simp only [Bool.not_true, Bool.false_or, Bool.and_eq_true, decide_eq_true_eq] at hfin
    obtain ⟨z1, z2, z3⟩ := hfin
    unfold u_lay at hlay
    rw [if_pos hfl] at hlay
    have hcf : m.cls = cf := by
      obtain ⟨_, _, c', _, _, _, -, -, hf', -, -, -, hown2, -⟩ := Cond.laysFinal_spec hlay
      have e1 : c' = cf := by have := hi.symm.trans hf'; simp at this; exact this.1.symm
      rw [z3] at hown2
      rw [← e1]; exact Option.some.inj (hown.symm.trans hown2)
    have h6 := u_fits hfc hkC hkind (Or.inr hlay) hi (c2 j hj) g1 g2
    cases hw : mj_nth lw_tbl wp with
    | none => rw [hw] at hF; cases hF
    | some w0 =>
      rw [hw] at hF z2
      cases w0 <;> simp only [mj_isFp, Bool.false_eq_true] at z2
      simp only [mj_isF] at hF
      obtain ⟨e1, e2, e3, e4, e5⟩ := of_decide_eq_true hF
      subst e1; subst e2; subst e3; subst e4; subst e5
      exact W.putFinK hx hb hown (hSt.use (mj_nth_mem hw) rfl rfl) hi hst hcf (hnm.trans z1) (by rw [q2]; exact h6) q1 q3 hlt rfl rfl hd go
end MJH
