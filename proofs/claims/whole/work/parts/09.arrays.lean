/-! arrays and new cells -/
theorem mj_inI {i : Int32} {n : Nat} (h : ¬ (i < 0 ∨ n ≤ i.toNatClampNeg)) : i.toNatClampNeg < n := Nat.not_le.mp fun q => h (Or.inr q)
section MJA
variable {D : mj_D} {M : mj_M} {p : Program} {l : Launch} {e : Env} {R : Room} {s : State} {m : MethodId} {args : Array Value} {below : List Frame} {meth : Method} {c : Code} {Q : State → Prop} {n0 s0 Lx Sx : Nat}
variable {pc : Nat} {lv : mj_L} {st r : List Value} {h : mj_H} {a n : Nat} {i : Int32}
theorem mj_w_iald (C : mj_Cx D M p R s m meth c n0 s0 Lx Sx) {f : Nat → Int32} (hd : decode (mj_bt M) pc = .ok (.iaload, 1)) (hc : mj_nth h.1 a = some (.inl (0, n, .inl f))) (hin : ¬ (i < 0 ∨ n ≤ i.toNatClampNeg)) (k : mj_P D M p l e R s m args below meth c Q n0 s0 Lx Sx (pc + 1) lv (.int (f i.toNatClampNeg) :: r) h) : mj_P D M p l e R s m args below meth c Q n0 s0 Lx Sx pc lv (.int i :: .ref a :: r) h := by
  obtain ⟨hx, hb, hml, hown, hnm, hSt, hRc, hRs, hLx, -⟩ := id C
  refine ⟨k.1, k.2.1, fun H locs ls a1 a2 a3 a4 a5 => ?_⟩
  have ha : mj_ad D a = mj_b D + a := mj_ad_l (Nat.lt_of_lt_of_le (mj_nth_lt hc) (Nat.le_trans k.1 hLx))
  have w := k.2.2 H locs ls a1 a2 a3 a4 a5
  show W p l e R s m args below meth c H locs _ _ Q (F0 m pc ls (.int i :: .ref (mj_ad D a) :: r.map (mj_cv D)))
  rw [ha]
  exact W.iald (v := .int (f i.toNatClampNeg)) hx hb (a1.2.2 a _ hc rfl) ((hSt.2.2.1 0 .int rfl).1 n (fun j => .int (f j))) (fun q => by cases q) (by show ¬ (i < 0 ∨ (arrV _ _ _).slots.size ≤ _); rw [arrV_size]; exact hin) (by show (arrV _ _ _).slots[_]? = _; rw [arrV_read _ _ (mj_inI hin)]) rfl rfl hd w
theorem mj_w_bald (C : mj_Cx D M p R s m meth c n0 s0 Lx Sx) {f : Nat → Int32} (hd : decode (mj_bt M) pc = .ok (.baload, 1)) (hc : mj_nth h.1 a = some (.inl (2, n, .inl f))) (hin : ¬ (i < 0 ∨ n ≤ i.toNatClampNeg)) (k : mj_P D M p l e R s m args below meth c Q n0 s0 Lx Sx (pc + 1) lv (.int (f i.toNatClampNeg) :: r) h) : mj_P D M p l e R s m args below meth c Q n0 s0 Lx Sx pc lv (.int i :: .ref a :: r) h := by
  obtain ⟨hx, hb, hml, hown, hnm, hSt, hRc, hRs, hLx, -⟩ := id C
  refine ⟨k.1, k.2.1, fun H locs ls a1 a2 a3 a4 a5 => ?_⟩
  have ha : mj_ad D a = mj_b D + a := mj_ad_l (Nat.lt_of_lt_of_le (mj_nth_lt hc) (Nat.le_trans k.1 hLx))
  have w := k.2.2 H locs ls a1 a2 a3 a4 a5
  show W p l e R s m args below meth c H locs _ _ Q (F0 m pc ls (.int i :: .ref (mj_ad D a) :: r.map (mj_cv D)))
  rw [ha]
  exact W.bald (v := .int (f i.toNatClampNeg)) hx hb (a1.2.2 a _ hc rfl) ((hSt.2.2.1 2 .byte rfl).1 n (fun j => .int (f j))) (fun q => by cases q) (by show ¬ (i < 0 ∨ (arrV _ _ _).slots.size ≤ _); rw [arrV_size]; exact hin) (by show (arrV _ _ _).slots[_]? = _; rw [arrV_read _ _ (mj_inI hin)]) rfl rfl hd w
theorem mj_w_lald (C : mj_Cx D M p R s m meth c n0 s0 Lx Sx) {f : Nat → Int64} (hd : decode (mj_bt M) pc = .ok (.laload, 1)) (hc : mj_nth h.1 a = some (.inl (1, n, .inr (.inl f)))) (hin : ¬ (i < 0 ∨ n ≤ i.toNatClampNeg)) (k : mj_P D M p l e R s m args below meth c Q n0 s0 Lx Sx (pc + 1) lv (.long (f i.toNatClampNeg) :: r) h) : mj_P D M p l e R s m args below meth c Q n0 s0 Lx Sx pc lv (.int i :: .ref a :: r) h := by
  obtain ⟨hx, hb, hml, hown, hnm, hSt, hRc, hRs, hLx, -⟩ := id C
  refine ⟨k.1, k.2.1, fun H locs ls a1 a2 a3 a4 a5 => ?_⟩
  have ha : mj_ad D a = mj_b D + a := mj_ad_l (Nat.lt_of_lt_of_le (mj_nth_lt hc) (Nat.le_trans k.1 hLx))
  have w := k.2.2 H locs ls a1 a2 a3 a4 a5
  show W p l e R s m args below meth c H locs _ _ Q (F0 m pc ls (.int i :: .ref (mj_ad D a) :: r.map (mj_cv D)))
  rw [ha]
  exact W.lald (v := .long (f i.toNatClampNeg)) hx hb (a1.2.2 a _ hc rfl) ((hSt.2.2.1 1 .long rfl).1 n (fun j => .long (f j))) (fun q => by cases q) (by show ¬ (i < 0 ∨ (arrV _ _ _).slots.size ≤ _); rw [arrV_size]; exact hin) (by show (arrV _ _ _).slots[_]? = _; rw [arrV_read _ _ (mj_inI hin)]) rfl rfl hd w
theorem mj_rf_cv (D : mj_D) (o : Option Nat) : va_rf (o.map (mj_ad D)) = mj_cv D (va_rf o) := by cases o <;> rfl
theorem mj_w_aald (C : mj_Cx D M p R s m meth c n0 s0 Lx Sx) {f : Nat → Option Nat} {t : Nat} {ty : FieldType} (hty : mj_tys[t]? = some ty) (href : ty.isReference = true) (hd : decode (mj_bt M) pc = .ok (.aaload, 1)) (hc : mj_nth h.1 a = some (.inl (t, n, .inr (.inr (.inr (.inr f)))))) (hin : ¬ (i < 0 ∨ n ≤ i.toNatClampNeg)) (k : mj_P D M p l e R s m args below meth c Q n0 s0 Lx Sx (pc + 1) lv (va_rf (f i.toNatClampNeg) :: r) h) : mj_P D M p l e R s m args below meth c Q n0 s0 Lx Sx pc lv (.int i :: .ref a :: r) h := by
  obtain ⟨hx, hb, hml, hown, hnm, hSt, hRc, hRs, hLx, -⟩ := id C
  refine ⟨k.1, k.2.1, fun H locs ls a1 a2 a3 a4 a5 => ?_⟩
  have ha : mj_ad D a = mj_b D + a := mj_ad_l (Nat.lt_of_lt_of_le (mj_nth_lt hc) (Nat.le_trans k.1 hLx))
  have w := k.2.2 H locs ls a1 a2 a3 a4 a5
  show W p l e R s m args below meth c H locs _ _ Q (F0 m pc ls (.int i :: .ref (mj_ad D a) :: r.map (mj_cv D)))
  rw [ha]
  refine W.aald (v := mj_cv D (va_rf (f i.toNatClampNeg))) (ty := ty) hx hb (a1.2.2 a _ hc rfl) ((hSt.2.2.1 t ty hty).1 n (fun j => va_rf ((f j).map (mj_ad D)))) href (fun q => by cases q) (by show ¬ (i < 0 ∨ (arrV _ _ _).slots.size ≤ _); rw [arrV_size]; exact hin) ?_ rfl rfl hd w
  show (arrV _ _ _).slots[_]? = _
  rw [arrV_read _ _ (mj_inI hin), mj_rf_cv]
theorem mj_w_iast (C : mj_Cx D M p R s m meth c n0 s0 Lx Sx) {f : Nat → Int32} {x : Int32} (hd : decode (mj_bt M) pc = .ok (.iastore, 1)) (hc : mj_nth h.1 a = some (.inl (0, n, .inl f))) (hin : ¬ (i < 0 ∨ n ≤ i.toNatClampNeg)) (k : mj_P D M p l e R s m args below meth c Q n0 s0 Lx Sx (pc + 1) lv r (h.1.set a (.inl (0, n, .inl (upd f i.toNatClampNeg x))), h.2)) : mj_P D M p l e R s m args below meth c Q n0 s0 Lx Sx pc lv (.int x :: .int i :: .ref a :: r) h := by
  obtain ⟨hx, hb, hml, hown, hnm, hSt, hRc, hRs, hLx, -⟩ := id C
  have hk1 : h.1.length ≤ Lx := by have := k.1; simpa using this
  refine ⟨hk1, k.2.1, fun H locs ls a1 a2 a3 a4 a5 => ?_⟩
  have ha : mj_ad D a = mj_b D + a := mj_ad_l (Nat.lt_of_lt_of_le (mj_nth_lt hc) (Nat.le_trans hk1 hLx))
  show W p l e R s m args below meth c H locs _ _ Q (F0 m pc ls (.int x :: .int i :: .ref (mj_ad D a) :: r.map (mj_cv D)))
  rw [ha]
  refine W.iast hx hb (a1.2.2 a _ hc rfl) ((hSt.2.2.1 0 .int rfl).1 n (fun j => .int (f j))) (fun q => by cases q) (by show ¬ (i < 0 ∨ (arrV _ _ _).slots.size ≤ _); rw [arrV_size]; exact hin) rfl rfl hd fun H1 e1 z oq => ?_
  have w := k.2.2 H1 (locs ++ [⟨mj_b D + a, i.toNatClampNeg⟩]) ls (mj_hp.set a1 hc z oq ?_) (mj_S_put a2 z oq) a3 (by simpa using a4) a5
  · rw [List.length_set] at w
    exact w
  show H1[mj_b D + a]? = some (vp_cell _ (n, .inl (upd f i.toNatClampNeg x)))
  rw [e1]
  show some ((vp_cell (mj_dA D 0) (n, .inl f)).setSlot _ _) = _
  rw [vp_cell_i, vp_cell_i, arrV_store]
  congr 2
  funext q
  by_cases hq : q = i.toNatClampNeg
  · subst hq
    simp [updV, upd]
  · simp [updV, upd, hq]
theorem mj_w_bast (C : mj_Cx D M p R s m meth c n0 s0 Lx Sx) {f : Nat → Int32} {x : Int32} (hd : decode (mj_bt M) pc = .ok (.bastore, 1)) (hc : mj_nth h.1 a = some (.inl (2, n, .inl f))) (hin : ¬ (i < 0 ∨ n ≤ i.toNatClampNeg)) (k : mj_P D M p l e R s m args below meth c Q n0 s0 Lx Sx (pc + 1) lv r (h.1.set a (.inl (2, n, .inl (upd f i.toNatClampNeg (vp_nar .byte x)))), h.2)) : mj_P D M p l e R s m args below meth c Q n0 s0 Lx Sx pc lv (.int x :: .int i :: .ref a :: r) h := by
  obtain ⟨hx, hb, hml, hown, hnm, hSt, hRc, hRs, hLx, -⟩ := id C
  have hk1 : h.1.length ≤ Lx := by have := k.1; simpa using this
  refine ⟨hk1, k.2.1, fun H locs ls a1 a2 a3 a4 a5 => ?_⟩
  have ha : mj_ad D a = mj_b D + a := mj_ad_l (Nat.lt_of_lt_of_le (mj_nth_lt hc) (Nat.le_trans hk1 hLx))
  show W p l e R s m args below meth c H locs _ _ Q (F0 m pc ls (.int x :: .int i :: .ref (mj_ad D a) :: r.map (mj_cv D)))
  rw [ha]
  refine W.bast hx hb (a1.2.2 a _ hc rfl) ((hSt.2.2.1 2 .byte rfl).1 n (fun j => .int (f j))) (fun q => by cases q) (by show ¬ (i < 0 ∨ (arrV _ _ _).slots.size ≤ _); rw [arrV_size]; exact hin) rfl rfl hd fun H1 e1 z oq => ?_
  have w := k.2.2 H1 (locs ++ [⟨mj_b D + a, i.toNatClampNeg⟩]) ls (mj_hp.set a1 hc z oq ?_) (mj_S_put a2 z oq) a3 (by simpa using a4) a5
  · rw [List.length_set] at w
    exact w
  show H1[mj_b D + a]? = some (vp_cell _ (n, .inl (upd f i.toNatClampNeg (vp_nar .byte x))))
  rw [e1]
  show some ((vp_cell (mj_dA D 2) (n, .inl f)).setSlot _ _) = _
  rw [vp_cell_i, vp_cell_i, arrV_store]
  congr 2
  funext q
  by_cases hq : q = i.toNatClampNeg
  · subst hq
    simp [updV, upd, vp_nar]
    try rfl
  · simp [updV, upd, hq]
theorem mj_w_last (C : mj_Cx D M p R s m meth c n0 s0 Lx Sx) {f : Nat → Int64} {x : Int64} (hd : decode (mj_bt M) pc = .ok (.lastore, 1)) (hc : mj_nth h.1 a = some (.inl (1, n, .inr (.inl f)))) (hin : ¬ (i < 0 ∨ n ≤ i.toNatClampNeg)) (k : mj_P D M p l e R s m args below meth c Q n0 s0 Lx Sx (pc + 1) lv r (h.1.set a (.inl (1, n, .inr (.inl (vp_updL f i.toNatClampNeg x)))), h.2)) : mj_P D M p l e R s m args below meth c Q n0 s0 Lx Sx pc lv (.long x :: .int i :: .ref a :: r) h := by
  obtain ⟨hx, hb, hml, hown, hnm, hSt, hRc, hRs, hLx, -⟩ := id C
  have hk1 : h.1.length ≤ Lx := by have := k.1; simpa using this
  refine ⟨hk1, k.2.1, fun H locs ls a1 a2 a3 a4 a5 => ?_⟩
  have ha : mj_ad D a = mj_b D + a := mj_ad_l (Nat.lt_of_lt_of_le (mj_nth_lt hc) (Nat.le_trans hk1 hLx))
  show W p l e R s m args below meth c H locs _ _ Q (F0 m pc ls (.long x :: .int i :: .ref (mj_ad D a) :: r.map (mj_cv D)))
  rw [ha]
  refine W.last hx hb (a1.2.2 a _ hc rfl) ((hSt.2.2.1 1 .long rfl).1 n (fun j => .long (f j))) (fun q => by cases q) (by show ¬ (i < 0 ∨ (arrV _ _ _).slots.size ≤ _); rw [arrV_size]; exact hin) rfl rfl hd fun H1 e1 z oq => ?_
  have w := k.2.2 H1 (locs ++ [⟨mj_b D + a, i.toNatClampNeg⟩]) ls (mj_hp.set a1 hc z oq ?_) (mj_S_put a2 z oq) a3 (by simpa using a4) a5
  · rw [List.length_set] at w
    exact w
  show H1[mj_b D + a]? = some (vp_cell _ (n, .inr (.inl (vp_updL f i.toNatClampNeg x))))
  rw [e1]
  show some ((vp_cell (mj_dA D 1) (n, .inr (.inl f))).setSlot _ _) = _
  rw [vp_cell_l, vp_cell_l, arrV_store]
  congr 2
  funext q
  by_cases hq : q = i.toNatClampNeg
  · subst hq
    simp [updV, vp_updL]
  · simp [updV, vp_updL, hq]
theorem mj_w_aast (C : mj_Cx D M p R s m meth c n0 s0 Lx Sx) {f : Nat → Option Nat} {v : Nat} {vs : List Value} (hd : decode (mj_bt M) pc = .ok (.aastore, 1)) (hc : mj_nth h.1 a = some (.inl (3, n, .inr (.inr (.inr (.inr f)))))) (hv : mj_nth h.1 v = some (.inr (5, vs))) (hin : ¬ (i < 0 ∨ n ≤ i.toNatClampNeg)) (k : mj_P D M p l e R s m args below meth c Q n0 s0 Lx Sx (pc + 1) lv r (h.1.set a (.inl (3, n, .inr (.inr (.inr (.inr (va_up f i.toNatClampNeg (some v))))))), h.2)) : mj_P D M p l e R s m args below meth c Q n0 s0 Lx Sx pc lv (.ref v :: .int i :: .ref a :: r) h := by
  obtain ⟨hx, hb, hml, hown, hnm, hSt, hRc, hRs, hLx, -⟩ := id C
  have hk1 : h.1.length ≤ Lx := by have := k.1; simpa using this
  refine ⟨hk1, k.2.1, fun H locs ls a1 a2 a3 a4 a5 => ?_⟩
  have ha : mj_ad D a = mj_b D + a := mj_ad_l (Nat.lt_of_lt_of_le (mj_nth_lt hc) (Nat.le_trans hk1 hLx))
  have hva : mj_ad D v = mj_b D + v := mj_ad_l (Nat.lt_of_lt_of_le (mj_nth_lt hv) (Nat.le_trans hk1 hLx))
  show W p l e R s m args below meth c H locs _ _ Q (F0 m pc ls (.ref (mj_ad D v) :: .int i :: .ref (mj_ad D a) :: r.map (mj_cv D)))
  rw [ha]
  have h0 : ¬ i < 0 := fun q => hin (Or.inl q)
  obtain ⟨r', hr', cellV, g1, g2, g3, -⟩ := a1.2.2 v _ hv rfl
  have hcls := (hSt.2.1 5 (RX5, TX5, 8) rfl).2
  obtain ⟨kA, comp, k1, k2, k3, -⟩ := (hSt.2.2.1 3 (.object "LowNumber$Now") rfl).2
  have hcomp : comp = (mj_G D).1 5 := Option.some.inj (k3.symm.trans hcls.1)
  subst hcomp
  obtain ⟨kC, hkC, -⟩ := hcls.2
  rw [hva]
  refine W.aast hx hb (a1.2.2 a _ hc rfl) (fun q h => by cases h) (fun h => by cases h) k1 k2 rfl hkC ⟨h0, by show _ < (arrV _ _ _).slots.size; rw [arrV_size]; exact mj_inI hin⟩ g1 (fun q h => by rw [g3] at h; cases h) (by rw [g2]; exact hkC) (by rw [g2]; exact va_assign hcls) rfl rfl hd fun H1 e1 z oq => ?_
  have w := k.2.2 H1 (locs ++ [⟨mj_b D + a, i.toNatClampNeg⟩]) ls (mj_hp.set a1 hc z oq ?_) (mj_S_put a2 z oq) a3 (by simpa using a4) a5
  · rw [List.length_set] at w
    exact w
  show H1[mj_b D + a]? = some (vp_cell _ (n, .inr (.inr (.inr (.inr (fun j => (va_up f i.toNatClampNeg (some v) j).map (mj_ad D)))))))
  rw [e1]
  show some ((vp_cell (mj_dA D 3) (n, .inr (.inr (.inr (.inr (fun j => (f j).map (mj_ad D))))))).setSlot _ _) = _
  rw [vp_cell_q, vp_cell_q, arrV_store]
  congr 2
  funext q
  by_cases hq : q = i.toNatClampNeg
  · subst hq
    simp [updV, va_up, va_rf, hva]
  · simp [updV, va_up, hq]
/-- static rows -/
theorem mj_w_sald (C : mj_Cx D M p R s m meth c n0 s0 Lx Sx) {f : Nat → Int32} (hd : decode (mj_bt M) pc = .ok (.iaload, 1)) (hc : mj_sta D a = some (n, f)) (hin : ¬ (i < 0 ∨ n ≤ i.toNatClampNeg)) (k : mj_P D M p l e R s m args below meth c Q n0 s0 Lx Sx (pc + 1) lv (.int (f i.toNatClampNeg) :: r) h) : mj_P D M p l e R s m args below meth c Q n0 s0 Lx Sx pc lv (.int i :: .ref a :: r) h := by
  obtain ⟨hx, hb, hml, hown, hnm, hSt, hRc, hRs, hLx, -⟩ := id C
  refine ⟨k.1, k.2.1, fun H locs ls a1 a2 a3 a4 a5 => ?_⟩
  obtain ⟨g1, ⟨scr, g2, g3, g4, g5, g6⟩, g7⟩ := hSt.2.2.2.1 a n f hc
  have ha : mj_ad D a = mj_sK D (a - mj_SB) := if_neg (Nat.not_lt.mpr g1)
  have w := k.2.2 H locs ls a1 a2 a3 a4 a5
  show W p l e R s m args below meth c H locs _ _ Q (F0 m pc ls (.int i :: .ref (mj_ad D a) :: r.map (mj_cv D)))
  rw [ha]
  exact W.iald (v := .int (f i.toNatClampNeg)) hx hb (by rw [a1.2.1 _ g7]; exact g2) g3 g4 (by rw [g5]; exact hin) (g6 _ (mj_inI hin)) rfl rfl hd w
theorem mj_w_slen (C : mj_Cx D M p R s m meth c n0 s0 Lx Sx) {f : Nat → Int32} (hd : decode (mj_bt M) pc = .ok (.arraylength, 1)) (hc : mj_sta D a = some (n, f)) (k : mj_P D M p l e R s m args below meth c Q n0 s0 Lx Sx (pc + 1) lv (.int (Int32.ofNat n) :: r) h) : mj_P D M p l e R s m args below meth c Q n0 s0 Lx Sx pc lv (.ref a :: r) h := by
  obtain ⟨hx, hb, hml, hown, hnm, hSt, hRc, hRs, hLx, -⟩ := id C
  refine ⟨k.1, k.2.1, fun H locs ls a1 a2 a3 a4 a5 => ?_⟩
  obtain ⟨g1, ⟨scr, g2, g3, g4, g5, g6⟩, g7⟩ := hSt.2.2.2.1 a n f hc
  have ha : mj_ad D a = mj_sK D (a - mj_SB) := if_neg (Nat.not_lt.mpr g1)
  have w := k.2.2 H locs ls a1 a2 a3 a4 a5
  show W p l e R s m args below meth c H locs _ _ Q (F0 m pc ls (.ref (mj_ad D a) :: r.map (mj_cv D)))
  rw [ha]
  exact W.alen (n := Int32.ofNat n) hx hb (by rw [a1.2.1 _ g7]; exact g2) g3 (by rw [g5] <;> rfl) rfl rfl hd w
theorem mj_w_alen (C : mj_Cx D M p R s m meth c n0 s0 Lx Sx) {f : Nat → Int32} (hd : decode (mj_bt M) pc = .ok (.arraylength, 1)) (hc : mj_nth h.1 a = some (.inl (0, n, .inl f))) (k : mj_P D M p l e R s m args below meth c Q n0 s0 Lx Sx (pc + 1) lv (.int (Int32.ofNat n) :: r) h) : mj_P D M p l e R s m args below meth c Q n0 s0 Lx Sx pc lv (.ref a :: r) h := by
  obtain ⟨hx, hb, hml, hown, hnm, hSt, hRc, hRs, hLx, -⟩ := id C
  refine ⟨k.1, k.2.1, fun H locs ls a1 a2 a3 a4 a5 => ?_⟩
  have ha : mj_ad D a = mj_b D + a := mj_ad_l (Nat.lt_of_lt_of_le (mj_nth_lt hc) (Nat.le_trans k.1 hLx))
  have w := k.2.2 H locs ls a1 a2 a3 a4 a5
  show W p l e R s m args below meth c H locs _ _ Q (F0 m pc ls (.ref (mj_ad D a) :: r.map (mj_cv D)))
  rw [ha]
  exact W.alen (n := Int32.ofNat n) hx hb (a1.2.2 a _ hc rfl) ((hSt.2.2.1 0 .int rfl).1 n (fun j => .int (f j))) (by show (vp_cell (mj_dA D 0) (n, .inl f)).slots.size.toInt32 = _; rw [vp_cell_i, arrV_size] <;> rfl) rfl rfl hd w
theorem mj_w_gets (C : mj_Cx D M p R s m meth c n0 s0 Lx Sx) {j wp : Nat} (hd : decode (mj_bt M) pc = .ok (.getstatic j, 3)) (hF : mj_isF (mj_nth lw_tbl wp) (mj_nm M).cls j ("LowNumber", "FACTORIALS", "[I", true) = true) (k : mj_P D M p l e R s m args below meth c Q n0 s0 Lx Sx (pc + 3) lv (.ref (mj_SB + 100) :: r) h) : mj_P D M p l e R s m args below meth c Q n0 s0 Lx Sx pc lv r h := by
  obtain ⟨hx, hb, hml, hown, hnm, hSt, hRc, hRs, hLx, hb1, hb2⟩ := id C
  refine ⟨k.1, k.2.1, fun H locs ls a1 a2 a3 a4 a5 => ?_⟩
  have w := k.2.2 H locs ls a1 a2 a3 a4 a5
  have ha : mj_ad D (mj_SB + 100) = mj_sK D 100 := mj_ad_s D 100
  have hZ : va_Z "LowNumber" "FACTORIALS" "[I" (.ref (mj_sK D 100)) (fun q => mj_b D ≤ q) s s.heap := hSt.2.2.2.2.2.2.2.1.kept (fun a h1 h2 => hb2 a (Nat.not_le.mp h2))
  rw [List.map_cons, show mj_cv D (.ref (mj_SB + 100)) = .ref (mj_ad D (mj_SB + 100)) from rfl, ha] at w
  cases hw : mj_nth lw_tbl wp with
  | none => rw [hw] at hF; cases hF
  | some w0 =>
    rw [hw] at hF
    cases w0 <;> simp only [mj_isF, Bool.false_eq_true] at hF
    · obtain ⟨e1, e2, e3, e4, e5⟩ := of_decide_eq_true hF
      subst e1; subst e2; subst e3; subst e4; subst e5
      exact va_gets hx hb hZ a2 hown (hSt.use (mj_nth_mem hw) rfl rfl) (fun _ h => h) hd w
    · obtain ⟨e1, e2, e3, e4, e5⟩ := of_decide_eq_true hF
      subst e1; subst e2; subst e3; subst e4; subst e5
      exact va_getsN hx hb hZ a2 hown (hSt.use (mj_nth_mem hw) rfl rfl) (fun _ h => h) hd w
end MJA
