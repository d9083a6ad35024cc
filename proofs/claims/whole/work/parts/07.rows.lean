/-! a step of the small machine is a step of the Jvm: plain instructions -/
theorem mj_ldcSW {p : Program} {l : Launch} {e : Env} {R : Room} {s : State} {m : MethodId} {args : Array Value} {below : List Frame} {meth : Method} {c : Code} {H : Heap} {locs : List Loc} {cells slots : Nat} {Q : State → Prop} {cc : ByteArray} {pc : Nat} {ls : Array Slot} {rest : List Value} (hexec : p.tables.exec = Jvm.exec) (hb : c.code = cc) {own tx : String} {index q : Nat} (hown : s.vm.findClass own = some m.cls) (hZ : vk_R own index tx q s) (hdg : decode cc pc = .ok (.ldc_w index, 3))
    (k : W p l e R s m args below meth c H locs cells slots Q (F0 m (pc + 3) ls (.ref q :: rest))) : W p l e R s m args below meth c H locs cells slots Q (F0 m pc ls rest) := by
  intro T hT X
  obtain ⟨t, a1, b1⟩ := k T hT X
  exact ⟨t, X.ldcStringW hexec hown (text := tx) (a := q) hZ.1 hZ.2 (g := F0 m pc ls rest) rfl (by rw [hb]; exact hdg) t a1, b1⟩
section MJS
variable {D : mj_D} {M : mj_M} {p : Program} {l : Launch} {e : Env} {R : Room} {s : State} {m : MethodId} {args : Array Value} {below : List Frame} {meth : Method} {c : Code} {Q : State → Prop} {n0 s0 Lx Sx : Nat}
/-- what stands fast in a method's body -/
def mj_Cx (D : mj_D) (M : mj_M) (p : Program) (R : Room) (s : State) (m : MethodId) (meth : Method) (c : Code) (n0 s0 Lx Sx : Nat) : Prop :=
  p.tables.exec = Jvm.exec ∧ c.code = mj_bt M ∧ c.maxLocals = mj_mx M ∧ s.vm.findClass (mj_nm M).cls = some m.cls ∧ meth.name = (mj_nm M).name ∧ mj_St D s ∧ R.cells = Lx - n0 ∧ R.slots = Sx - s0 ∧ Lx ≤ mj_SB ∧ mj_b D ≤ s.heap.size ∧ ∀ q : Nat, q < mj_b D → s.heap[q]? = (mj_H0 D)[q]?
def mj_P (D : mj_D) (M : mj_M) (p : Program) (l : Launch) (e : Env) (R : Room) (s : State) (m : MethodId) (args : Array Value) (below : List Frame) (meth : Method) (c : Code) (Q : State → Prop) (n0 s0 Lx Sx : Nat) (pc : Nat) (lv : mj_L) (st : List Value) (h : mj_H) : Prop :=
  h.1.length ≤ Lx ∧ h.2 ≤ Sx ∧ ∀ (H : Heap) (locs : List Loc) (ls : Array Slot), mj_hp D h H → va_S (fun q => mj_b D ≤ q) s.heap H locs → lv_has ls (mj_mx M) (mj_pr D lv) → n0 ≤ h.1.length → s0 ≤ h.2 → W p l e R s m args below meth c H locs (h.1.length - n0) (h.2 - s0) Q (F0 m pc ls (st.map (mj_cv D)))
variable {pc : Nat} {lv : mj_L} {st r : List Value} {h : mj_H}
theorem mj_ad_s (D : mj_D) (j : Nat) : mj_ad D (mj_SB + j) = mj_sK D j := by
  unfold mj_ad
  rw [if_neg (Nat.not_lt.mpr (Nat.le_add_right _ _)), Nat.add_sub_cancel_left]
theorem mj_ad_l {D : mj_D} {k : Nat} (h : k < mj_SB) : mj_ad D k = mj_b D + k := if_pos h
theorem mj_St.use (hS : mj_St D s) {w : Cond} (hw : w ∈ lw_tbl) (hk : mj_kw w = true) (ho : w.onTables = true) : w.before args s = true := va_Nw.use ho (hS.1 w hw hk)
theorem mj_tgI {pc : Nat} {off : Int} (h : 0 ≤ (pc : Int) + off) : (pc : Int) + off = ((mj_tg pc off : Nat) : Int) := by
  unfold mj_tg
  omega
/-- the same heap, the same locals -/
theorem mj_lift {pc pc' : Nat} {st st' : List Value} (hW : ∀ (H : Heap) (locs : List Loc) (ls : Array Slot) (cells slots : Nat), lv_has ls (mj_mx M) (mj_pr D lv) → W p l e R s m args below meth c H locs cells slots Q (F0 m pc' ls (st'.map (mj_cv D))) → W p l e R s m args below meth c H locs cells slots Q (F0 m pc ls (st.map (mj_cv D))))
    (k : mj_P D M p l e R s m args below meth c Q n0 s0 Lx Sx pc' lv st' h) : mj_P D M p l e R s m args below meth c Q n0 s0 Lx Sx pc lv st h :=
  ⟨k.1, k.2.1, fun H locs ls a1 a2 a3 a4 a5 => hW H locs ls _ _ a3 (k.2.2 H locs ls a1 a2 a3 a4 a5)⟩
/-- the same heap, other locals -/
theorem mj_liftL {pc pc' : Nat} {st st' : List Value} {lv' : mj_L} (hW : ∀ (H : Heap) (locs : List Loc) (ls : Array Slot) (cells slots : Nat), lv_has ls (mj_mx M) (mj_pr D lv) → (∀ ls', lv_has ls' (mj_mx M) (mj_pr D lv') → W p l e R s m args below meth c H locs cells slots Q (F0 m pc' ls' (st'.map (mj_cv D)))) → W p l e R s m args below meth c H locs cells slots Q (F0 m pc ls (st.map (mj_cv D))))
    (k : mj_P D M p l e R s m args below meth c Q n0 s0 Lx Sx pc' lv' st' h) : mj_P D M p l e R s m args below meth c Q n0 s0 Lx Sx pc lv st h :=
  ⟨k.1, k.2.1, fun H locs ls a1 a2 a3 a4 a5 => hW H locs ls _ _ a3 (fun ls' a3' => k.2.2 H locs ls' a1 a2 a3' a4 a5)⟩
theorem mj_iinc_at {lv : mj_L} {i : Nat} {v : Value} (hv : mj_ld lv i = some v) : ∃ k : Nat, (mj_pr D lv)[k]? = some (i, mj_cv D v) := by
  unfold mj_ld at hv
  rw [mj_nth_eq] at hv
  cases hi : lv[i]? with
  | none => rw [hi] at hv; cases hv
  | some o =>
    rw [hi] at hv
    cases o with
    | none => cases hv
    | some w => cases hv; exact List.getElem?_of_mem (mj_pr_mem.mpr ⟨_, hi, rfl⟩)
set_option maxHeartbeats 4000000 in
/-- instructions that look at no heap -/
theorem mj_pure (C : mj_Cx D M p R s m meth c n0 s0 Lx Sx) {i raw : Instr} {len wp : Nat} {pc' : Nat} {lv' : mj_L} {st' : List Value} {h' : mj_H} (hd : decode (mj_bt M) pc = .ok (raw, len)) (hl : mj_lenok raw len = true) (ht : mj_tgok pc raw = true)
    (hok : mj_ok (mj_nm M).cls (decide ((mj_nm M).name = "<init>")) (mj_mx M) i raw (mj_nth lw_tbl wp) = true) (hi : match i with | .getfield _ | .putfield _ | .iaload | .baload | .laload | .aaload | .iastore | .bastore | .lastore | .aastore | .arraylength | .new _ | .newarray _ | .anewarray _ | .multianewarray _ _ | .getstatic _ => False | _ => True)
    (hn : mj_nx (mj_sta D) i len pc lv st h = some (pc', lv', st', h')) (k : mj_P D M p l e R s m args below meth c Q n0 s0 Lx Sx pc' lv' st' h') : mj_P D M p l e R s m args below meth c Q n0 s0 Lx Sx pc lv st h := by
  obtain ⟨hx, hb, hml, hown, hnm, hSt, -⟩ := id C
  cases i
  case iconst n =>
    cases hn
    cases raw <;> simp only [mj_ok, Bool.false_eq_true] at hok
    case iconst m =>
      have e1 := of_decide_eq_true hok; subst e1
      have e2 : len = 1 := Nat.eq_of_beq_eq_true hl; subst e2
      exact mj_lift (fun H locs ls cells slots _ w => lv_iconst hx hb hd rfl w) k
    case ldc j =>
      have e2 : len = 2 := Nat.eq_of_beq_eq_true hl; subst e2
      cases hw : mj_nth lw_tbl wp with
      | none => rw [hw] at hok; cases hok
      | some w =>
        rw [hw] at hok
        cases w <;> simp only [Bool.false_eq_true] at hok
        obtain ⟨e1, e2, e3⟩ := of_decide_eq_true hok
        subst e1; subst e2; subst e3
        exact mj_lift (fun H locs ls cells slots _ w => lv_ldc hx hb hown (hSt.use (mj_nth_mem hw) rfl rfl) hd w) k
    case ldc_w j =>
      have e2 : len = 3 := Nat.eq_of_beq_eq_true hl; subst e2
      cases hw : mj_nth lw_tbl wp with
      | none => rw [hw] at hok; cases hok
      | some w =>
        rw [hw] at hok
        cases w <;> simp only [Bool.false_eq_true] at hok
        obtain ⟨e1, e2, e3⟩ := of_decide_eq_true hok
        subst e1; subst e2; subst e3
        exact mj_lift (fun H locs ls cells slots _ w => lv_ldcw hx hb hown (hSt.use (mj_nth_mem hw) rfl rfl) hd w) k
  case ldc2_w n =>
    cases hn
    cases raw <;> simp only [mj_ok, Bool.false_eq_true] at hok
    have e2 : len = 3 := Nat.eq_of_beq_eq_true hl; subst e2
    cases hw : mj_nth lw_tbl wp with
    | none => rw [hw] at hok; cases hok
    | some w =>
      rw [hw] at hok
      cases w <;> simp only [Bool.false_eq_true] at hok
      obtain ⟨e1, e2, e3⟩ := of_decide_eq_true hok
      subst e1; subst e2; subst e3
      exact mj_lift (fun H locs ls cells slots _ w => lv_ldc2 hx hb hown (hSt.use (mj_nth_mem hw) rfl rfl) hd w) k
  case ldc j =>
    cases hn
    cases raw <;> simp only [mj_ok, Bool.false_eq_true] at hok
    case ldc ii =>
      have e2 : len = 2 := Nat.eq_of_beq_eq_true hl; subst e2
      cases hw : mj_nth lw_tbl wp with
      | none => rw [hw] at hok; cases hok
      | some w =>
        rw [hw] at hok
        cases w <;> simp only [Bool.false_eq_true] at hok
        obtain ⟨e1, e2, e3⟩ := of_decide_eq_true hok
        subst e1; subst e2
        have hZ := hSt.2.2.2.2.1 j _ e3
        have ha : mj_ad D (mj_SB + j) = mj_sK D j := mj_ad_s D j
        exact mj_lift (fun H locs ls cells slots _ w => va_ldcS hx hb hown hZ hd (by rw [List.map_cons, show mj_cv D (.ref (mj_SB + j)) = .ref (mj_ad D (mj_SB + j)) from rfl, ha] at w; exact w)) k
    case ldc_w ii =>
      have e2 : len = 3 := Nat.eq_of_beq_eq_true hl; subst e2
      cases hw : mj_nth lw_tbl wp with
      | none => rw [hw] at hok; cases hok
      | some w =>
        rw [hw] at hok
        cases w <;> simp only [Bool.false_eq_true] at hok
        obtain ⟨e1, e2, e3⟩ := of_decide_eq_true hok
        subst e1; subst e2
        have hZ := hSt.2.2.2.2.1 j _ e3
        have ha : mj_ad D (mj_SB + j) = mj_sK D j := mj_ad_s D j
        exact mj_lift (fun H locs ls cells slots _ w => mj_ldcSW hx hb hown hZ hd (by rw [List.map_cons, show mj_cv D (.ref (mj_SB + j)) = .ref (mj_ad D (mj_SB + j)) from rfl, ha] at w; exact w)) k
  case bipush n =>
    have e1 : raw = _ := of_decide_eq_true (by simpa only [mj_ok] using hok); subst e1
    have e2 : len = 2 := Nat.eq_of_beq_eq_true hl; subst e2
    cases hn
    exact mj_lift (fun H locs ls cells slots _ w => lv_bipush hx hb hd rfl w) k
  case sipush n =>
    have e1 : raw = _ := of_decide_eq_true (by simpa only [mj_ok] using hok); subst e1
    have e2 : len = 3 := Nat.eq_of_beq_eq_true hl; subst e2
    cases hn
    exact mj_lift (fun H locs ls cells slots _ w => lv_sipush hx hb hd rfl w) k
  case lconst n =>
    have e1 : raw = _ := of_decide_eq_true (by simpa only [mj_ok] using hok); subst e1
    have e2 : len = 1 := Nat.eq_of_beq_eq_true hl; subst e2
    cases hn
    exact mj_lift (fun H locs ls cells slots _ w => lv_lconst hx hb hd rfl w) k
  case iload_n n =>
    have e1 : raw = _ := of_decide_eq_true (by simpa only [mj_ok] using hok); subst e1
    have e2 : len = 1 := Nat.eq_of_beq_eq_true hl; subst e2
    unfold mj_nx at hn
    dsimp only at hn
    split at hn
    case h_2 => cases hn
    rename_i x hv
    cases hn
    exact mj_lift (fun H locs ls cells slots hl0 w => lv_iload_n hx hb hd rfl (mj_rd hl0 hv) w) k
  case lload_n n =>
    have e1 : raw = _ := of_decide_eq_true (by simpa only [mj_ok] using hok); subst e1
    have e2 : len = 1 := Nat.eq_of_beq_eq_true hl; subst e2
    unfold mj_nx at hn
    dsimp only at hn
    split at hn
    case h_2 => cases hn
    rename_i x hv
    cases hn
    exact mj_lift (fun H locs ls cells slots hl0 w => lv_lload_n hx hb hd rfl (mj_rd hl0 hv) w) k
  case aload_n n =>
    have e1 : raw = _ := of_decide_eq_true (by simpa only [mj_ok] using hok); subst e1
    have e2 : len = 1 := Nat.eq_of_beq_eq_true hl; subst e2
    unfold mj_nx at hn
    dsimp only at hn
    split at hn
    case h_2 => cases hn
    rename_i x hv
    cases hn
    exact mj_lift (fun H locs ls cells slots hl0 w => lv_aload_n hx hb hd rfl (mj_rd hl0 hv) w) k
  case iload n =>
    have e1 : raw = _ := of_decide_eq_true (by simpa only [mj_ok] using hok); subst e1
    have e2 : len = 2 := Nat.eq_of_beq_eq_true hl; subst e2
    unfold mj_nx at hn
    dsimp only at hn
    split at hn
    case h_2 => cases hn
    rename_i x hv
    cases hn
    exact mj_lift (fun H locs ls cells slots hl0 w => lv_iload hx hb hd (mj_rd hl0 hv) w) k
  case lload n =>
    have e1 : raw = _ := of_decide_eq_true (by simpa only [mj_ok] using hok); subst e1
    have e2 : len = 2 := Nat.eq_of_beq_eq_true hl; subst e2
    unfold mj_nx at hn
    dsimp only at hn
    split at hn
    case h_2 => cases hn
    rename_i x hv
    cases hn
    exact mj_lift (fun H locs ls cells slots hl0 w => lv_lload hx hb hd (mj_rd hl0 hv) w) k
  case aload n =>
    have e1 : raw = _ := of_decide_eq_true (by simpa only [mj_ok] using hok); subst e1
    have e2 : len = 2 := Nat.eq_of_beq_eq_true hl; subst e2
    unfold mj_nx at hn
    dsimp only at hn
    split at hn
    case h_2 => cases hn
    rename_i x hv
    cases hn
    exact mj_lift (fun H locs ls cells slots hl0 w => lv_aload hx hb hd (mj_rd hl0 hv) w) k
  case istore_n n =>
    simp only [mj_ok, Bool.and_eq_true, decide_eq_true_eq] at hok
    obtain ⟨e1, hlt⟩ := hok; subst e1
    have e2 : len = 1 := Nat.eq_of_beq_eq_true hl; subst e2
    unfold mj_nx at hn
    dsimp only at hn
    split at hn
    case h_2 => cases hn
    cases hn
    exact mj_liftL (fun H locs ls cells slots hl0 w => lv_istore_n hx hb hd rfl hl0 hlt rfl (fun ls' hl' => w ls' (mj_st1 (v := .int _) hl'))) k
  case istore n =>
    simp only [mj_ok, Bool.and_eq_true, decide_eq_true_eq] at hok
    obtain ⟨e1, hlt⟩ := hok; subst e1
    have e2 : len = 2 := Nat.eq_of_beq_eq_true hl; subst e2
    unfold mj_nx at hn
    dsimp only at hn
    split at hn
    case h_2 => cases hn
    cases hn
    exact mj_liftL (fun H locs ls cells slots hl0 w => lv_istore hx hb hd hl0 hlt rfl (fun ls' hl' => w ls' (mj_st1 (v := .int _) hl'))) k
  case lstore_n n =>
    simp only [mj_ok, Bool.and_eq_true, decide_eq_true_eq] at hok
    obtain ⟨e1, hlt⟩ := hok; subst e1
    have e2 : len = 1 := Nat.eq_of_beq_eq_true hl; subst e2
    unfold mj_nx at hn
    dsimp only at hn
    split at hn
    case h_2 => cases hn
    cases hn
    exact mj_liftL (fun H locs ls cells slots hl0 w => lv_lstore_n hx hb hd rfl hl0 hlt rfl (fun ls' hl' => w ls' (mj_st2 (v := .long _) hl'))) k
  case lstore n =>
    simp only [mj_ok, Bool.and_eq_true, decide_eq_true_eq] at hok
    obtain ⟨e1, hlt⟩ := hok; subst e1
    have e2 : len = 2 := Nat.eq_of_beq_eq_true hl; subst e2
    unfold mj_nx at hn
    dsimp only at hn
    split at hn
    case h_2 => cases hn
    cases hn
    exact mj_liftL (fun H locs ls cells slots hl0 w => lv_lstore hx hb hd hl0 hlt rfl (fun ls' hl' => w ls' (mj_st2 (v := .long _) hl'))) k
  case astore_n n =>
    simp only [mj_ok, Bool.and_eq_true, decide_eq_true_eq] at hok
    obtain ⟨e1, hlt⟩ := hok; subst e1
    have e2 : len = 1 := Nat.eq_of_beq_eq_true hl; subst e2
    unfold mj_nx at hn
    dsimp only at hn
    split at hn
    case h_2 => cases hn
    cases hn
    exact mj_liftL (fun H locs ls cells slots hl0 w => lv_astore_n hx hb hd rfl hl0 hlt rfl (fun ls' hl' => w ls' (mj_st1 (v := .ref _) hl'))) k
  case astore n =>
    simp only [mj_ok, Bool.and_eq_true, decide_eq_true_eq] at hok
    obtain ⟨e1, hlt⟩ := hok; subst e1
    have e2 : len = 2 := Nat.eq_of_beq_eq_true hl; subst e2
    unfold mj_nx at hn
    dsimp only at hn
    split at hn
    case h_2 => cases hn
    cases hn
    exact mj_liftL (fun H locs ls cells slots hl0 w => lv_astore hx hb hd hl0 hlt rfl (fun ls' hl' => w ls' (mj_st1 (v := .ref _) hl'))) k
  case iinc n z =>
    simp only [mj_ok, Bool.and_eq_true, decide_eq_true_eq] at hok
    obtain ⟨e1, hlt⟩ := hok; subst e1
    have e2 : len = 3 := Nat.eq_of_beq_eq_true hl; subst e2
    unfold mj_nx at hn
    dsimp only at hn
    split at hn
    case h_2 => cases hn
    rename_i x hv
    cases hn
    obtain ⟨j, hj⟩ := mj_iinc_at (D := D) hv
    exact mj_liftL (fun H locs ls cells slots hl0 w => lv_iinc hx hb hd hl0 hj rfl hlt rfl (fun ls' hl' => w ls' (mj_st1 (v := .int _) hl'))) k
  case iadd =>
    have e1 : raw = _ := of_decide_eq_true (by simpa only [mj_ok] using hok); subst e1
    have e2 : len = 1 := Nat.eq_of_beq_eq_true hl; subst e2
    unfold mj_nx at hn
    dsimp only at hn
    split at hn
    case h_2 => cases hn
    cases hn
    exact mj_lift (fun H locs ls cells slots _ w => lv_iadd hx hb hd w) k
  case isub =>
    have e1 : raw = _ := of_decide_eq_true (by simpa only [mj_ok] using hok); subst e1
    have e2 : len = 1 := Nat.eq_of_beq_eq_true hl; subst e2
    unfold mj_nx at hn
    dsimp only at hn
    split at hn
    case h_2 => cases hn
    cases hn
    exact mj_lift (fun H locs ls cells slots _ w => lv_isub hx hb hd w) k
  case imul =>
    have e1 : raw = _ := of_decide_eq_true (by simpa only [mj_ok] using hok); subst e1
    have e2 : len = 1 := Nat.eq_of_beq_eq_true hl; subst e2
    unfold mj_nx at hn
    dsimp only at hn
    split at hn
    case h_2 => cases hn
    cases hn
    exact mj_lift (fun H locs ls cells slots _ w => lv_imul hx hb hd w) k
  case iand =>
    have e1 : raw = _ := of_decide_eq_true (by simpa only [mj_ok] using hok); subst e1
    have e2 : len = 1 := Nat.eq_of_beq_eq_true hl; subst e2
    unfold mj_nx at hn
    dsimp only at hn
    split at hn
    case h_2 => cases hn
    cases hn
    exact mj_lift (fun H locs ls cells slots _ w => lv_iand hx hb hd w) k
  case ior =>
    have e1 : raw = _ := of_decide_eq_true (by simpa only [mj_ok] using hok); subst e1
    have e2 : len = 1 := Nat.eq_of_beq_eq_true hl; subst e2
    unfold mj_nx at hn
    dsimp only at hn
    split at hn
    case h_2 => cases hn
    cases hn
    exact mj_lift (fun H locs ls cells slots _ w => lv_ior hx hb hd w) k
  case ixor =>
    have e1 : raw = _ := of_decide_eq_true (by simpa only [mj_ok] using hok); subst e1
    have e2 : len = 1 := Nat.eq_of_beq_eq_true hl; subst e2
    unfold mj_nx at hn
    dsimp only at hn
    split at hn
    case h_2 => cases hn
    cases hn
    exact mj_lift (fun H locs ls cells slots _ w => lv_ixor hx hb hd w) k
  case ishl =>
    have e1 : raw = _ := of_decide_eq_true (by simpa only [mj_ok] using hok); subst e1
    have e2 : len = 1 := Nat.eq_of_beq_eq_true hl; subst e2
    unfold mj_nx at hn
    dsimp only at hn
    split at hn
    case h_2 => cases hn
    cases hn
    exact mj_lift (fun H locs ls cells slots _ w => lv_ishl hx hb hd w) k
  case ishr =>
    have e1 : raw = _ := of_decide_eq_true (by simpa only [mj_ok] using hok); subst e1
    have e2 : len = 1 := Nat.eq_of_beq_eq_true hl; subst e2
    unfold mj_nx at hn
    dsimp only at hn
    split at hn
    case h_2 => cases hn
    cases hn
    exact mj_lift (fun H locs ls cells slots _ w => lv_ishr hx hb hd w) k
  case ladd =>
    have e1 : raw = _ := of_decide_eq_true (by simpa only [mj_ok] using hok); subst e1
    have e2 : len = 1 := Nat.eq_of_beq_eq_true hl; subst e2
    unfold mj_nx at hn
    dsimp only at hn
    split at hn
    case h_2 => cases hn
    cases hn
    exact mj_lift (fun H locs ls cells slots _ w => lv_ladd hx hb hd w) k
  case lmul =>
    have e1 : raw = _ := of_decide_eq_true (by simpa only [mj_ok] using hok); subst e1
    have e2 : len = 1 := Nat.eq_of_beq_eq_true hl; subst e2
    unfold mj_nx at hn
    dsimp only at hn
    split at hn
    case h_2 => cases hn
    cases hn
    exact mj_lift (fun H locs ls cells slots _ w => lv_lmul hx hb hd w) k
  case iushr =>
    have e1 : raw = _ := of_decide_eq_true (by simpa only [mj_ok] using hok); subst e1
    have e2 : len = 1 := Nat.eq_of_beq_eq_true hl; subst e2
    unfold mj_nx at hn
    dsimp only at hn
    split at hn
    case h_2 => cases hn
    cases hn
    exact mj_lift (fun H locs ls cells slots _ w => lv_iushr hx hb hd rfl w) k
  case lcmp =>
    have e1 : raw = _ := of_decide_eq_true (by simpa only [mj_ok] using hok); subst e1
    have e2 : len = 1 := Nat.eq_of_beq_eq_true hl; subst e2
    unfold mj_nx at hn
    dsimp only at hn
    split at hn
    case h_2 => cases hn
    cases hn
    exact mj_lift (fun H locs ls cells slots _ w => W.lcmp hx hb hd w) k
  case i2l =>
    have e1 : raw = _ := of_decide_eq_true (by simpa only [mj_ok] using hok); subst e1
    have e2 : len = 1 := Nat.eq_of_beq_eq_true hl; subst e2
    unfold mj_nx at hn
    dsimp only at hn
    split at hn
    case h_2 => cases hn
    cases hn
    exact mj_lift (fun H locs ls cells slots _ w => lv_i2l hx hb hd rfl w) k
  case l2i =>
    have e1 : raw = _ := of_decide_eq_true (by simpa only [mj_ok] using hok); subst e1
    have e2 : len = 1 := Nat.eq_of_beq_eq_true hl; subst e2
    unfold mj_nx at hn
    dsimp only at hn
    split at hn
    case h_2 => cases hn
    cases hn
    exact mj_lift (fun H locs ls cells slots _ w => lv_l2i hx hb hd rfl w) k
  case i2b =>
    have e1 : raw = _ := of_decide_eq_true (by simpa only [mj_ok] using hok); subst e1
    have e2 : len = 1 := Nat.eq_of_beq_eq_true hl; subst e2
    unfold mj_nx at hn
    dsimp only at hn
    split at hn
    case h_2 => cases hn
    cases hn
    exact mj_lift (fun H locs ls cells slots _ w => lv_i2b hx hb hd rfl w) k
  case idiv =>
    have e1 : raw = _ := of_decide_eq_true (by simpa only [mj_ok] using hok); subst e1
    have e2 : len = 1 := Nat.eq_of_beq_eq_true hl; subst e2
    unfold mj_nx at hn
    dsimp only at hn
    split at hn
    case h_2 => cases hn
    split at hn
    case isTrue => cases hn
    rename_i hne
    cases hn
    exact mj_lift (fun H locs ls cells slots _ w => lv_idiv hx hb hd hne w) k
  case irem =>
    have e1 : raw = _ := of_decide_eq_true (by simpa only [mj_ok] using hok); subst e1
    have e2 : len = 1 := Nat.eq_of_beq_eq_true hl; subst e2
    unfold mj_nx at hn
    dsimp only at hn
    split at hn
    case h_2 => cases hn
    split at hn
    case isTrue => cases hn
    rename_i hne
    cases hn
    exact mj_lift (fun H locs ls cells slots _ w => lv_irem hx hb hd hne w) k
  case ldiv =>
    have e1 : raw = _ := of_decide_eq_true (by simpa only [mj_ok] using hok); subst e1
    have e2 : len = 1 := Nat.eq_of_beq_eq_true hl; subst e2
    unfold mj_nx at hn
    dsimp only at hn
    split at hn
    case h_2 => cases hn
    split at hn
    case isTrue => cases hn
    rename_i hne
    cases hn
    exact mj_lift (fun H locs ls cells slots _ w => lv_ldiv hx hb hd hne w) k
  case lrem =>
    have e1 : raw = _ := of_decide_eq_true (by simpa only [mj_ok] using hok); subst e1
    have e2 : len = 1 := Nat.eq_of_beq_eq_true hl; subst e2
    unfold mj_nx at hn
    dsimp only at hn
    split at hn
    case h_2 => cases hn
    split at hn
    case isTrue => cases hn
    rename_i hne
    cases hn
    exact mj_lift (fun H locs ls cells slots _ w => lv_lrem hx hb hd hne w) k
  case dup =>
    have e1 : raw = _ := of_decide_eq_true (by simpa only [mj_ok] using hok); subst e1
    have e2 : len = 1 := Nat.eq_of_beq_eq_true hl; subst e2
    unfold mj_nx at hn
    dsimp only at hn
    split at hn
    case h_3 => cases hn
    · cases hn
      exact mj_lift (fun H locs ls cells slots _ w => lv_dup hx hb hd rfl w) k
    · cases hn
      exact mj_lift (fun H locs ls cells slots _ w => lv_dup hx hb hd rfl w) k
  case dup2 =>
    have e1 : raw = _ := of_decide_eq_true (by simpa only [mj_ok] using hok); subst e1
    have e2 : len = 1 := Nat.eq_of_beq_eq_true hl; subst e2
    unfold mj_nx at hn
    dsimp only at hn
    split at hn
    case h_3 => cases hn
    · cases hn
      exact mj_lift (fun H locs ls cells slots _ w => lv_dup2_11 hx hb hd rfl rfl w) k
    · cases hn
      exact mj_lift (fun H locs ls cells slots _ w => lv_dup2_2 hx hb hd rfl w) k
  case pop =>
    have e1 : raw = _ := of_decide_eq_true (by simpa only [mj_ok] using hok); subst e1
    have e2 : len = 1 := Nat.eq_of_beq_eq_true hl; subst e2
    unfold mj_nx at hn
    dsimp only at hn
    split at hn
    case h_3 => cases hn
    · cases hn
      exact mj_lift (fun H locs ls cells slots _ w => lv_pop hx hb hd rfl w) k
    · cases hn
      exact mj_lift (fun H locs ls cells slots _ w => lv_pop hx hb hd rfl w) k
  case ifnull off =>
    have e1 : raw = _ := of_decide_eq_true (by simpa only [mj_ok] using hok); subst e1
    have e2 : len = 3 := Nat.eq_of_beq_eq_true hl; subst e2
    have ht := mj_tgI (of_decide_eq_true ht)
    unfold mj_nx at hn
    dsimp only at hn
    split at hn
    case h_3 => cases hn
    · cases hn
      exact mj_lift (fun H locs ls cells slots _ w => lv_ifnull hx hb hd w) k
    · cases hn
      exact mj_lift (fun H locs ls cells slots _ w => lv_ifnullN hx hb hd ht w) k
  case ifnonnull off =>
    have e1 : raw = _ := of_decide_eq_true (by simpa only [mj_ok] using hok); subst e1
    have e2 : len = 3 := Nat.eq_of_beq_eq_true hl; subst e2
    have ht := mj_tgI (of_decide_eq_true ht)
    unfold mj_nx at hn
    dsimp only at hn
    split at hn
    case h_3 => cases hn
    · cases hn
      exact mj_lift (fun H locs ls cells slots _ w => lv_ifnonnull hx hb hd ht w) k
    · cases hn
      exact mj_lift (fun H locs ls cells slots _ w => lv_ifnonnullN hx hb hd w) k
  case goto off =>
    have e1 : raw = _ := of_decide_eq_true (by simpa only [mj_ok] using hok); subst e1
    have e2 : len = 3 := Nat.eq_of_beq_eq_true hl; subst e2
    have tg := mj_tgI (of_decide_eq_true ht)
    cases hn
    exact mj_lift (fun H locs ls cells slots _ w => lv_goto hx hb hd tg w) k
  case ifCond q off =>
    have e1 : raw = _ := of_decide_eq_true (by simpa only [mj_ok] using hok); subst e1
    have e2 : len = 3 := Nat.eq_of_beq_eq_true hl; subst e2
    have tg := mj_tgI (of_decide_eq_true ht)
    unfold mj_nx at hn
    dsimp only at hn
    split at hn
    case h_2 => cases hn
    cases hn
    refine mj_lift (fun H locs ls cells slots _ w => ?_) k
    cases q
    · exact lv_if_eq hx hb hd tg (fun z => by simpa [mj_cmp, z] using w) (fun z => by simpa [mj_cmp, z] using w)
    · exact lv_if_ne hx hb hd tg (fun z => by simpa [mj_cmp, z] using w) (fun z => by simpa [mj_cmp, z] using w)
    · exact lv_if_lt hx hb hd tg (fun z => by simpa [mj_cmp, z] using w) (fun z => by simpa [mj_cmp, z] using w)
    · exact lv_if_ge hx hb hd tg (fun z => by simpa [mj_cmp, z] using w) (fun z => by simpa [mj_cmp, z] using w)
    · exact lv_if_gt hx hb hd tg (fun z => by simpa [mj_cmp, z] using w) (fun z => by simpa [mj_cmp, z] using w)
    · exact lv_if_le hx hb hd tg (fun z => by simpa [mj_cmp, z] using w) (fun z => by simpa [mj_cmp, z] using w)
  case if_icmp q off =>
    have e1 : raw = _ := of_decide_eq_true (by simpa only [mj_ok] using hok); subst e1
    have e2 : len = 3 := Nat.eq_of_beq_eq_true hl; subst e2
    have tg := mj_tgI (of_decide_eq_true ht)
    unfold mj_nx at hn
    dsimp only at hn
    split at hn
    case h_2 => cases hn
    cases hn
    refine mj_lift (fun H locs ls cells slots _ w => ?_) k
    cases q
    · exact lv_icmp_eq hx hb hd tg (fun z => by simpa [mj_cmp, z] using w) (fun z => by simpa [mj_cmp, z] using w)
    · exact lv_icmp_ne hx hb hd tg (fun z => by simpa [mj_cmp, z] using w) (fun z => by simpa [mj_cmp, z] using w)
    · exact lv_icmp_lt hx hb hd tg (fun z => by simpa [mj_cmp, z] using w) (fun z => by simpa [mj_cmp, z] using w)
    · exact lv_icmp_ge hx hb hd tg (fun z => by simpa [mj_cmp, z] using w) (fun z => by simpa [mj_cmp, z] using w)
    · exact lv_icmp_gt hx hb hd tg (fun z => by simpa [mj_cmp, z] using w) (fun z => by simpa [mj_cmp, z] using w)
    · exact lv_icmp_le hx hb hd tg (fun z => by simpa [mj_cmp, z] using w) (fun z => by simpa [mj_cmp, z] using w)
  case tableswitch d lo hi offs =>
    have e1 : raw = _ := of_decide_eq_true (by simpa only [mj_ok] using hok); subst e1
    simp only [mj_tgok, Bool.and_eq_true] at ht
    obtain ⟨t1, t2⟩ := ht
    unfold mj_nx at hn
    dsimp only at hn
    split at hn
    case h_2 => cases hn
    split at hn
    case isTrue z =>
      cases hn
      exact mj_lift (fun H locs ls cells slots _ w => lv_tableOut hx hb hd z (mj_tgI (of_decide_eq_true t1)) w) k
    case isFalse z =>
      split at hn
      case h_2 => cases hn
      rename_i off ho
      cases hn
      have hm : off ∈ offs.toList := by
        have := Array.mem_of_getElem? ho
        simpa using this
      exact mj_lift (fun H locs ls cells slots _ w => lv_tableIn hx hb hd (fun q => z (Or.inl q)) (fun q => z (Or.inr q)) ho (mj_tgI (of_decide_eq_true (List.all_eq_true.mp t2 off hm))) w) k
  all_goals first | (exact hi.elim) | (simp [mj_nx] at hn)
end MJS
