/-! what is made -/
theorem nth_ap {α : Type} {l t : List α} {j : Nat} : mj_nth (l ++ t) (l.length + j) = mj_nth t j := by
  rw [mj_nth_eq, mj_nth_eq, List.getElem?_append_right (by omega), show l.length + j - l.length = j by omega]
theorem set_ap {α : Type} {l t : List α} {j : Nat} {x : α} : (l ++ t).set (l.length + j) x = l ++ t.set j x := by
  rw [List.set_append_right _ _ (by omega), show l.length + j - l.length = j by omega]
section Al
variable {sta : mj_S} {Cl : mj_R} {M : mj_M} {T : Nat → mj_L → List Value → mj_H → Prop} {pc q len wp : Nat} {lv : mj_L} {r st : List Value} {raw : Instr} {l t : List va_E} {z : Nat} {h h' : mj_H}
theorem a_new {ci : Nat} (he : mj_ent (mj_cd M) pc = some (q, .new ci, len, raw, wp)) (k : mj_go sta Cl M T (q + len) lv (.ref (l.length + t.length) :: st) (l ++ (t ++ [.inr (ci, mj_new ci)]), z + mj_sz ci)) : mj_go sta Cl M T pc lv st (l ++ t, z) := by
  refine g_nx he ?_ k
  simp only [mj_nx, List.length_append, List.append_assoc]
theorem a_int {n : Nat} (hn : n ≤ 65536) (he : mj_ent (mj_cd M) pc = some (q, .newarray .int, len, raw, wp)) (k : mj_go sta Cl M T (q + len) lv (.ref (l.length + t.length) :: st) (l ++ (t ++ [.inl (0, n, .inl (fun _ => 0))]), z + n)) : mj_go sta Cl M T pc lv (.int (nI n) :: st) (l ++ t, z) := by
  refine g_nx he ?_ k
  have h1 : ¬ (nI n < 0 ∨ 65536 < (nI n).toNatClampNeg) := by
    rw [nI_clamp (by omega)]
    rintro (h | h)
    · exact nI_pos (by omega) h
    · omega
  simp only [mj_nx]
  rw [if_neg h1, nI_clamp (by omega)]
  simp only [List.length_append, List.append_assoc]
theorem a_long {n : Nat} (hn : n ≤ 65536) (he : mj_ent (mj_cd M) pc = some (q, .newarray .long, len, raw, wp)) (k : mj_go sta Cl M T (q + len) lv (.ref (l.length + t.length) :: st) (l ++ (t ++ [.inl (1, n, .inr (.inl (fun _ => 0)))]), z + n)) : mj_go sta Cl M T pc lv (.int (nI n) :: st) (l ++ t, z) := by
  refine g_nx he ?_ k
  have h1 : ¬ (nI n < 0 ∨ 65536 < (nI n).toNatClampNeg) := by
    rw [nI_clamp (by omega)]
    rintro (h | h)
    · exact nI_pos (by omega) h
    · omega
  simp only [mj_nx]
  rw [if_neg h1, nI_clamp (by omega)]
  simp only [List.length_append, List.append_assoc]
theorem a_byte {n : Nat} (hn : n ≤ 65536) (he : mj_ent (mj_cd M) pc = some (q, .newarray .byte, len, raw, wp)) (k : mj_go sta Cl M T (q + len) lv (.ref (l.length + t.length) :: st) (l ++ (t ++ [.inl (2, n, .inl (fun _ => 0))]), z + n)) : mj_go sta Cl M T pc lv (.int (nI n) :: st) (l ++ t, z) := by
  refine g_nx he ?_ k
  have h1 : ¬ (nI n < 0 ∨ 65536 < (nI n).toNatClampNeg) := by
    rw [nI_clamp (by omega)]
    rintro (h | h)
    · exact nI_pos (by omega) h
    · omega
  simp only [mj_nx]
  rw [if_neg h1, nI_clamp (by omega)]
  simp only [List.length_append, List.append_assoc]
theorem a_refs {n : Nat} (hn : n ≤ 65536) (he : mj_ent (mj_cd M) pc = some (q, .anewarray 3, len, raw, wp)) (k : mj_go sta Cl M T (q + len) lv (.ref (l.length + t.length) :: st) (l ++ (t ++ [.inl (3, n, .inr (.inr (.inr (.inr (fun _ => none)))))]), z + n)) : mj_go sta Cl M T pc lv (.int (nI n) :: st) (l ++ t, z) := by
  refine g_nx he ?_ k
  have h1 : ¬ (nI n < 0 ∨ 65536 < (nI n).toNatClampNeg) := by
    rw [nI_clamp (by omega)]
    rintro (h | h)
    · exact nI_pos (by omega) h
    · omega
  simp only [mj_nx]
  rw [if_neg h1, nI_clamp (by omega)]
  simp only [List.length_append, List.append_assoc]
theorem a_put {c j ci a : Nat} {fs : List Value} {v : Value} (ha : a = l.length + j) (he : mj_ent (mj_cd M) pc = some (q, .putfield c, len, raw, wp)) (hj : mj_nth t j = some (.inr (ci, fs))) (hci : Nat.beq ci (c / 64) = true) (hf : Nat.ble (c % 64 + 1) fs.length = true) (hn1 : narrow (mj_ty c) v = v) (hn2 : fits (mj_ty c) v = true) (k : mj_go sta Cl M T (q + len) lv r (l ++ t.set j (.inr (ci, fs.set (c % 64) v)), z)) : mj_go sta Cl M T pc lv (v :: .ref a :: r) (l ++ t, z) := by
  subst ha
  refine g_nx he ?_ k
  simp only [mj_nx, nth_ap, hj, hci, cond_true]
  rw [if_pos ⟨Nat.le_of_ble_eq_true hf, hn1, hn2⟩, set_ap]
theorem a_get {c j ci a : Nat} {fs : List Value} {v : Value} (ha : a = l.length + j) (he : mj_ent (mj_cd M) pc = some (q, .getfield c, len, raw, wp)) (hj : mj_nth t j = some (.inr (ci, fs))) (hci : Nat.beq ci (c / 64) = true) (hf : mj_nth fs (c % 64) = some v) (k : mj_go sta Cl M T (q + len) lv (v :: r) (l ++ t, z)) : mj_go sta Cl M T pc lv (.ref a :: r) (l ++ t, z) := by
  subst ha
  refine g_nx he ?_ k
  simp only [mj_nx, nth_ap, hj, hci, cond_true, hf]
theorem a_ast {j i a b n x : Nat} {f : Nat → Option Nat} {fs : List Value} (ha : a = l.length + j) (hb : b = l.length + i) (he : mj_ent (mj_cd M) pc = some (q, .aastore, len, raw, wp)) (hj : mj_nth t j = some (.inl (3, n, .inr (.inr (.inr (.inr f)))))) (hi : mj_nth t i = some (.inr (5, fs))) (hx : x < n) (hn : n < 2 ^ 31) (k : mj_go sta Cl M T (q + len) lv r (l ++ t.set j (.inl (3, n, .inr (.inr (.inr (.inr (va_up f x (some b))))))), z)) : mj_go sta Cl M T pc lv (.ref b :: .int (nI x) :: .ref a :: r) (l ++ t, z) := by
  subst ha; subst hb
  refine g_nx he ?_ k
  have h1 : ¬ (nI x < 0 ∨ n ≤ (nI x).toNatClampNeg) := vp_in_nI hx hn
  simp only [mj_nx, nth_ap, hj, hi]
  rw [if_neg h1, nI_clamp (by omega), set_ap]
theorem a_vret (he : mj_ent (mj_cd M) pc = some (q, .return_, len, raw, wp)) (hrt : mj_rt M = none) (hh : h = h') : mj_go sta Cl M (mj_ret M none h') pc lv [] h := by
  subst hh
  exact mj_go.here ⟨rfl, _, he, rfl, rfl, hrt⟩
end Al
section Al2
variable {sta : mj_S} {d : Nat} {M : mj_M} {T : Nat → mj_L → List Value → mj_H → Prop} {pc q len wp : Nat} {lv : mj_L} {r st : List Value} {raw : Instr} {h h' : mj_H}
theorem a_oi {a c : Nat} (he : mj_ent (mj_cd M) pc = some (q, .invokespecial c, len, raw, wp)) (hc : Nat.beq (c / 256) 0 = true) (hc2 : Nat.beq (c / 16 % 16) 1 = true) (hs : Nat.ble (r.map Value.category).sum 8 = true) (k : mj_go sta (mj_Cl sta (d + 1)) M T (q + 3) lv r h) : mj_go sta (mj_Cl sta (d + 1)) M T pc lv (.ref a :: r) h := by
  have e1 := mj_ent_pc he
  dsimp only at e1
  subst e1
  have e2 := Nat.eq_of_beq_eq_true hc2
  refine mj_go.call (v := none) (h' := h) he rfl (by show c / 16 % 16 ≤ _; rw [e2]; exact Nat.le_add_left 1 _) ?_ ?_ ?_ ?_
  · show ∃ k s, _
    exact ⟨a, [], by rw [e2]; rfl⟩
  · show ((List.drop (c / 16 % 16) (Value.ref a :: r)).map Value.category).sum ≤ 8
    rw [e2]
    exact Nat.le_of_ble_eq_true hs
  · show mj_Cl sta (d + 1) (c / 256) (List.take (c / 16 % 16) (Value.ref a :: r)).reverse h none h
    rw [e2, Nat.eq_of_beq_eq_true hc]
    exact Or.inl ⟨Or.inl ⟨rfl, a, rfl, rfl, rfl⟩, fun z => absurd z (by decide)⟩
  · show mj_go sta (mj_Cl sta (d + 1)) M T (q + 3) lv ([] ++ List.drop (c / 16 % 16) (Value.ref a :: r)) h
    rw [e2]
    exact k
theorem a_call {a c mid : Nat} (hmid : Nat.beq (c / 256) mid = true) (he : mj_ent (mj_cd M) pc = some (q, .invokespecial c, len, raw, wp)) (hc2 : Nat.beq (c / 16 % 16) 1 = true) (hs : Nat.ble (r.map Value.category).sum 8 = true) (hC : mj_Cl sta d mid [.ref a] h none h') (k : mj_go sta (mj_Cl sta d) M T (q + 3) lv r h') : mj_go sta (mj_Cl sta d) M T pc lv (.ref a :: r) h := by
  have e1 := mj_ent_pc he
  dsimp only at e1
  subst e1
  have e2 := Nat.eq_of_beq_eq_true hc2
  have e3 := Nat.eq_of_beq_eq_true hmid
  subst e3
  refine mj_go.call (v := none) (h' := h') he rfl (by show c / 16 % 16 ≤ _; rw [e2]; exact Nat.le_add_left 1 _) ?_ ?_ ?_ ?_
  · show ∃ k s, _
    exact ⟨a, [], by rw [e2]; rfl⟩
  · show ((List.drop (c / 16 % 16) (Value.ref a :: r)).map Value.category).sum ≤ 8
    rw [e2]
    exact Nat.le_of_ble_eq_true hs
  · show mj_Cl sta d (c / 256) (List.take (c / 16 % 16) (Value.ref a :: r)).reverse h none h'
    rw [e2]
    exact hC
  · show mj_go sta (mj_Cl sta d) M T (q + 3) lv ([] ++ List.drop (c / 16 % 16) (Value.ref a :: r)) h'
    rw [e2]
    exact k
end Al2
/-- a constructor: the object is the last, its rows come behind it -/
def mj_In (sta : mj_S) (d mid ci : Nat) (cs : Nat → List va_E) (s : Nat) : Prop := ∀ (l : List va_E) (z : Nat), mj_Cl sta d mid [.ref l.length] (l ++ [.inr (ci, mj_new ci)], z) none (l ++ cs l.length, z + s)
theorem mj_In.mk {sta : mj_S} {d mid ci s : Nat} {cs : Nat → List va_E} (M : mj_M) (h4 : 4 ≤ mid) (hM : mj_nth mj_ms mid = some M) (hl : Nat.ble 1 (mj_mx M) = true) (hg : ∀ (l : List va_E) (z : Nat), mj_go sta (mj_Cl sta d) M (mj_ret M none (l ++ cs l.length, z + s)) 0 (mj_e0 (mj_mx M) [.ref l.length]) [] (l ++ [.inr (ci, mj_new ci)], z)) : mj_In sta (d + 1) mid ci cs s := fun l z => Or.inr ⟨M, h4, hM, Nat.le_of_ble_eq_true hl, hg l z⟩
abbrev zI (n : Nat) : va_E := .inl (0, n, .inl (fun _ => 0))
abbrev zL (n : Nat) : va_E := .inl (1, n, .inr (.inl (fun _ => 0)))
theorem z_an : zI 6 = an (fun _ => 0) := by
  have : (fun _ => 0 : Nat → Int32) = (fun i => if i < 6 then nI 0 else 0) := by funext i; split <;> rfl
  unfold zI an
  rw [this]
theorem z_aN (n : Nat) : zI n = aN n (fun _ => 0) := by
  have : (fun _ => 0 : Nat → Int32) = (fun i => if i < n then nI 0 else 0) := by funext i; split <;> rfl
  unfold zI aN
  rw [this]
theorem z_sq : zI 6 = sq (fun _ => some 0) := by
  have : (fun _ => 0 : Nat → Int32) = (fun i => if i < 6 then snd (some 0) else 0) := by funext i; split <;> rfl
  unfold zI sq
  rw [this]
theorem z_aL (n : Nat) : zL n = aL n (fun _ => 0) := by
  have : (fun _ => 0 : Nat → Int64) = (fun i => if i < n then lN 0 else 0) := by funext i; split <;> rfl
  unfold zL aL
  rw [this]
theorem z_ab : (.inl (2, 800, .inl (fun _ => 0)) : va_E) = ab (fun _ => 0) := by
  have : (fun _ => 0 : Nat → Int32) = (fun i => if i < 800 then sb 0 else 0) := by funext i; split <;> rfl
  unfold ab
  rw [this]
