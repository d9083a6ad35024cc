/-! the reference: its object, small methods -/
abbrev mo (th tr wh : Int32) (dr rd : Option Nat) (F : Nat → Int32) (wd : Int64) (ac im lw tk st : Int32) (sh ru : Int64) (rz aw al sd : Int32) : Nat × va_E := (151, .inr (10, [.int th, .int tr, .int wh, va_rf dr, va_rf rd, .ref 152, .int (F 6), .int (F 7), .int (F 8), .int (F 9), .int (F 10), .int (F 11), .int (F 12), .int (F 13), .long wd, .ref 153, .ref 154, .ref 155, .int ac, .int im, .ref 156, .ref 157, .ref 158, .ref 159, .int lw, .int tk, .int st, .ref 160, .ref 161, .ref 162, .ref 163, .long sh, .long ru, .ref 164, .int rz, .int aw, .int al, .int sd]))
abbrev mdh (q : Nat) (D : Nat → Nat) (hi er se : Int32) : Nat × va_E := (q, .inr (9, [.int (nI (D 0)), .int (nI (D 1)), .int (nI (D 2)), .int (nI (D 8)), .int (nI (D 3)), .int hi, .int er, .int se, .ref (q + 1), .ref (q + 2), .ref (q + 3), .ref (q + 4), .ref (q + 5), .ref (q + 6), .ref (q + 7)]))
abbrev aI (n : Nat) (f : Nat → Int32) : va_E := .inl (0, n, .inl f)
abbrev aL (n : Nat) (f : Nat → Nat) : va_E := .inl (1, n, .inr (.inl (fun i => if i < n then lN (f i) else 0)))
section RL
variable {sta : mj_S} {Cl : mj_R} {M : mj_M} {T : Nat → mj_L → List Value → mj_H → Prop} {pc q len wp a k L : Nat} {lv : mj_L} {st r : List Value} {h0 h : mj_H} {w : mj_W} {raw : Instr} {f : Nat → Nat} {g : Nat → Int32}
theorem g_lL (hv : mj_Vw h0 w h) (j : Nat) (hk : k < L) (hL : L < 2 ^ 31) (he : mj_ent (mj_cd M) pc = some (q, .laload, len, raw, wp)) (hj : mj_nth w j = some (a, aL L f)) (kk : mj_go sta Cl M T (q + len) lv (.long (lN (f k)) :: r) h) : mj_go sta Cl M T pc lv (.int (nI k) :: .ref a :: r) h := by
  refine g_lald hv j he hj (vp_in_nI hk hL) ?_
  rw [nI_clamp (by omega), if_pos hk]
  exact kk
theorem g_lLs {y : Nat} (hv : mj_Vw h0 w h) (j : Nat) (hk : k < L) (hL : L < 2 ^ 31) (he : mj_ent (mj_cd M) pc = some (q, .lastore, len, raw, wp)) (hj : mj_nth w j = some (a, aL L f)) (kk : ∀ h, mj_Vw h0 (w.set j (a, aL L (va_up f k y))) h → mj_go sta Cl M T (q + len) lv r h) : mj_go sta Cl M T pc lv (.long (lN y) :: .int (nI k) :: .ref a :: r) h := by
  refine g_last hv j he hj (vp_in_nI hk hL) (fun h hv => ?_)
  have e : vp_updL (fun i => if i < L then lN (f i) else (0 : Int64)) k (lN y) = (fun i => if i < L then lN (va_up f k y i) else 0) := by
    funext i
    unfold vp_updL va_up
    by_cases h : i = k
    · subst h; simp [hk]
    · simp [h]
  rw [nI_clamp (by omega), e] at hv
  exact kk h hv
theorem g_vI (hv : mj_Vw h0 w h) (j : Nat) (hk : k < L) (hL : L < 2 ^ 31) (he : mj_ent (mj_cd M) pc = some (q, .iaload, len, raw, wp)) (hj : mj_nth w j = some (a, aI L g)) (kk : mj_go sta Cl M T (q + len) lv (.int (g k) :: r) h) : mj_go sta Cl M T pc lv (.int (nI k) :: .ref a :: r) h := by
  refine g_iald hv j he hj (vp_in_nI hk hL) ?_
  rw [nI_clamp (by omega)]
  exact kk
theorem g_vIs {y : Int32} (hv : mj_Vw h0 w h) (j : Nat) (hk : k < L) (hL : L < 2 ^ 31) (he : mj_ent (mj_cd M) pc = some (q, .iastore, len, raw, wp)) (hj : mj_nth w j = some (a, aI L g)) (kk : ∀ h, mj_Vw h0 (w.set j (a, aI L (upd g k y))) h → mj_go sta Cl M T (q + len) lv r h) : mj_go sta Cl M T pc lv (.int y :: .int (nI k) :: .ref a :: r) h := by
  refine g_iast hv j he hj (vp_in_nI hk hL) (fun h hv => ?_)
  rw [nI_clamp (by omega)] at hv
  exact kk h hv
theorem g_lrem {x y : Int64} (hy : ¬ y = 0) (he : mj_ent (mj_cd M) pc = some (q, .lrem, len, raw, wp)) (k : mj_go sta Cl M T (q + len) lv (.long (x - x / y * y) :: r) h) : mj_go sta Cl M T pc lv (.long y :: .long x :: r) h := by
  refine g_nx he ?_ k
  show (if y = 0 then none else some _) = _
  rw [if_neg hy]
theorem g_ldiv {x y : Int64} (hy : ¬ y = 0) (he : mj_ent (mj_cd M) pc = some (q, .ldiv, len, raw, wp)) (k : mj_go sta Cl M T (q + len) lv (.long (x / y) :: r) h) : mj_go sta Cl M T pc lv (.long y :: .long x :: r) h := by
  refine g_nx he ?_ k
  show (if y = 0 then none else some _) = _
  rw [if_neg hy]
theorem g_idiv {x y : Int32} (hy : ¬ y = 0) (he : mj_ent (mj_cd M) pc = some (q, .idiv, len, raw, wp)) (k : mj_go sta Cl M T (q + len) lv (.int (x / y) :: r) h) : mj_go sta Cl M T pc lv (.int y :: .int x :: r) h := by
  refine g_nx he ?_ k
  show (if y = 0 then none else some _) = _
  rw [if_neg hy]
end RL
theorem s_Min (sta : mj_S) (d : Nat) (x y z : Int32) : mj_Sx sta (d + 1) 166 [.int x, .int y, .int z] [] (fun v w => v = some (.int (bl (decide (y ≤ x) && decide (x ≤ z)))) ∧ w = []) := by
  refine mj_Sx.mk m_X10_in (by decide) n_X10_in rfl (fun h0 hv => ?_)
  generalize hT : mj_rx m_X10_in h0 _ _ = T
  repeat (first | refine g_px rfl rfl rfl ?_)
  refine g_ic rfl (fun cq => ?_) (fun cq => ?_)
  · have cq : x < y := cq
    repeat (first | refine g_px rfl rfl rfl ?_)
    subst hT
    refine g_iret hv rfl rfl rfl rfl ?_
    exact ⟨by rw [decide_eq_false (Int32.not_le.mpr cq)]; rfl, rfl⟩
  · have cq : ¬ x < y := cq
    repeat (first | refine g_px rfl rfl rfl ?_)
    refine g_ic rfl (fun cq2 => ?_) (fun cq2 => ?_)
    · have cq2 : z < x := cq2
      repeat (first | refine g_px rfl rfl rfl ?_)
      subst hT
      refine g_iret hv rfl rfl rfl rfl ?_
      exact ⟨by rw [decide_eq_false (p := x ≤ z) (Int32.not_le.mpr cq2), Bool.and_false]; rfl, rfl⟩
    · have cq2 : ¬ z < x := cq2
      repeat (first | refine g_px rfl rfl rfl ?_)
      subst hT
      refine g_iret hv rfl rfl rfl rfl ?_
      exact ⟨by rw [decide_eq_true (Int32.not_lt.mp cq), decide_eq_true (Int32.not_lt.mp cq2)]; rfl, rfl⟩
theorem s_Mbit (sta : mj_S) (d b k : Nat) (hb : b < 2 ^ 31) (hk : k < 32) : mj_Sx sta (d + 1) 167 [(.int (nI b)), (.int (nI k))] [] (fun v w => v = some (.int (bl (b.testBit k))) ∧ w = []) := by
  refine mj_Sx.mk m_X10_bit (by decide) n_X10_bit rfl (fun h0 hv => ?_)
  generalize hT : mj_rx m_X10_bit h0 _ _ = T
  repeat (first | refine g_px rfl rfl rfl ?_)
  rw [k_bit hb hk]
  refine g_ic rfl (fun cq => ?_) (fun cq => ?_)
  · simp (disch := omega) only [mj_cp, k_6, k_7, k_8, k_9, k_10, k_12, k_15, k_16, k_18, k_20, k_24, k_25, k_26, k_27, k_28, k_32, k_36, k_48, k_57, k_59, k_63, k_74, k_75, k_84, k_90, k_97, k_99, k_100, k_122, k_200, k_255, k_420, k_448, k_720, k_800, k_999, k_bit, k_shl, fa_and, nI_add, bl_1, bl_0, bl_n1, bl_n0, bl_i1, nI_lt0, nI_0le, nI_eq0, nI_eqT, nI_leI, nI_ltI, nI_eq, Nat.not_le, Nat.not_lt, Bool.not_eq_true, Bool.not_eq_false, not_true_eq_false, not_false_eq_true, Decidable.not_not] at cq
    repeat (first | refine g_px rfl rfl rfl ?_)
    subst hT
    refine g_iret hv rfl rfl rfl rfl ?_
    exact ⟨by rw [cq]; rfl, rfl⟩
  · simp (disch := omega) only [mj_cp, k_6, k_7, k_8, k_9, k_10, k_12, k_15, k_16, k_18, k_20, k_24, k_25, k_26, k_27, k_28, k_32, k_36, k_48, k_57, k_59, k_63, k_74, k_75, k_84, k_90, k_97, k_99, k_100, k_122, k_200, k_255, k_420, k_448, k_720, k_800, k_999, k_bit, k_shl, fa_and, nI_add, bl_1, bl_0, bl_n1, bl_n0, bl_i1, nI_lt0, nI_0le, nI_eq0, nI_eqT, nI_leI, nI_ltI, nI_eq, Nat.not_le, Nat.not_lt, Bool.not_eq_true, Bool.not_eq_false, not_true_eq_false, not_false_eq_true, Decidable.not_not] at cq
    repeat (first | refine g_px rfl rfl rfl ?_)
    subst hT
    refine g_iret hv rfl rfl rfl rfl ?_
    exact ⟨by rw [cq]; rfl, rfl⟩
theorem bt_low : ∀ r, r < 64 → (nI r &&& (nI r - Int32.ofInt 1)) = nI (r &&& (r - 1)) ∧ (0 < r → r &&& (r - 1) < r ∧ pop (r &&& (r - 1)) + 1 = pop r) := by decide +kernel
theorem s_Mbits (sta : mj_S) (d b : Nat) (hb : b < 64) : mj_Sx sta (d + 1) 168 [(.int (nI b))] [] (fun v w => v = some (.int (nI (pop b))) ∧ w = []) := by
  refine mj_Sx.mk m_X10_bits (by decide) n_X10_bits rfl (fun h0 hv => ?_)
  generalize hT : mj_rx m_X10_bits h0 _ _ = T
  have loop : ∀ f r k, r ≤ f → r < 64 → k + pop r = pop b → mj_go sta (mj_Cl sta d) m_X10_bits T 4 [some (.int (nI b)), some (.int (nI k)), some (.int (nI r))] [] h0 := by
    intro f
    induction f with
    | zero =>
      intro r k hr hr6 hk
      have hr : r = 0 := by omega
      subst hr
      repeat (first | refine g_px rfl rfl rfl ?_)
      refine g_if rfl (fun cq => ?_) (fun cq => absurd rfl cq)
      repeat (first | refine g_px rfl rfl rfl ?_)
      subst hT
      refine g_iret hv rfl rfl rfl rfl ?_
      exact ⟨by rw [← hk]; rfl, rfl⟩
    | succ f ih =>
      intro r k hr hr6 hk
      obtain ⟨l1, l2⟩ := bt_low r hr6
      repeat (first | refine g_px rfl rfl rfl ?_)
      refine g_if rfl (fun cq => ?_) (fun cq => ?_)
      · have cq : nI r = 0 := cq
        rw [nI_eq0 (by omega)] at cq
        subst cq
        repeat (first | refine g_px rfl rfl rfl ?_)
        subst hT
        refine g_iret hv rfl rfl rfl rfl ?_
        exact ⟨by rw [← hk]; rfl, rfl⟩
      · have cq : ¬ nI r = 0 := cq
        rw [nI_eq0 (by omega)] at cq
        obtain ⟨l3, l4⟩ := l2 (by omega)
        refine g_run 6 rfl ?_
        rw [l1]
        refine g_run 2 rfl ?_
        have hnx := ih (r &&& (r - 1)) (k + 1) (by omega) (by omega) (by omega)
        rw [nI_succ] at hnx
        exact hnx
  refine g_run 4 rfl ?_
  exact loop b b 0 (Nat.le_refl _) hb (by omega)
theorem s_Mcommon (sta : mj_S) (d a b : Nat) (ha : a < 2 ^ 63) (hb : b < 2 ^ 63) : mj_Sx sta (d + 1) 169 [(.long (lN a)), (.long (lN b))] [] (fun v w => v = some (.long (lN (Nat.gcd a b))) ∧ w = []) := by
  refine mj_Sx.mk m_X10_common (by decide) n_X10_common rfl (fun h0 hv => ?_)
  generalize hT : mj_rx m_X10_common h0 _ _ = T
  have loop : ∀ f u v o o2, v ≤ f → Nat.gcd u v = Nat.gcd a b → u < 2 ^ 63 → v < 2 ^ 63 → mj_go sta (mj_Cl sta d) m_X10_common T 6 [some (.long (lN a)), none, some (.long (lN b)), none, some (.long (lN u)), none, some (.long (lN v)), none, o, o2] [] h0 := by
    intro f
    induction f with
    | zero =>
      intro u v o o2 hf hg hu hv'
      have hf : v = 0 := Nat.le_zero.mp hf
      subst hf
      repeat (first | refine g_px rfl rfl rfl ?_)
      refine g_if rfl (fun cq => ?_) (fun cq => absurd rfl cq)
      repeat (first | refine g_px rfl rfl rfl ?_)
      subst hT
      refine g_lret hv rfl rfl rfl ⟨?_, rfl⟩
      rw [← hg, Nat.gcd_zero_right]
    | succ f ih =>
      intro u v o o2 hf hg hu hv'
      repeat (first | refine g_px rfl rfl rfl ?_)
      refine g_if rfl (fun cq => ?_) (fun cq => ?_)
      · have cq : lg_cmp (lN v) (lN 0) = 0 := cq
        rw [lg_cmp_eq, pk_lEQ hv' (by decide)] at cq
        subst cq
        repeat (first | refine g_px rfl rfl rfl ?_)
        subst hT
        refine g_lret hv rfl rfl rfl ⟨?_, rfl⟩
        rw [← hg, Nat.gcd_zero_right]
      · have cq : ¬ lg_cmp (lN v) (lN 0) = 0 := cq
        rw [lg_cmp_eq, pk_lEQ hv' (by decide)] at cq
        refine g_run 2 rfl ?_
        refine g_lrem (fun z => cq ((pk_lEQ hv' (by decide)).mp z)) rfl ?_
        rw [pk_lRem hu (Nat.pos_of_ne_zero cq) hv']
        refine g_run 6 rfl ?_
        have hlt := Nat.mod_lt u (Nat.pos_of_ne_zero cq)
        exact ih v (u % v) (some (.long (lN (u % v)))) none (by omega) (by rw [← hg, Nat.gcd_comm u v, Nat.gcd_rec v u, Nat.gcd_comm]) hv' (by omega)
  refine g_run 4 rfl ?_
  exact loop b a b none none (Nat.le_refl _) rfl ha hb
section Mb
variable (sta : mj_S) (d : Nat) (th tr wh : Int32) (q : Nat) (dr rd : Option Nat) (F : Nat → Int32) (wd : Int64) (ac im lw tk st : Int32) (sh ru : Int64) (rz aw al sd : Int32)
theorem s_Mrefused (y : Int32) : mj_Sx sta (d + 1) 161 [.ref 151, .int y] [(mo th tr wh dr rd F wd ac im lw tk st sh ru rz aw al sd)] (fun v w => v = some (.int (-1)) ∧ w = [(mo th y (-1) dr rd F wd ac im lw tk st sh ru rz aw al sd)]) := by
  refine mj_Sx.mk m_X10_refused (by decide) n_X10_refused rfl (fun h0 hv => ?_)
  generalize hT : mj_rx m_X10_refused h0 _ _ = T
  repeat (first | refine g_px rfl rfl rfl ?_)
  refine g_put hv 0 rfl rfl rfl rfl rfl rfl (fun h hv => ?_)
  repeat (first | refine g_px rfl rfl rfl ?_)
  refine g_put hv 0 rfl rfl rfl rfl rfl rfl (fun h hv => ?_)
  repeat (first | refine g_px rfl rfl rfl ?_)
  subst hT
  exact g_iret hv rfl rfl rfl rfl ⟨rfl, rfl⟩
theorem s_Mgood (y : Int32) : mj_Sx sta (d + 1) 164 [.ref 151, .int y] [(mo th tr wh dr rd F wd ac im lw tk st sh ru rz aw al sd)] (fun v w => v = some (.int y) ∧ w = [(mo th 0 (-1) dr rd F wd ac im lw tk st sh ru rz aw al sd)]) := by
  refine mj_Sx.mk m_X10_good (by decide) n_X10_good rfl (fun h0 hv => ?_)
  generalize hT : mj_rx m_X10_good h0 _ _ = T
  repeat (first | refine g_px rfl rfl rfl ?_)
  refine g_put hv 0 rfl rfl rfl rfl rfl rfl (fun h hv => ?_)
  repeat (first | refine g_px rfl rfl rfl ?_)
  refine g_put hv 0 rfl rfl rfl rfl rfl rfl (fun h hv => ?_)
  repeat (first | refine g_px rfl rfl rfl ?_)
  subst hT
  exact g_iret hv rfl rfl rfl rfl ⟨rfl, rfl⟩
theorem s_Mdenied (y : Int32) : mj_Sx sta (d + 2) 163 [.ref 151, .int y] [(mo th tr wh dr rd F wd ac im lw tk st sh ru rz aw al sd)] (fun v w => v = some (.int (bl false)) ∧ w = [(mo th y (-1) dr rd F wd ac im lw tk st sh ru rz aw al sd)]) := by
  refine mj_Sx.mk m_X10_denied (by decide) n_X10_denied rfl (fun h0 hv => ?_)
  generalize hT : mj_rx m_X10_denied h0 _ _ = T
  repeat (first | refine g_px rfl rfl rfl ?_)
  refine g_callV hv [0] 0 rfl rfl rfl rfl rfl rfl rfl rfl (by decide) (s_Mrefused sta d th tr wh dr rd F wd ac im lw tk st sh ru rz aw al sd y) (fun v w' h hp hk2 hv => ?_)
  obtain ⟨rfl, rfl⟩ := hp
  repeat (first | refine g_px rfl rfl rfl ?_)
  subst hT
  exact g_iret hv rfl rfl rfl rfl ⟨rfl, rfl⟩
theorem s_Mgranted : mj_Sx sta (d + 2) 165 [.ref 151] [(mo th tr wh dr rd F wd ac im lw tk st sh ru rz aw al sd)] (fun v w => v = some (.int (bl true)) ∧ w = [(mo th 0 (-1) dr rd F wd ac im lw tk st sh ru rz aw al sd)]) := by
  refine mj_Sx.mk m_X10_granted (by decide) n_X10_granted rfl (fun h0 hv => ?_)
  generalize hT : mj_rx m_X10_granted h0 _ _ = T
  repeat (first | refine g_px rfl rfl rfl ?_)
  refine g_callV hv [0] 0 rfl rfl rfl rfl rfl rfl rfl rfl (by decide) (s_Mgood sta d th tr wh dr rd F wd ac im lw tk st sh ru rz aw al sd _) (fun v w' h hp hk2 hv => ?_)
  obtain ⟨rfl, rfl⟩ := hp
  repeat (first | refine g_px rfl rfl rfl ?_)
  subst hT
  exact g_iret hv rfl rfl rfl rfl ⟨rfl, rfl⟩
theorem s_Mlost (y : Int32) : mj_Sx sta (d + 2) 162 [.ref 151, .int y] [(mo th tr wh dr rd F wd ac im lw tk st sh ru rz aw al sd)] (fun v w => v = some (.int (-100)) ∧ w = [(mo th y (-1) dr rd F wd ac im lw tk st sh ru rz aw al sd)]) := by
  refine mj_Sx.mk m_X10_lost (by decide) n_X10_lost rfl (fun h0 hv => ?_)
  generalize hT : mj_rx m_X10_lost h0 _ _ = T
  repeat (first | refine g_px rfl rfl rfl ?_)
  refine g_callV hv [0] 0 rfl rfl rfl rfl rfl rfl rfl rfl (by decide) (s_Mrefused sta d th tr wh dr rd F wd ac im lw tk st sh ru rz aw al sd y) (fun v w' h hp hk2 hv => ?_)
  obtain ⟨rfl, rfl⟩ := hp
  repeat (first | refine g_px rfl rfl rfl ?_)
  subst hT
  exact g_iret hv rfl rfl rfl rfl ⟨rfl, rfl⟩
theorem s_Mfraction (u v : Nat) (lo : Bool) (hu : u < 2 ^ 63) (h0' : 0 < v) (hv' : v < 2 ^ 63) : mj_Sx sta (d + 2) 170 [.ref 151, (.long (lN u)), (.long (lN v)), .int (bl lo)] [(mo th tr wh dr rd F wd ac im lw tk st sh ru rz aw al sd)] (fun x w => x = some (.long (lN (pfr u v lo))) ∧ w = [(mo th 0 (-1) dr rd F wd ac im lw tk st sh ru rz aw al sd)]) := by
  refine mj_Sx.mk m_X10_fraction (by decide) n_X10_fraction rfl (fun h0 hv => ?_)
  generalize hT : mj_rx m_X10_fraction h0 _ _ = T
  repeat (first | refine g_px rfl rfl rfl ?_)
  refine g_callV hv [0] 0 rfl rfl rfl rfl rfl rfl rfl rfl (by decide) (s_Mgood sta d th tr wh dr rd F wd ac im lw tk st sh ru rz aw al sd _) (fun v w' h hp hk2 hv => ?_)
  obtain ⟨rfl, rfl⟩ := hp
  have hg0 : 0 < Nat.gcd u v := Nat.gcd_pos_of_pos_right u h0'
  have hgl : Nat.gcd u v < 2 ^ 63 := Nat.lt_of_le_of_lt (Nat.gcd_le_right u h0') hv'
  have hne : ¬ lN (Nat.gcd u v) = 0 := fun z => by have := (pk_lEQ (b := 0) hgl (by decide)).mp z; omega
  have ep : pfr u v lo = (if lo then v else u) / Nat.gcd u v := by
    unfold pfr
    by_cases hu0 : u = 0
    · subst hu0
      rw [if_pos (Or.inl rfl), Nat.gcd_zero_left]
      cases lo
      · simp
      · simp [Nat.div_self h0']
    · rw [if_neg (by omega)]
  have fin : ∀ (x : Nat) (h : mj_H), x < 2 ^ 63 → pfr u v lo = x / Nat.gcd u v → mj_Vw h0 [(mo th 0 (-1) dr rd F wd ac im lw tk st sh ru rz aw al sd)] h → mj_go sta (mj_Cl sta (d + 1)) m_X10_fraction T 16 [some (.ref 151), some (.long (lN u)), none, some (.long (lN v)), none, some (.int (bl lo))] [.long (lN x)] h := by
    intro x h hx he hv
    repeat (first | refine g_px rfl rfl rfl ?_)
    refine g_callS hv [] rfl rfl rfl rfl rfl rfl rfl (by decide) (s_Mcommon sta d u v hu hv') (fun v w' h hp hk2 hv => ?_)
    obtain ⟨rfl, rfl⟩ := hp
    refine g_ldiv hne rfl ?_
    rw [pk_lDiv hx hg0 hgl]
    subst hT
    refine g_lret hv rfl rfl rfl ⟨by rw [he], rfl⟩
  refine g_run 2 rfl ?_
  cases lo with
  | true =>
    refine g_if rfl (fun cq => absurd cq (cpF (by decide))) (fun cq => ?_)
    refine g_run 2 rfl ?_
    exact fin v h hv' ep hv
  | false =>
    refine g_if rfl (fun cq => ?_) (fun cq => absurd rfl cq)
    refine g_run 1 rfl ?_
    exact fin u h hu ep hv
variable (D : Nat → Nat) (hi er se : Int32)
theorem s_MisMan (m : Int32) (hn : D 1 ≤ 6) : mj_Sx sta (d + 1) 198 [.ref 151, .int m] [(mo th tr wh (some q) rd F wd ac im lw tk st sh ru rz aw al sd), mdh q D hi er se] (fun v w => v = some (.int (bl (inR (D 1) m))) ∧ w = [(mo th tr wh (some q) rd F wd ac im lw tk st sh ru rz aw al sd), mdh q D hi er se]) := by
  refine mj_Sx.mk m_X10_isMan (by decide) n_X10_isMan rfl (fun h0 hv => ?_)
  generalize hT : mj_rx m_X10_isMan h0 _ _ = T
  repeat (first | refine g_px rfl rfl rfl ?_ | refine g_get hv 0 rfl rfl rfl rfl ?_)
  refine g_if rfl (fun cq => ?_) (fun cq => ?_)
  · repeat (first | refine g_px rfl rfl rfl ?_)
    subst hT
    refine g_iret hv rfl rfl rfl rfl ?_
    exact ⟨by rw [inR_neg cq]; rfl, rfl⟩
  · have cq : ¬ m < 0 := cq
    repeat (first | refine g_px rfl rfl rfl ?_ | refine g_get hv 0 rfl rfl rfl rfl ?_ | refine g_get hv 1 rfl rfl rfl rfl ?_)
    refine g_ic rfl (fun cq2 => ?_) (fun cq2 => ?_)
    · have cq2 : nI (D 1) ≤ m := cq2
      repeat (first | refine g_px rfl rfl rfl ?_)
      subst hT
      refine g_iret hv rfl rfl rfl rfl ?_
      exact ⟨by rw [inR, decide_eq_false (p := m < nI (D 1)) (Int32.not_lt.mpr cq2), Bool.and_false]; rfl, rfl⟩
    · have cq2 : ¬ nI (D 1) ≤ m := cq2
      repeat (first | refine g_px rfl rfl rfl ?_)
      subst hT
      refine g_iret hv rfl rfl rfl rfl ?_
      exact ⟨by rw [inR, decide_eq_true (Int32.not_lt.mp cq), decide_eq_true (Int32.not_le.mp cq2)]; rfl, rfl⟩
theorem s_MisMan_u (m : Int32) : mj_Sx sta (d + 1) 198 [.ref 151, .int m] [(mo th tr wh none rd F wd ac im lw tk st sh ru rz aw al sd)] (fun v w => v = some (.int (bl false)) ∧ w = [(mo th tr wh none rd F wd ac im lw tk st sh ru rz aw al sd)]) := by
  refine mj_Sx.mk m_X10_isMan (by decide) n_X10_isMan rfl (fun h0 hv => ?_)
  generalize hT : mj_rx m_X10_isMan h0 _ _ = T
  repeat (first | refine g_px rfl rfl rfl ?_ | refine g_get hv 0 rfl rfl rfl rfl ?_)
  subst hT
  exact g_iret hv rfl rfl rfl rfl ⟨rfl, rfl⟩
theorem s_MisTold (m : Int32) (hn : D 8 ≤ 3) : mj_Sx sta (d + 1) 244 [.ref 151, .int m] [(mo th tr wh (some q) rd F wd ac im lw tk st sh ru rz aw al sd), mdh q D hi er se] (fun v w => v = some (.int (bl (inR (D 8) m))) ∧ w = [(mo th tr wh (some q) rd F wd ac im lw tk st sh ru rz aw al sd), mdh q D hi er se]) := by
  refine mj_Sx.mk m_X10_isTold (by decide) n_X10_isTold rfl (fun h0 hv => ?_)
  generalize hT : mj_rx m_X10_isTold h0 _ _ = T
  repeat (first | refine g_px rfl rfl rfl ?_ | refine g_get hv 0 rfl rfl rfl rfl ?_)
  refine g_if rfl (fun cq => ?_) (fun cq => ?_)
  · repeat (first | refine g_px rfl rfl rfl ?_)
    subst hT
    refine g_iret hv rfl rfl rfl rfl ?_
    exact ⟨by rw [inR_neg cq]; rfl, rfl⟩
  · have cq : ¬ m < 0 := cq
    repeat (first | refine g_px rfl rfl rfl ?_ | refine g_get hv 0 rfl rfl rfl rfl ?_ | refine g_get hv 1 rfl rfl rfl rfl ?_)
    refine g_ic rfl (fun cq2 => ?_) (fun cq2 => ?_)
    · have cq2 : nI (D 8) ≤ m := cq2
      repeat (first | refine g_px rfl rfl rfl ?_)
      subst hT
      refine g_iret hv rfl rfl rfl rfl ?_
      exact ⟨by rw [inR, decide_eq_false (p := m < nI (D 8)) (Int32.not_lt.mpr cq2), Bool.and_false]; rfl, rfl⟩
    · have cq2 : ¬ nI (D 8) ≤ m := cq2
      repeat (first | refine g_px rfl rfl rfl ?_)
      subst hT
      refine g_iret hv rfl rfl rfl rfl ?_
      exact ⟨by rw [inR, decide_eq_true (Int32.not_lt.mp cq), decide_eq_true (Int32.not_le.mp cq2)]; rfl, rfl⟩
theorem s_MisTold_u (m : Int32) : mj_Sx sta (d + 1) 244 [.ref 151, .int m] [(mo th tr wh none rd F wd ac im lw tk st sh ru rz aw al sd)] (fun v w => v = some (.int (bl false)) ∧ w = [(mo th tr wh none rd F wd ac im lw tk st sh ru rz aw al sd)]) := by
  refine mj_Sx.mk m_X10_isTold (by decide) n_X10_isTold rfl (fun h0 hv => ?_)
  generalize hT : mj_rx m_X10_isTold h0 _ _ = T
  repeat (first | refine g_px rfl rfl rfl ?_ | refine g_get hv 0 rfl rfl rfl rfl ?_)
  subst hT
  exact g_iret hv rfl rfl rfl rfl ⟨rfl, rfl⟩
theorem s_Meverybody (hn : D 1 ≤ 6) : mj_Sx sta (d + 1) 199 [.ref 151] [(mo th tr wh (some q) rd F wd ac im lw tk st sh ru rz aw al sd), mdh q D hi er se] (fun v w => v = some (.int (nI (2 ^ D 1 - 1))) ∧ w = [(mo th tr wh (some q) rd F wd ac im lw tk st sh ru rz aw al sd), mdh q D hi er se]) := by
  refine mj_Sx.mk m_X10_everybody (by decide) n_X10_everybody rfl (fun h0 hv => ?_)
  generalize hT : mj_rx m_X10_everybody h0 _ _ = T
  repeat (first | refine g_px rfl rfl rfl ?_ | refine g_get hv 0 rfl rfl rfl rfl ?_ | refine g_get hv 1 rfl rfl rfl rfl ?_)
  rw [k_shl (show D 1 < 31 by omega), show nI (2 ^ D 1) - Int32.ofInt 1 = nI (2 ^ D 1 - 1) from pk_sub (b := 1) (Nat.one_le_two_pow)]
  subst hT
  exact g_iret hv rfl rfl rfl rfl ⟨rfl, rfl⟩
theorem s_MallRows (hn : 1 ≤ D 1 ∧ D 1 ≤ 6) : mj_Sx sta (d + 1) 209 [.ref 151] [(mo th tr wh (some q) rd F wd ac im lw tk st sh ru rz aw al sd), mdh q D hi er se] (fun v w => v = some (.int (nI (fac (D 1)))) ∧ w = [(mo th tr wh (some q) rd F wd ac im lw tk st sh ru rz aw al sd), mdh q D hi er se]) := by
  refine mj_Sx.mk m_X10_allRows (by decide) n_X10_allRows rfl (fun h0 hv => ?_)
  generalize hT : mj_rx m_X10_allRows h0 _ _ = T
  have loop : ∀ j k, k + j = D 1 → mj_go sta (mj_Cl sta d) m_X10_allRows T 4 [some (.ref 151), some (.int (nI (fac k))), some (.int (nI (k + 1)))] [] h0 := by
    intro j
    induction j with
    | zero =>
      intro k hk
      have hk : k = D 1 := by omega
      subst hk
      repeat (first | refine g_px rfl rfl rfl ?_ | refine g_get hv 0 rfl rfl rfl rfl ?_ | refine g_get hv 1 rfl rfl rfl rfl ?_)
      refine g_ic rfl (fun cq => ?_) (fun cq => ?_)
      · repeat (first | refine g_px rfl rfl rfl ?_)
        subst hT
        exact g_iret hv rfl rfl rfl rfl ⟨rfl, rfl⟩
      · simp (disch := omega) only [mj_cp, k_6, k_7, k_8, k_9, k_10, k_12, k_15, k_16, k_18, k_20, k_24, k_25, k_26, k_27, k_28, k_32, k_36, k_48, k_57, k_59, k_63, k_74, k_75, k_84, k_90, k_97, k_99, k_100, k_122, k_200, k_255, k_420, k_448, k_720, k_800, k_999, k_bit, k_shl, fa_and, nI_add, bl_1, bl_0, bl_n1, bl_n0, bl_i1, nI_lt0, nI_0le, nI_eq0, nI_eqT, nI_leI, nI_ltI, nI_eq, Nat.not_le, Nat.not_lt, Bool.not_eq_true, Bool.not_eq_false, not_true_eq_false, not_false_eq_true, Decidable.not_not] at cq
        omega
    | succ j ih =>
      intro k hk
      repeat (first | refine g_px rfl rfl rfl ?_ | refine g_get hv 0 rfl rfl rfl rfl ?_ | refine g_get hv 1 rfl rfl rfl rfl ?_)
      refine g_ic rfl (fun cq => ?_) (fun cq => ?_)
      · simp (disch := omega) only [mj_cp, k_6, k_7, k_8, k_9, k_10, k_12, k_15, k_16, k_18, k_20, k_24, k_25, k_26, k_27, k_28, k_32, k_36, k_48, k_57, k_59, k_63, k_74, k_75, k_84, k_90, k_97, k_99, k_100, k_122, k_200, k_255, k_420, k_448, k_720, k_800, k_999, k_bit, k_shl, fa_and, nI_add, bl_1, bl_0, bl_n1, bl_n0, bl_i1, nI_lt0, nI_0le, nI_eq0, nI_eqT, nI_leI, nI_ltI, nI_eq, Nat.not_le, Nat.not_lt, Bool.not_eq_true, Bool.not_eq_false, not_true_eq_false, not_false_eq_true, Decidable.not_not] at cq
        omega
      · refine g_run 3 rfl ?_
        rw [pk_mul, Nat.mul_comm]
        refine g_run 3 rfl ?_
        have hnx := ih (k + 1) (by omega)
        rw [nI_succ (k + 1)] at hnx
        exact hnx
  refine g_run 4 rfl ?_
  exact loop (D 1 - 1) 1 (by omega)
/-- in or not, by bounds -/
theorem in_R (k : Nat) (hk : k < 2 ^ 30) (m : Int32) : (decide ((0 : Int32) ≤ m) && decide (m ≤ nI k)) = inR (k + 1) m := by
  unfold inR
  congr 1
  refine decide_eq_decide.mpr ⟨fun z => ?_, fun z => ?_⟩
  · rw [fa_le, nI_toInt (by omega)] at z
    rw [fa_lt, nI_toInt (by omega)]
    omega
  · rw [fa_lt, nI_toInt (by omega)] at z
    rw [fa_le, nI_toInt (by omega)]
    omega
end Mb
