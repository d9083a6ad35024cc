/-! what the Statement says of the law's start -/
def tS (r : String × Nat × String) : Term := .string r.1 r.2.1
def fV (r : String × Nat × String) : Term := .field (tS r) "java/lang/String" "value" "[B"
def strC (r : String × Nat × String) : List Cond := [Cond.exactly (tS r) "java/lang/String", Cond.eq (.field (tS r) "java/lang/String" "coder" "B") (.int 0), Cond.arrayOf (fV r) .byte, Cond.eq (.length (fV r)) (.int (Int32.ofNat r.2.2.toList.length))] ++ (List.range r.2.2.toList.length).map (fun k => Cond.eq (.elem (fV r) (.int (Int32.ofNat k))) (.int (nI (r.2.2.toList.getD k 'a').toNat)))
def flN : List Cond := flatC (Jvm.Cond.and given_1 narrow_1)
theorem strC_0 : (strC ("LowNumber$Tape", 102, "draft")).all (fun w => decide (w ∈ flN)) = true := by decide +kernel
theorem strC_1 : (strC ("LowNumber$Tape", 108, "man")).all (fun w => decide (w ∈ flN)) = true := by decide +kernel
theorem strC_2 : (strC ("LowNumber$Tape", 110, "kin")).all (fun w => decide (w ∈ flN)) = true := by decide +kernel
theorem strC_3 : (strC ("LowNumber$Tape", 112, "spares")).all (fun w => decide (w ∈ flN)) = true := by decide +kernel
theorem strC_4 : (strC ("LowNumber$Tape", 114, "doctor")).all (fun w => decide (w ∈ flN)) = true := by decide +kernel
theorem strC_5 : (strC ("LowNumber$Tape", 116, "went")).all (fun w => decide (w ∈ flN)) = true := by decide +kernel
theorem strC_6 : (strC ("LowNumber$Tape", 118, "takes")).all (fun w => decide (w ∈ flN)) = true := by decide +kernel
theorem strC_7 : (strC ("LowNumber$Tape", 195, "plain")).all (fun w => decide (w ∈ flN)) = true := by decide +kernel
theorem strC_8 : (strC ("LowNumber$Tape", 197, "married")).all (fun w => decide (w ∈ flN)) = true := by decide +kernel
theorem strC_9 : (strC ("LowNumber$Tape", 199, "short")).all (fun w => decide (w ∈ flN)) = true := by decide +kernel
theorem strC_10 : (strC ("LowNumber$Tape", 201, "lame")).all (fun w => decide (w ∈ flN)) = true := by decide +kernel
theorem strC_11 : (strC ("LowNumber$Tape", 141, "worth")).all (fun w => decide (w ∈ flN)) = true := by decide +kernel
theorem strC_12 : (strC ("LowNumber$Tape", 145, "coins")).all (fun w => decide (w ∈ flN)) = true := by decide +kernel
theorem strC_13 : (strC ("LowNumber$Tape", 149, "asks")).all (fun w => decide (w ∈ flN)) = true := by decide +kernel
theorem strC_14 : (strC ("LowNumber$Tape", 167, "hits")).all (fun w => decide (w ∈ flN)) = true := by decide +kernel
theorem strC_15 : (strC ("LowNumber$Tape", 171, "errs")).all (fun w => decide (w ∈ flN)) = true := by decide +kernel
theorem strC_16 : (strC ("LowNumber$Tape", 175, "share")).all (fun w => decide (w ∈ flN)) = true := by decide +kernel
theorem strC_17 : (strC ("LowNumber", 393, "no such man goes")).all (fun w => decide (w ∈ flN)) = true := by decide +kernel
theorem strC_18 : (strC ("LowNumberModel", 146, "draft")).all (fun w => decide (w ∈ flN)) = true := by decide +kernel
theorem strC_19 : (strC ("LowNumberModel", 209, "takes")).all (fun w => decide (w ∈ flN)) = true := by decide +kernel
theorem strC_20 : (strC ("LowNumberModel", 148, "man")).all (fun w => decide (w ∈ flN)) = true := by decide +kernel
theorem strC_21 : (strC ("LowNumberModel", 150, "kin")).all (fun w => decide (w ∈ flN)) = true := by decide +kernel
theorem strC_22 : (strC ("LowNumberModel", 152, "spares")).all (fun w => decide (w ∈ flN)) = true := by decide +kernel
theorem strC_23 : (strC ("LowNumberModel", 154, "doctor")).all (fun w => decide (w ∈ flN)) = true := by decide +kernel
theorem strC_24 : (strC ("LowNumberModel", 156, "went")).all (fun w => decide (w ∈ flN)) = true := by decide +kernel
theorem strC_25 : (strC ("LowNumberModel", 174, "plain")).all (fun w => decide (w ∈ flN)) = true := by decide +kernel
theorem strC_26 : (strC ("LowNumberModel", 176, "married")).all (fun w => decide (w ∈ flN)) = true := by decide +kernel
theorem strC_27 : (strC ("LowNumberModel", 178, "short")).all (fun w => decide (w ∈ flN)) = true := by decide +kernel
theorem strC_28 : (strC ("LowNumberModel", 180, "lame")).all (fun w => decide (w ∈ flN)) = true := by decide +kernel
theorem strC_29 : (strC ("LowNumberModel", 221, "worth")).all (fun w => decide (w ∈ flN)) = true := by decide +kernel
theorem strC_30 : (strC ("LowNumberModel", 223, "coins")).all (fun w => decide (w ∈ flN)) = true := by decide +kernel
theorem strC_31 : (strC ("LowNumberModel", 225, "asks")).all (fun w => decide (w ∈ flN)) = true := by decide +kernel
theorem strC_32 : (strC ("LowNumberModel", 255, "hits")).all (fun w => decide (w ∈ flN)) = true := by decide +kernel
theorem strC_33 : (strC ("LowNumberModel", 256, "errs")).all (fun w => decide (w ∈ flN)) = true := by decide +kernel
theorem strC_34 : (strC ("LowNumberModel", 258, "share")).all (fun w => decide (w ∈ flN)) = true := by decide +kernel
theorem strC_in : ∀ r ∈ mj_str, (strC r).all (fun w => decide (w ∈ flN)) = true := by
  unfold mj_str
  exact List.forall_mem_cons.mpr ⟨strC_0, List.forall_mem_cons.mpr ⟨strC_1, List.forall_mem_cons.mpr ⟨strC_2, List.forall_mem_cons.mpr ⟨strC_3, List.forall_mem_cons.mpr ⟨strC_4, List.forall_mem_cons.mpr ⟨strC_5, List.forall_mem_cons.mpr ⟨strC_6, List.forall_mem_cons.mpr ⟨strC_7, List.forall_mem_cons.mpr ⟨strC_8, List.forall_mem_cons.mpr ⟨strC_9, List.forall_mem_cons.mpr ⟨strC_10, List.forall_mem_cons.mpr ⟨strC_11, List.forall_mem_cons.mpr ⟨strC_12, List.forall_mem_cons.mpr ⟨strC_13, List.forall_mem_cons.mpr ⟨strC_14, List.forall_mem_cons.mpr ⟨strC_15, List.forall_mem_cons.mpr ⟨strC_16, List.forall_mem_cons.mpr ⟨strC_17, List.forall_mem_cons.mpr ⟨strC_18, List.forall_mem_cons.mpr ⟨strC_19, List.forall_mem_cons.mpr ⟨strC_20, List.forall_mem_cons.mpr ⟨strC_21, List.forall_mem_cons.mpr ⟨strC_22, List.forall_mem_cons.mpr ⟨strC_23, List.forall_mem_cons.mpr ⟨strC_24, List.forall_mem_cons.mpr ⟨strC_25, List.forall_mem_cons.mpr ⟨strC_26, List.forall_mem_cons.mpr ⟨strC_27, List.forall_mem_cons.mpr ⟨strC_28, List.forall_mem_cons.mpr ⟨strC_29, List.forall_mem_cons.mpr ⟨strC_30, List.forall_mem_cons.mpr ⟨strC_31, List.forall_mem_cons.mpr ⟨strC_32, List.forall_mem_cons.mpr ⟨strC_33, List.forall_mem_cons.mpr ⟨strC_34, fun _ h => absurd h List.not_mem_nil⟩⟩⟩⟩⟩⟩⟩⟩⟩⟩⟩⟩⟩⟩⟩⟩⟩⟩⟩⟩⟩⟩⟩⟩⟩⟩⟩⟩⟩⟩⟩⟩⟩⟩⟩
theorem strR_in : mj_str.all (fun r => decide (Cond.stringRef r.1 r.2.1 r.2.2 ∈ lw_tbl)) = true := by decide +kernel
theorem str_no : mj_str.length ≤ 50 := by decide +kernel
def tF : Term := .static "LowNumber" "FACTORIALS" "[I"
def facC : List Cond := [Cond.arrayOf tF .int, Cond.eq (.length tF) (.int (Int32.ofNat 7))] ++ (List.range 7).map (fun k => Cond.eq (.elem tF (.int (Int32.ofNat k))) (.int (nI (fac k))))
theorem facC_in : facC.all (fun w => decide (w ∈ flN)) = true := by decide +kernel
theorem b_fl : Cond.laysStatic "LowNumber" "FACTORIALS" "[I" ∈ lw_tbl := by decide +kernel
theorem b_fi : Cond.initialized "LowNumber" ∈ lw_tbl := by decide +kernel
theorem b_cl : Cond.laysStatic "java/lang/String" "COMPACT_STRINGS" "Z" ∈ lw_tbl := by decide +kernel
theorem b_ci : Cond.initialized "java/lang/String" ∈ lw_tbl := by decide +kernel
theorem b_ce : Cond.eq (.static "java/lang/String" "COMPACT_STRINGS" "Z") (.int 1) ∈ flN := by decide +kernel
theorem b_pl : Cond.laysStatic "jdk/internal/util/Preconditions" "SIOOBE_FORMATTER" "Ljava/util/function/BiFunction;" ∈ lw_tbl := by decide +kernel
theorem b_pi : Cond.initialized "jdk/internal/util/Preconditions" ∈ lw_tbl := by decide +kernel
theorem b_pr : Cond.isRef (.static "jdk/internal/util/Preconditions" "SIOOBE_FORMATTER" "Ljava/util/function/BiFunction;") ∈ flN := by decide +kernel
theorem b_ul : Cond.laysStatic Bundle.tN "UNASSIGNED_STACK" Bundle.steD ∈ lw_tbl := by decide +kernel
theorem b_ur : Cond.isRef (.static Bundle.tN "UNASSIGNED_STACK" Bundle.steD) ∈ flN := by decide +kernel
theorem b_sl : Cond.laysStatic Bundle.tN "SUPPRESSED_SENTINEL" Bundle.listD ∈ lw_tbl := by decide +kernel
theorem b_sr : Cond.isRef (.static Bundle.tN "SUPPRESSED_SENTINEL" Bundle.listD) ∈ flN := by decide +kernel
theorem b_ti : Cond.initialized Bundle.tN ∈ lw_tbl := by decide +kernel
theorem b_ns : Cond.stringRef RX8 393 "no such man goes" ∈ lw_tbl := by decide +kernel
theorem b_ne : Cond.exactly (.string RX8 393) "java/lang/String" ∈ flN := by decide +kernel
theorem b_ao : Cond.arrayOver (.object "LowNumber$Now") ∈ lw_tbl := by decide +kernel
theorem b_aa : Cond.arrayOver (.array .int) ∈ lw_tbl := by decide +kernel
theorem b_aI : Cond.arrayClass .int ∈ lw_tbl := by decide +kernel
theorem b_aJ : Cond.arrayClass .long ∈ lw_tbl := by decide +kernel
theorem b_aB : Cond.arrayClass .byte ∈ lw_tbl := by decide +kernel
section Bg
variable {args : Array Value} {s : State} {A : Nat → Prop}
theorem st_str (hf : ∀ c ∈ flN, c.before args s = true) (hts : ∀ w ∈ lw_tbl, w.before args s = true) (hA : ∀ a : Nat, a < s.heap.size → ¬ A a) {r : String × Nat × String} (hr : r ∈ mj_str) : ∃ a : Nat, vk_R r.1 r.2.1 r.2.2 a s ∧ ∃ av : Nat, va_O "java/lang/String" a A s s.heap ∧ va_OF "java/lang/String" "coder" "B" (.int 0) a A s s.heap ∧ va_OF "java/lang/String" "value" "[B" (.ref av) a A s s.heap ∧ va_T .byte av r.2.2.toList.length (fun k => .int (nI (r.2.2.toList.getD k 'a').toNat)) A s s.heap := by
  have h := strC_in r hr
  have h2 := List.all_eq_true.mp strR_in r hr
  have h3 := List.all_eq_true.mp str_ok r hr
  simp only [Bool.and_eq_true, List.all_eq_true, decide_eq_true_eq] at h h2 h3
  have hc : ∀ w ∈ strC r, w.before args s = true := fun w hw => hf w (h w hw)
  have hex := hc (Cond.exactly (tS r) "java/lang/String") (by simp [strC])
  have hco := hc (Cond.eq (.field (tS r) "java/lang/String" "coder" "B") (.int 0)) (by simp [strC])
  have har := hc (Cond.arrayOf (fV r) .byte) (by simp [strC])
  have hle := hc (Cond.eq (.length (fV r)) (.int (Int32.ofNat r.2.2.toList.length))) (by simp [strC])
  have hel : ∀ k, k < r.2.2.toList.length → (Cond.eq (.elem (fV r) (.int (Int32.ofNat k))) (.int (nI (r.2.2.toList.getD k 'a').toNat))).before args s = true := fun k hk => hc _ (List.mem_append_right _ (List.mem_map.mpr ⟨k, List.mem_range.mpr hk, rfl⟩))
  obtain ⟨a, c, cA, kA, q1, q2, q3, q4, q5, q6, -⟩ := Cond.exactly_spec (args := args) (first := s) (o := none) (s := s) (idx := []) (t := tS r) (cls := "java/lang/String") hex
  obtain ⟨t, ht, hT⟩ := va_Tof (f := fun k => .int (nI (r.2.2.toList.getD k 'a').toNat)) (A := A) h3.1 har (va_eqt hle) (fun j hj => va_eqt (hel j hj)) hA
  exact ⟨a, vk_R.of (hts _ h2) q1, t, ⟨cA, q3, q5, by rw [q6]; exact q2, hA a (Array.getElem?_eq_some_iff.mp q3).1⟩, vk_OFof q1 (va_eqt hco) hA, vk_OFof q1 ht hA, hT⟩
theorem st_fac (hf : ∀ c ∈ flN, c.before args s = true) (hts : ∀ w ∈ lw_tbl, w.before args s = true) (hA : ∀ a : Nat, a < s.heap.size → ¬ A a) : ∃ t : Nat, t < s.heap.size ∧ va_Z "LowNumber" "FACTORIALS" "[I" (.ref t) A s s.heap ∧ va_X t 7 (fun k => nI (fac k)) s s.heap := by
  have hc : ∀ w ∈ facC, w.before args s = true := fun w hw => hf w (by have := List.all_eq_true.mp facC_in w hw; simpa using this)
  have har := hc (Cond.arrayOf tF .int) (by simp [facC])
  have hle := va_eqt (hc (Cond.eq (.length tF) (.int (Int32.ofNat 7))) (by simp [facC]))
  have hel : ∀ k, k < 7 → (Cond.eq (.elem tF (.int (Int32.ofNat k))) (.int (nI (fac k)))).before args s = true := fun k hk => hc _ (List.mem_append_right _ (List.mem_map.mpr ⟨k, List.mem_range.mpr hk, rfl⟩))
  obtain ⟨t, ht, cell, a1, a2, a3, a4, a5, a6, a7⟩ := va_Tof (f := fun k => .int (nI (fac k))) (A := A) (by decide) har hle (fun j hj => va_eqt (hel j hj)) hA
  obtain ⟨t', cell', ht', hat', hv'⟩ := Term.length_spec hle
  cases ht.symm.trans ht'
  obtain ⟨hcell, -, -, -⟩ := State.arrayAt?_spec hat'
  cases a1.symm.trans hcell
  have hsz : cell.slots.size < 2 ^ 31 := by
    have hv := hle
    simp only [Term.eval, ht', hat', Option.bind_eq_bind, Option.bind_some] at hv
    by_cases hlt : cell.slots.size < 2147483648
    · exact hlt
    · simp [hlt] at hv
  have e7 : cell.slots.size = 7 := (nI_eq hsz (by decide)).mp a5
  refine ⟨t, (Array.getElem?_eq_some_iff.mp a1).1, va_Zof (hts _ b_fl) (hts _ b_fi) ht hA, cell, a1, a2, a3, e7, a6⟩
theorem st_arr {ty : FieldType} (h : (Cond.arrayClass ty).before args s = true) : ∃ cA : ClassId, ArrOfT s cA ty ∧ s.vm.findClass ("[" ++ ty.toString) = some cA := by
  obtain ⟨c, k, comp, h1, h2, h3⟩ := Cond.arrayClass_spec (args := args) (first := s) (o := none) (s := s) (idx := []) h
  exact ⟨c, fun n z => ⟨(fun k => by intro q; cases q), k, h2, comp, h3⟩, h1⟩
theorem st_aobj {C : String} (h : (Cond.arrayOver (.object C)).before args s = true) : ∃ cA : ClassId, ArrOfT s cA (.object C) ∧ va_RA s cA (.object C) := by
  obtain ⟨comp, c, k, h1, -, h2, h3, h4⟩ := Cond.arrayOver_spec (args := args) (first := s) (s := s) (o := none) (idx := []) h
  exact ⟨c, fun n z => ⟨(fun k => by intro q; cases q), k, h2, comp, h3⟩, k, comp, h2, h3, h1, h4⟩
theorem st_aint (h : mj_AA s) : ∃ cA : ClassId, ArrOfT s cA (.array .int) ∧ s.vm.findClass ("[" ++ (FieldType.array .int).toString) = some cA := by
  unfold mj_AA at h
  simp only [Cond.before, Cond.holds, Cond.value] at h
  have h := eq_of_beq h
  obtain ⟨comp, hf, h⟩ := Option.bind_eq_some_iff.mp h
  obtain ⟨c, hi, h⟩ := Option.bind_eq_some_iff.mp h
  obtain ⟨k, hk, h⟩ := Option.map_eq_some_iff.mp h
  split at h
  · rename_i cp ty hkd
    simp only [Bool.and_eq_true, decide_eq_true_eq] at h
    obtain ⟨e1, e2⟩ := h
    subst e1
    exact ⟨c, fun n z => ⟨(fun k => by intro q; cases q), k, hk, cp, hkd⟩, e2⟩
  · cases h
theorem st_kn (hts : ∀ w ∈ lw_tbl, w.before args s = true) : ∀ (c : Nat) (q : vw_C), vwCl[c]? = some q → ∃ g : ClassId × (Nat → Nat), u_Kn s q.1 q.2.1 q.2.2 g.1 g.2 := by
  intro c q hq
  have key : ∀ {C : String} {T : u_T} {n : Nat}, (∀ w ∈ u_ws C T n, w ∈ lw_tbl) → Cond.instantiable C n ∈ lw_tbl → ∃ g : ClassId × (Nat → Nat), u_Kn s C T n g.1 g.2 := by
    intro C T n h1 h2
    obtain ⟨cC, iS, h⟩ := u_known (C := C) (T := T) (N := n) (n := n) hts h1 (hts _ h2)
    exact ⟨(cC, iS), h⟩
  match c, hq with
  | 0, hq => cases hq; exact key inX0 (by decide +kernel)
  | 1, hq => cases hq; exact key inX1 (by decide +kernel)
  | 2, hq => cases hq; exact key inX2 (by decide +kernel)
  | 3, hq => cases hq; exact key inX3 (by decide +kernel)
  | 4, hq => cases hq; exact key inX4 (by decide +kernel)
  | 5, hq => cases hq; exact key inX5 (by decide +kernel)
  | 6, hq => cases hq; exact key inX6 (by decide +kernel)
  | 7, hq => cases hq; exact key inX7 (by decide +kernel)
  | 8, hq => cases hq; exact key inX8 (by decide +kernel)
  | 9, hq => cases hq; exact key inX9 (by decide +kernel)
  | 10, hq => cases hq; exact key inX10 (by decide +kernel)
  | k + 11, hq => simp at hq
end Bg
theorem st_all {s : State} {b L : Nat} {xs : Nat → Int32} (hts : ∀ w ∈ lw_tbl, w.before #[Value.ref b] s = true) (hX : va_X b L xs s s.heap) (hbl : b < s.heap.size) (hgv : (Jvm.Cond.and given_1 narrow_1).before #[Value.ref b] s = true) :
    ∃ D : mj_D, mj_b D = s.heap.size ∧ mj_H0 D = s.heap ∧ mj_sK D 101 = b ∧ mj_sta D (mj_SB + 101) = some (L, xs) ∧ stF (mj_sta D) ∧ mj_St D s ∧ mj_G0 D := by
  have hf : ∀ c ∈ flN, c.before #[Value.ref b] s = true := flat_of_before _ hgv
  have hA : ∀ a : Nat, a < s.heap.size → ¬ (fun q => s.heap.size ≤ q) a := fun a h q => Nat.not_le.mpr h q
  obtain ⟨t, ht1, hZ, hXf⟩ := st_fac (A := fun q => s.heap.size ≤ q) hf hts hA
  obtain ⟨cI, aI1, aI2⟩ := st_arr (hts _ b_aI)
  obtain ⟨cJ, aJ1, aJ2⟩ := st_arr (hts _ b_aJ)
  obtain ⟨cB, aB1, aB2⟩ := st_arr (hts _ b_aB)
  obtain ⟨cN, aN1, aN2⟩ := st_aobj (hts _ b_ao)
  have hAA : mj_AA s := hts _ b_aa
  obtain ⟨cA, aA1, aA2⟩ := st_aint hAA
  have hkn : ∀ c : Nat, ∃ g : ClassId × (Nat → Nat), ∀ q : vw_C, vwCl[c]? = some q → u_Kn s q.1 q.2.1 q.2.2 g.1 g.2 := by
    intro c
    cases hq : vwCl[c]? with
    | none => exact ⟨(cI, fun _ => 0), fun q h => by cases h⟩
    | some q =>
      obtain ⟨g, hg⟩ := st_kn hts c q hq
      exact ⟨g, fun q' h => by cases h; exact hg⟩
  obtain ⟨gk, hgk⟩ := Classical.axiomOfChoice hkn
  have hst : ∀ j : Nat, ∃ a : Nat, ∀ r : String × Nat × String, mj_nth mj_str j = some r → vk_R r.1 r.2.1 r.2.2 a s ∧ ∃ av : Nat, va_O "java/lang/String" a (fun q => s.heap.size ≤ q) s s.heap ∧ va_OF "java/lang/String" "coder" "B" (.int 0) a (fun q => s.heap.size ≤ q) s s.heap ∧ va_OF "java/lang/String" "value" "[B" (.ref av) a (fun q => s.heap.size ≤ q) s s.heap ∧ va_T .byte av r.2.2.toList.length (fun k => .int (nI (r.2.2.toList.getD k 'a').toNat)) (fun q => s.heap.size ≤ q) s s.heap := by
    intro j
    cases hq : mj_nth mj_str j with
    | none => exact ⟨0, fun q h => by cases h⟩
    | some r =>
      obtain ⟨a, ha⟩ := st_str (A := fun q => s.heap.size ≤ q) hf hts hA (mj_nth_mem hq)
      exact ⟨a, fun r' h => by cases h; exact ha⟩
  obtain ⟨ad, had⟩ := Classical.axiomOfChoice hst
  obtain ⟨sa, c9, cA9, kA9, q1, -⟩ := Cond.exactly_spec (args := #[Value.ref b]) (first := s) (o := none) (s := s) (idx := []) (t := .string RX8 393) (cls := "java/lang/String") (hf _ b_ne)
  have hsk : ∀ j r, mj_nth mj_str j = some r → (if j = 100 then t else if j = 101 then b else ad j) = ad j := by
    intro j r hj
    have h1 := mj_nth_lt hj
    have h2 := str_no
    rw [if_neg (by omega), if_neg (by omega)]
  refine ⟨((fun c => (gk c).1, fun c => (gk c).2), (fun a => match a with | 0 => cI | 1 => cJ | 2 => cB | 3 => cN | _ => cA), s.heap.size, s.heap, (fun j => if j = 100 then t else if j = 101 then b else ad j), (fun k => if k = mj_SB + 100 then some (7, fun k => nI (fac k)) else if k = mj_SB + 101 then some (L, xs) else none), s), rfl, rfl, rfl, ?_, ?_, ?_, ?_⟩
  · show (if mj_SB + 101 = mj_SB + 100 then some (7, fun k => nI (fac k)) else if mj_SB + 101 = mj_SB + 101 then some (L, xs) else none) = _
    rw [if_neg (by omega), if_pos rfl]
  · refine ⟨fun k => nI (fac k), ?_, fun i _ => rfl⟩
    show (if mj_SB + 100 = mj_SB + 100 then some (7, fun k => nI (fac k)) else if mj_SB + 100 = mj_SB + 101 then some (L, xs) else none) = _
    rw [if_pos rfl]
  · refine ⟨fun w hw hk => ?_, fun c q hq => hgk c q hq, fun a ty ha => ?_, fun k n f h => ?_, fun j r hj => ?_, hts _ b_ao, hAA, hZ, rfl, State.WarmedH.refl s⟩
    · cases hn : mj_nest w with
      | true =>
        cases w <;> simp [mj_nest] at hn
        · exact va_Nw.of rfl (hts _ hw)
        · exact va_Nw.of rfl (hts _ hw)
      | false =>
        have hg : goodWord w = true := by simpa [mj_kw, hn] using hk
        exact word_at (State.WarmedH.refl s) (good_of_word hg) (hts w hw)
    · match a, ha with
      | 0, ha => cases ha; exact ⟨aI1, aI2⟩
      | 1, ha => cases ha; exact ⟨aJ1, aJ2⟩
      | 2, ha => cases ha; exact ⟨aB1, aB2⟩
      | 3, ha => cases ha; exact ⟨aN1, aN2⟩
      | 4, ha => cases ha; exact ⟨aA1, aA2⟩
      | k + 5, ha => simp [mj_tys] at ha
    · have h : (if k = mj_SB + 100 then some (7, fun k => nI (fac k)) else if k = mj_SB + 101 then some (L, xs) else none) = some (n, f) := h
      by_cases e1 : k = mj_SB + 100
      · rw [if_pos e1] at h
        cases h
        subst e1
        refine ⟨Nat.le_add_right _ _, ?_⟩
        rw [Nat.add_sub_cancel_left]
        exact ⟨hXf, ht1⟩
      · rw [if_neg e1] at h
        by_cases e2 : k = mj_SB + 101
        · rw [if_pos e2] at h
          cases h
          subst e2
          refine ⟨Nat.le_add_right _ _, ?_⟩
          rw [Nat.add_sub_cancel_left]
          exact ⟨hX, hbl⟩
        · rw [if_neg e2] at h
          cases h
    · show vk_R r.1 r.2.1 r.2.2 (if j = 100 then t else if j = 101 then b else ad j) s
      rw [hsk j r hj]
      exact (had j r hj).1
  · refine ⟨fun w hw ho => va_Nw.of ho (hts w hw), ⟨va_Zof (hts _ b_cl) (hts _ b_ci) (va_eqt (hf _ b_ce)) hA, va_Zqof (hts _ b_pl) (hts _ b_pi) (hf _ b_pr) hA⟩, fun j r hj => ?_, vx_Zqof (hts _ b_ul) (hts _ b_ti) (hf _ b_ur) hA, vx_Zqof (hts _ b_sl) (hts _ b_ti) (hf _ b_sr) hA, sa, vk_R.of (hts _ b_ns) q1⟩
    obtain ⟨-, av, h1, h2, h3, h4⟩ := had j r hj
    have e := hsk j r hj
    refine ⟨av, ?_, ?_, ?_, h4⟩
    · show va_O "java/lang/String" (if j = 100 then t else if j = 101 then b else ad j) _ s s.heap
      rw [e]; exact h1
    · show va_OF "java/lang/String" "coder" "B" (.int 0) (if j = 100 then t else if j = 101 then b else ad j) _ s s.heap
      rw [e]; exact h2
    · show va_OF "java/lang/String" "value" "[B" (.ref av) (if j = 100 then t else if j = 101 then b else ad j) _ s s.heap
      rw [e]; exact h3
