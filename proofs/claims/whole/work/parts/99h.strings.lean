/-! String.length and charAt of the texts, on the Jvm itself -/
theorem dq_J0_coder_7d493_0 : decode cJ0_coder_7d493 0 = .ok (.getstatic 38, 3) := by decide +kernel
theorem dq_J0_coder_7d493_3 : decode cJ0_coder_7d493 3 = .ok (.ifCond .eq 10, 3) := by decide +kernel
theorem dq_J0_coder_7d493_6 : decode cJ0_coder_7d493 6 = .ok (.aload_n 0, 1) := by decide +kernel
theorem dq_J0_coder_7d493_7 : decode cJ0_coder_7d493 7 = .ok (.getfield 15, 3) := by decide +kernel
theorem dq_J0_coder_7d493_10 : decode cJ0_coder_7d493 10 = .ok (.goto 4, 3) := by decide +kernel
theorem dq_J0_coder_7d493_13 : decode cJ0_coder_7d493 13 = .ok (.iconst 1, 1) := by decide +kernel
theorem dq_J0_coder_7d493_14 : decode cJ0_coder_7d493 14 = .ok (.ireturn, 1) := by decide +kernel
theorem dq_J0_isLatin1_aae02_0 : decode cJ0_isLatin1_aae02 0 = .ok (.getstatic 38, 3) := by decide +kernel
theorem dq_J0_isLatin1_aae02_3 : decode cJ0_isLatin1_aae02 3 = .ok (.ifCond .eq 14, 3) := by decide +kernel
theorem dq_J0_isLatin1_aae02_6 : decode cJ0_isLatin1_aae02 6 = .ok (.aload_n 0, 1) := by decide +kernel
theorem dq_J0_isLatin1_aae02_7 : decode cJ0_isLatin1_aae02 7 = .ok (.getfield 15, 3) := by decide +kernel
theorem dq_J0_isLatin1_aae02_10 : decode cJ0_isLatin1_aae02 10 = .ok (.ifCond .ne 7, 3) := by decide +kernel
theorem dq_J0_isLatin1_aae02_13 : decode cJ0_isLatin1_aae02 13 = .ok (.iconst 1, 1) := by decide +kernel
theorem dq_J0_isLatin1_aae02_14 : decode cJ0_isLatin1_aae02 14 = .ok (.goto 4, 3) := by decide +kernel
theorem dq_J0_isLatin1_aae02_17 : decode cJ0_isLatin1_aae02 17 = .ok (.iconst 0, 1) := by decide +kernel
theorem dq_J0_isLatin1_aae02_18 : decode cJ0_isLatin1_aae02 18 = .ok (.ireturn, 1) := by decide +kernel
theorem dq_J0_length_8abf5_0 : decode cJ0_length_8abf5 0 = .ok (.aload_n 0, 1) := by decide +kernel
theorem dq_J0_length_8abf5_1 : decode cJ0_length_8abf5 1 = .ok (.getfield 9, 3) := by decide +kernel
theorem dq_J0_length_8abf5_4 : decode cJ0_length_8abf5 4 = .ok (.arraylength, 1) := by decide +kernel
theorem dq_J0_length_8abf5_5 : decode cJ0_length_8abf5 5 = .ok (.aload_n 0, 1) := by decide +kernel
theorem dq_J0_length_8abf5_6 : decode cJ0_length_8abf5 6 = .ok (.invokevirtual 335, 3) := by decide +kernel
theorem dq_J0_length_8abf5_9 : decode cJ0_length_8abf5 9 = .ok (.ishr, 1) := by decide +kernel
theorem dq_J0_length_8abf5_10 : decode cJ0_length_8abf5 10 = .ok (.ireturn, 1) := by decide +kernel
theorem dq_J3_checkIndex_8e157_0 : decode cJ3_checkIndex_8e157 0 = .ok (.iload_n 0, 1) := by decide +kernel
theorem dq_J3_checkIndex_8e157_1 : decode cJ3_checkIndex_8e157 1 = .ok (.ifCond .lt 8, 3) := by decide +kernel
theorem dq_J3_checkIndex_8e157_4 : decode cJ3_checkIndex_8e157 4 = .ok (.iload_n 0, 1) := by decide +kernel
theorem dq_J3_checkIndex_8e157_5 : decode cJ3_checkIndex_8e157 5 = .ok (.iload_n 1, 1) := by decide +kernel
theorem dq_J3_checkIndex_8e157_6 : decode cJ3_checkIndex_8e157 6 = .ok (.if_icmp .lt 10, 3) := by decide +kernel
theorem dq_J3_checkIndex_8e157_9 : decode cJ3_checkIndex_8e157 9 = .ok (.aload_n 2, 1) := by decide +kernel
theorem dq_J3_checkIndex_8e157_10 : decode cJ3_checkIndex_8e157 10 = .ok (.iload_n 0, 1) := by decide +kernel
theorem dq_J3_checkIndex_8e157_11 : decode cJ3_checkIndex_8e157 11 = .ok (.iload_n 1, 1) := by decide +kernel
theorem dq_J3_checkIndex_8e157_12 : decode cJ3_checkIndex_8e157 12 = .ok (.invokestatic 95, 3) := by decide +kernel
theorem dq_J3_checkIndex_8e157_15 : decode cJ3_checkIndex_8e157 15 = .ok (.athrow, 1) := by decide +kernel
theorem dq_J3_checkIndex_8e157_16 : decode cJ3_checkIndex_8e157 16 = .ok (.iload_n 0, 1) := by decide +kernel
theorem dq_J3_checkIndex_8e157_17 : decode cJ3_checkIndex_8e157 17 = .ok (.ireturn, 1) := by decide +kernel
theorem dq_J0_checkIndex_df160_0 : decode cJ0_checkIndex_df160 0 = .ok (.iload_n 0, 1) := by decide +kernel
theorem dq_J0_checkIndex_df160_1 : decode cJ0_checkIndex_df160 1 = .ok (.iload_n 1, 1) := by decide +kernel
theorem dq_J0_checkIndex_df160_2 : decode cJ0_checkIndex_df160 2 = .ok (.getstatic 1053, 3) := by decide +kernel
theorem dq_J0_checkIndex_df160_5 : decode cJ0_checkIndex_df160 5 = .ok (.invokestatic 1059, 3) := by decide +kernel
theorem dq_J0_checkIndex_df160_8 : decode cJ0_checkIndex_df160 8 = .ok (.pop, 1) := by decide +kernel
theorem dq_J0_checkIndex_df160_9 : decode cJ0_checkIndex_df160 9 = .ok (.return_, 1) := by decide +kernel
theorem dq_J1_charAt_3b067_0 : decode cJ1_charAt_3b067 0 = .ok (.iload_n 1, 1) := by decide +kernel
theorem dq_J1_charAt_3b067_1 : decode cJ1_charAt_3b067 1 = .ok (.aload_n 0, 1) := by decide +kernel
theorem dq_J1_charAt_3b067_2 : decode cJ1_charAt_3b067 2 = .ok (.arraylength, 1) := by decide +kernel
theorem dq_J1_charAt_3b067_3 : decode cJ1_charAt_3b067 3 = .ok (.invokestatic 9, 3) := by decide +kernel
theorem dq_J1_charAt_3b067_6 : decode cJ1_charAt_3b067 6 = .ok (.aload_n 0, 1) := by decide +kernel
theorem dq_J1_charAt_3b067_7 : decode cJ1_charAt_3b067 7 = .ok (.iload_n 1, 1) := by decide +kernel
theorem dq_J1_charAt_3b067_8 : decode cJ1_charAt_3b067 8 = .ok (.baload, 1) := by decide +kernel
theorem dq_J1_charAt_3b067_9 : decode cJ1_charAt_3b067 9 = .ok (.sipush 255, 3) := by decide +kernel
theorem dq_J1_charAt_3b067_12 : decode cJ1_charAt_3b067 12 = .ok (.iand, 1) := by decide +kernel
theorem dq_J1_charAt_3b067_13 : decode cJ1_charAt_3b067 13 = .ok (.i2c, 1) := by decide +kernel
theorem dq_J1_charAt_3b067_14 : decode cJ1_charAt_3b067 14 = .ok (.ireturn, 1) := by decide +kernel
theorem dq_J0_charAt_5068e_0 : decode cJ0_charAt_5068e 0 = .ok (.aload_n 0, 1) := by decide +kernel
theorem dq_J0_charAt_5068e_1 : decode cJ0_charAt_5068e 1 = .ok (.invokevirtual 492, 3) := by decide +kernel
theorem dq_J0_charAt_5068e_4 : decode cJ0_charAt_5068e 4 = .ok (.ifCond .eq 12, 3) := by decide +kernel
theorem dq_J0_charAt_5068e_7 : decode cJ0_charAt_5068e 7 = .ok (.aload_n 0, 1) := by decide +kernel
theorem dq_J0_charAt_5068e_8 : decode cJ0_charAt_5068e 8 = .ok (.getfield 9, 3) := by decide +kernel
theorem dq_J0_charAt_5068e_11 : decode cJ0_charAt_5068e 11 = .ok (.iload_n 1, 1) := by decide +kernel
theorem dq_J0_charAt_5068e_12 : decode cJ0_charAt_5068e 12 = .ok (.invokestatic 495, 3) := by decide +kernel
theorem dq_J0_charAt_5068e_15 : decode cJ0_charAt_5068e 15 = .ok (.ireturn, 1) := by decide +kernel
theorem dq_J0_charAt_5068e_16 : decode cJ0_charAt_5068e 16 = .ok (.aload_n 0, 1) := by decide +kernel
theorem dq_J0_charAt_5068e_17 : decode cJ0_charAt_5068e 17 = .ok (.getfield 9, 3) := by decide +kernel
theorem dq_J0_charAt_5068e_20 : decode cJ0_charAt_5068e 20 = .ok (.iload_n 1, 1) := by decide +kernel
theorem dq_J0_charAt_5068e_21 : decode cJ0_charAt_5068e 21 = .ok (.invokestatic 498, 3) := by decide +kernel
theorem dq_J0_charAt_5068e_24 : decode cJ0_charAt_5068e 24 = .ok (.ireturn, 1) := by decide +kernel
def mj_lo (D : mj_D) (H : Heap) : Prop := ∀ q : Nat, q < mj_b D → H[q]? = (mj_H0 D)[q]?
/-- what the start says of a text -/
def mj_tx (D : mj_D) (j : Nat) (tx : List Char) : Prop := ∃ av : Nat, va_O "java/lang/String" (mj_sK D j) (mj_A D) (mj_s0 D) (mj_H0 D) ∧ va_OF "java/lang/String" "coder" "B" (.int 0) (mj_sK D j) (mj_A D) (mj_s0 D) (mj_H0 D) ∧ va_OF "java/lang/String" "value" "[B" (.ref av) (mj_sK D j) (mj_A D) (mj_s0 D) (mj_H0 D) ∧ va_T .byte av tx.length (fun k => .int (nI (tx.getD k 'a').toNat)) (mj_A D) (mj_s0 D) (mj_H0 D)
def mj_cs (D : mj_D) : Prop := va_Z "java/lang/String" "COMPACT_STRINGS" "Z" (.int 1) (mj_A D) (mj_s0 D) (mj_H0 D) ∧ va_Zq "jdk/internal/util/Preconditions" "SIOOBE_FORMATTER" "Ljava/util/function/BiFunction;" (mj_A D) (mj_s0 D) (mj_H0 D)
def jk_Pc (D : mj_D) (As : List Value) : Array Value → State → Prop := va_Pc As (fun U => mj_St D U ∧ mj_lo D U.heap)
def jk_Qc (v : Option Value) : Array Value → State → Outcome → State → Prop := fun _ st o t => o = .returned v ∧ t.heap = st.heap
def jk_Met (D : mj_D) (l : Launch) (y : MethodName) (cc : ByteArray) (mx : Nat) (rt : Option FieldType) (As : List Value) (v : Option Value) (d : Nat) : Prop := Met l y [Cond.code y cc mx rt] { frames := d, cells := 0, slots := 0, locals := 38 * d } (jk_Pc D As) (jk_Qc v) 0 0 (mj_A D)
section JK
variable {D : mj_D} {p : Program} {l : Launch} {e : Env} {R : Room} {s : State} {m : MethodId} {args : Array Value} {below : List Frame} {meth : Method} {c : Code} {Q : State → Prop} {H : Heap} {locs : List Loc} {cells slots pc : Nat} {ls : Array Slot} {rest : List Value}
theorem jk_q (hlo : mj_lo D H) : ∀ a : Nat, a < (mj_H0 D).size → ¬ mj_A D a → H[a]? = (mj_H0 D)[a]? := fun a _ h => hlo a (Nat.not_le.mp h)
theorem jk_tx {j : Nat} {tx : List Char} (hSt : mj_St D s) (hlo : mj_lo D H) (h : mj_tx D j tx) : ∃ av : Nat, va_O "java/lang/String" (mj_sK D j) (mj_A D) s H ∧ va_OF "java/lang/String" "coder" "B" (.int 0) (mj_sK D j) (mj_A D) s H ∧ va_OF "java/lang/String" "value" "[B" (.ref av) (mj_sK D j) (mj_A D) s H ∧ va_T .byte av tx.length (fun k => .int (nI (tx.getD k 'a').toNat)) (mj_A D) s H := by
  obtain ⟨av, h1, h2, h3, h4⟩ := h
  have hW := hSt.2.2.2.2.2.2.2.2.2.alike
  exact ⟨av, (va_O.moved hW h1).kept (jk_q hlo), (va_OF.moved hW h2).kept (jk_q hlo), (va_OF.moved hW h3).kept (jk_q hlo), (va_T.moved hW h4).kept (jk_q hlo)⟩
theorem jk_call (hSt : mj_St D s) {y : MethodName} {cc : ByteArray} {mx d n : Nat} {rt : Option FieldType} (hf : d + 1 ≤ R.frames) (hl : 38 * (d + 1) ≤ R.locals) (hm : mx ≤ 19) (hcw : Cond.code y cc mx rt ∈ lw_tbl) (hiw : Cond.initialized y.cls ∈ lw_tbl) (hh : y.cls ≠ "java/lang/invoke/MethodHandle" ∧ y.cls ≠ "java/lang/invoke/VarHandle") (hn : ∀ sig, parseMethodDescriptor y.desc = some sig → n = sig.parameters.length) :
    (0 : Nat) = 0 ∧ (0 : Nat) = 0 ∧ d + 1 ≤ R.frames ∧ 8 + (mx + 11) + 38 * d ≤ R.locals ∧ (∀ w ∈ [Cond.code y cc mx rt], ∀ (a' : Array Value) (U : State), s.WarmedH U.vm → w.before a' U = true) ∧ Cond.code y cc mx rt ∈ [Cond.code y cc mx rt] ∧
    (Cond.code y cc mx rt).before args s = true ∧ (Cond.initialized y.cls).before args s = true ∧ (y.cls ≠ "java/lang/invoke/MethodHandle" ∧ y.cls ≠ "java/lang/invoke/VarHandle") ∧ (∀ sig, parseMethodDescriptor y.desc = some sig → n = sig.parameters.length) := by
  refine ⟨rfl, rfl, hf, by omega, fun w hw a' U hW => ?_, List.mem_singleton.mpr rfl, hSt.use hcw rfl rfl, hSt.use hiw rfl rfl, hh, hn⟩
  rw [List.mem_singleton.mp hw]
  exact (hSt.warm hW).use hcw rfl rfl
theorem jk_blind (As : List Value) : FrameBlind (jk_Pc D As) := fun a U g mk q => ⟨q.1, q.2.1.warm (U := U.calling g mk a) (State.WarmedH.refl U), q.2.2⟩
/-- a static call -/
theorem jk_callS {own : String} {y : MethodName} {cc bt : ByteArray} {mx d n i : Nat} {rt : Option FieldType} {As : List Value} {v : Option Value} (hx : p.tables.exec = Jvm.exec) (hb : c.code = bt) (hls : c.maxLocals = ls.size) (hown : s.vm.findClass own = some m.cls) (hSt : mj_St D s) (hlo : mj_lo D H) (hM : jk_Met D l y cc mx rt As v d) (hlk : Cond.methodLink own i y ∈ lw_tbl) (hstt : Cond.static y ∈ lw_tbl) (hf : d + 1 ≤ R.frames) (hl : 38 * (d + 1) ≤ R.locals) (hm : mx ≤ 19) (hcw : Cond.code y cc mx rt ∈ lw_tbl) (hiw : Cond.initialized y.cls ∈ lw_tbl) (hh : y.cls ≠ "java/lang/invoke/MethodHandle" ∧ y.cls ≠ "java/lang/invoke/VarHandle") (hn : ∀ sig, parseMethodDescriptor y.desc = some sig → n = sig.parameters.length) (hAn : As.length = n) (hcat : (rest.map Value.category).sum ≤ 8) (hcel : cells ≤ R.cells) (hslo : slots ≤ R.slots) (hd : decode bt pc = .ok (.invokestatic i, 3)) (hloc : ∀ q ∈ locs, mj_A D q.base)
    (k : ∀ locs, (∀ q ∈ locs, mj_A D q.base) → W p l e R s m args below meth c H locs cells slots Q (F0 m (pc + 3) ls (v.toList ++ rest))) : W p l e R s m args below meth c H locs cells slots Q (F0 m pc ls (As.reverse ++ rest)) := by
  have hpre : PreS s H (jk_Pc D As) As := ⟨jk_blind _, fun U hU hW => ⟨rfl, hSt.warm hW, by rw [hU]; exact hlo⟩⟩
  have cw := jk_call (args := args) (cc := cc) (rt := rt) hSt hf hl hm hcw hiw hh hn
  refine mj_ofRun (rest := rest) (Qa := jk_Qc v As.toArray) (free := mj_A D) (mc := 0) (ms := 0) ?_ (fun w st₀ t H1 L q0 q1 q2 q3 => ?_)
  · exact va_runS (Ts := []) (own := own) (n := n) ⟨hx, hb, rfl, hown, fun _ h => by cases h⟩ hM ⟨⟨cw.1, cw.2.1, cw.2.2.1, cw.2.2.2.1, cw.2.2.2.2.1, cw.2.2.2.2.2.1, cw.2.2.2.2.2.2.1, cw.2.2.2.2.2.2.2.1, cw.2.2.2.2.2.2.2.2.1, cw.2.2.2.2.2.2.2.2.2, hSt.use hlk rfl rfl⟩, hSt.use hstt rfl rfl⟩ hpre rfl hAn hls.symm rfl (lv_room hcat) hd ⟨hcel, hslo⟩
  · obtain ⟨e1, e2⟩ := q2
    cases e1
    have e3 : H1 = H := by rw [← q1, e2, q0]
    subst e3
    exact k _ (fun q hq => (List.mem_append.mp hq).elim (hloc q) (q3 q))
/-- a call of an instance method of String -/
theorem jk_callV {own : String} {y : MethodName} {cc bt : ByteArray} {mx d n i a : Nat} {rt : Option FieldType} {As : List Value} {v : Option Value} (hx : p.tables.exec = Jvm.exec) (hb : c.code = bt) (hls : c.maxLocals = ls.size) (hown : s.vm.findClass own = some m.cls) (hSt : mj_St D s) (hlo : mj_lo D H) (hO : va_O "java/lang/String" a (mj_A D) s H) (hM : jk_Met D l y cc mx rt (.ref a :: As) v d) (hlk : Cond.methodLink own i y ∈ lw_tbl) (hin : Cond.instanceMethod y ∈ lw_tbl) (hse : Cond.selects "java/lang/String" y y ∈ lw_tbl) (hf : d + 1 ≤ R.frames) (hl : 38 * (d + 1) ≤ R.locals) (hm : mx ≤ 19) (hcw : Cond.code y cc mx rt ∈ lw_tbl) (hiw : Cond.initialized y.cls ∈ lw_tbl) (hh : y.cls ≠ "java/lang/invoke/MethodHandle" ∧ y.cls ≠ "java/lang/invoke/VarHandle") (hn : ∀ sig, parseMethodDescriptor y.desc = some sig → n = sig.parameters.length) (hAn : As.length = n) (hcat : (rest.map Value.category).sum ≤ 8) (hcel : cells ≤ R.cells) (hslo : slots ≤ R.slots) (hd : decode bt pc = .ok (.invokevirtual i, 3)) (hloc : ∀ q ∈ locs, mj_A D q.base)
    (k : ∀ locs, (∀ q ∈ locs, mj_A D q.base) → W p l e R s m args below meth c H locs cells slots Q (F0 m (pc + 3) ls (v.toList ++ rest))) : W p l e R s m args below meth c H locs cells slots Q (F0 m pc ls (As.reverse ++ .ref a :: rest)) := by
  obtain ⟨cell, o1, o2, o3, -⟩ := hO
  have hpre : PreV s H "java/lang/String" a (jk_Pc D (.ref a :: As)) As := ⟨jk_blind _, ⟨cell, o1, o2, o3⟩, fun U hU hW => ⟨rfl, hSt.warm hW, by rw [hU]; exact hlo⟩⟩
  have cw := jk_call (args := args) (cc := cc) (rt := rt) hSt hf hl hm hcw hiw hh hn
  refine mj_ofRun (rest := rest) (Qa := jk_Qc v (Value.ref a :: As).toArray) (free := mj_A D) (mc := 0) (ms := 0) ?_ (fun w st₀ t H1 L q0 q1 q2 q3 => ?_)
  · exact va_runV (Ts := []) (C := "java/lang/String") (own := own) (n := n) ⟨hx, hb, rfl, hown, fun _ h => by cases h⟩ hM ⟨⟨cw.1, cw.2.1, cw.2.2.1, cw.2.2.2.1, cw.2.2.2.2.1, cw.2.2.2.2.2.1, cw.2.2.2.2.2.2.1, cw.2.2.2.2.2.2.2.1, cw.2.2.2.2.2.2.2.2.1, cw.2.2.2.2.2.2.2.2.2, hSt.use hlk rfl rfl⟩, hSt.use hin rfl rfl, hSt.use hse rfl rfl⟩ hpre rfl hAn hls.symm rfl (lv_room hcat) hd ⟨hcel, hslo⟩
  · obtain ⟨e1, e2⟩ := q2
    cases e1
    have e3 : H1 = H := by rw [← q1, e2, q0]
    subst e3
    exact k _ (fun q hq => (List.mem_append.mp hq).elim (hloc q) (q3 q))
end JK
theorem sh_0 {n : Nat} (_ : n < 2 ^ 31) : nI n >>> ((0 : Int32) &&& 31) = nI n := by
  apply Int32.toBitVec_inj.mp
  simp
section JS
variable {D : mj_D} {l : Launch} {j : Nat} {tx : List Char}
theorem jk_cod (d : Nat) (h0 : mj_tx D j tx) (hcs : mj_cs D) : jk_Met D l yJ0_coder_7d493 cJ0_coder_7d493 1 (some .byte) [.ref (mj_sK D j)] (some (.int 0)) d := by
  refine Met.ofW (cc := cJ0_coder_7d493) (maxL := 1) (ret := some .byte) (by decide) rfl ?_
  intro p e s m args below meth c s₁ B hml hv
  obtain ⟨rfl, hSt, hlo⟩ := hv
  have hx := B.exec
  have hb := B.bytes
  have hr := B.returns
  have hlocks := B.notSynchronized
  have hl := lv_entry ([.ref (mj_sK D j)]) (n := 1) (Nat.le_of_ble_eq_true rfl)
  rw [lg_entry_eq]
  generalize hlsq : (lg_sl ([.ref (mj_sK D j)]) ++ List.replicate (1 - (lg_sl ([.ref (mj_sK D j)])).length) Slot.unset).toArray = ls at hl ⊢
  clear hlsq
  have hown : s.vm.findClass RJ0 = some m.cls := findClass_of_methodNamed B.named
  obtain ⟨av, h1, h2, h3, h4⟩ := jk_tx hSt hlo h0
  have hZ := (va_Z.moved hSt.2.2.2.2.2.2.2.2.2.alike hcs.1).kept (jk_q hlo)
  have hl : lv_has ls 1 [(0, .ref (mj_sK D j))] := hl
  have hS : va_S (mj_A D) s.heap s.heap [] := va_S.rf
  refine va_gets hx hb hZ hS hown (hSt.use (w := .fieldLink RJ0 38 "java/lang/String" "COMPACT_STRINGS" "Z") (by decide +kernel) rfl rfl) (fun _ h => h) dq_J0_coder_7d493_0 ?_
  refine lv_if_eq hx hb dq_J0_coder_7d493_3 (tgt := 13) (by decide) (fun z => absurd z (by decide)) (fun _ => ?_)
  refine lv_aload_n hx hb dq_J0_coder_7d493_6 rfl (lv_at hl 0 rfl) ?_
  refine vk_getf hx hb h2 hS hown (hSt.use (w := .fieldLink RJ0 15 "java/lang/String" "coder" "B") (by decide +kernel) rfl rfl) (fun _ h => h) dq_J0_coder_7d493_7 ?_
  refine lv_goto hx hb dq_J0_coder_7d493_10 (tgt := 14) (by decide) ?_
  exact W.zret hx hb hr rfl (fun t ht _ => ⟨rfl, ht⟩) hS.2.2 dq_J0_coder_7d493_14
theorem jk_lat (d : Nat) (h0 : mj_tx D j tx) (hcs : mj_cs D) : jk_Met D l yJ0_isLatin1_aae02 cJ0_isLatin1_aae02 1 (some .boolean) [.ref (mj_sK D j)] (some (.int 1)) d := by
  refine Met.ofW (cc := cJ0_isLatin1_aae02) (maxL := 1) (ret := some .boolean) (by decide) rfl ?_
  intro p e s m args below meth c s₁ B hml hv
  obtain ⟨rfl, hSt, hlo⟩ := hv
  have hx := B.exec
  have hb := B.bytes
  have hr := B.returns
  have hlocks := B.notSynchronized
  have hl := lv_entry ([.ref (mj_sK D j)]) (n := 1) (Nat.le_of_ble_eq_true rfl)
  rw [lg_entry_eq]
  generalize hlsq : (lg_sl ([.ref (mj_sK D j)]) ++ List.replicate (1 - (lg_sl ([.ref (mj_sK D j)])).length) Slot.unset).toArray = ls at hl ⊢
  clear hlsq
  have hown : s.vm.findClass RJ0 = some m.cls := findClass_of_methodNamed B.named
  obtain ⟨av, h1, h2, h3, h4⟩ := jk_tx hSt hlo h0
  have hZ := (va_Z.moved hSt.2.2.2.2.2.2.2.2.2.alike hcs.1).kept (jk_q hlo)
  have hl : lv_has ls 1 [(0, .ref (mj_sK D j))] := hl
  have hS : va_S (mj_A D) s.heap s.heap [] := va_S.rf
  refine va_gets hx hb hZ hS hown (hSt.use (w := .fieldLink RJ0 38 "java/lang/String" "COMPACT_STRINGS" "Z") (by decide +kernel) rfl rfl) (fun _ h => h) dq_J0_isLatin1_aae02_0 ?_
  refine lv_if_eq hx hb dq_J0_isLatin1_aae02_3 (tgt := 17) (by decide) (fun z => absurd z (by decide)) (fun _ => ?_)
  refine lv_aload_n hx hb dq_J0_isLatin1_aae02_6 rfl (lv_at hl 0 rfl) ?_
  refine vk_getf hx hb h2 hS hown (hSt.use (w := .fieldLink RJ0 15 "java/lang/String" "coder" "B") (by decide +kernel) rfl rfl) (fun _ h => h) dq_J0_isLatin1_aae02_7 ?_
  refine lv_if_ne hx hb dq_J0_isLatin1_aae02_10 (tgt := 17) (by decide) (fun z => absurd rfl z) (fun _ => ?_)
  refine lv_iconst (v := 1) hx hb dq_J0_isLatin1_aae02_13 rfl ?_
  refine lv_goto hx hb dq_J0_isLatin1_aae02_14 (tgt := 18) (by decide) ?_
  exact W.zret hx hb hr rfl (fun t ht _ => ⟨rfl, ht⟩) hS.2.2 dq_J0_isLatin1_aae02_18
theorem jk_len (d : Nat) (h0 : mj_tx D j tx) (hcs : mj_cs D) (hL : tx.length < 2 ^ 31) : jk_Met D l yJ0_length_8abf5 cJ0_length_8abf5 1 (some .int) [.ref (mj_sK D j)] (some (.int (nI tx.length))) (d + 1) := by
  refine Met.ofW (cc := cJ0_length_8abf5) (maxL := 1) (ret := some .int) (by decide) rfl ?_
  intro p e s m args below meth c s₁ B hml hv
  obtain ⟨rfl, hSt, hlo⟩ := hv
  have hx := B.exec
  have hb := B.bytes
  have hr := B.returns
  have hlocks := B.notSynchronized
  have hl := lv_entry ([.ref (mj_sK D j)]) (n := 1) (Nat.le_of_ble_eq_true rfl)
  rw [lg_entry_eq]
  generalize hlsq : (lg_sl ([.ref (mj_sK D j)]) ++ List.replicate (1 - (lg_sl ([.ref (mj_sK D j)])).length) Slot.unset).toArray = ls at hl ⊢
  clear hlsq
  have hown : s.vm.findClass RJ0 = some m.cls := findClass_of_methodNamed B.named
  obtain ⟨av, h1, h2, h3, h4⟩ := jk_tx hSt hlo h0
  have hl : lv_has ls 1 [(0, .ref (mj_sK D j))] := hl
  have hS : va_S (mj_A D) s.heap s.heap [] := va_S.rf
  refine lv_aload_n hx hb dq_J0_length_8abf5_0 rfl (lv_at hl 0 rfl) ?_
  refine vk_getf hx hb h3 hS hown (hSt.use (w := .fieldLink RJ0 9 "java/lang/String" "value" "[B") (by decide +kernel) rfl rfl) (fun _ h => h) dq_J0_length_8abf5_1 ?_
  obtain ⟨cell, a1, a2, a3, a4, a5, a6, a7⟩ := h4
  refine W.alen (n := nI tx.length) hx hb a1 a2 a5 rfl rfl dq_J0_length_8abf5_4 ?_
  refine lv_aload_n hx hb dq_J0_length_8abf5_5 rfl (lv_at hl 0 rfl) ?_
  refine jk_callV (As := []) (n := 0) (d := d) (v := some (.int 0)) hx hb (hml.trans hl.1.symm) hown hSt hlo h1 (jk_cod d h0 hcs) (by decide +kernel) (by decide +kernel) (by decide +kernel) (Nat.le_refl _) (Nat.le_refl _) (by decide) (by decide +kernel) (by decide +kernel) (by decide) (by decide +kernel) rfl (Nat.le_of_ble_eq_true rfl) (Nat.zero_le _) (Nat.zero_le _) dq_J0_length_8abf5_6 hS.2.2 (fun locs hloc => ?_)
  refine lv_ishr hx hb dq_J0_length_8abf5_9 ?_
  have e1 : nI tx.length >>> ((0 : Int32) &&& 31) = nI tx.length := sh_0 hL
  rw [e1]
  exact W.zret hx hb hr rfl (fun t ht _ => ⟨rfl, ht⟩) hloc dq_J0_length_8abf5_10
theorem jk_chk3n (d : Nat) (k n t : Nat) (hk : k < n) (hn : n < 2 ^ 31) : jk_Met D l yJ3_checkIndex_8e157 cJ3_checkIndex_8e157 3 (some .int) [.int (nI k), .int (nI n), .null] (some (.int (nI k))) d := by
  refine Met.ofW (cc := cJ3_checkIndex_8e157) (maxL := 3) (ret := some .int) (by decide) rfl ?_
  intro p e s m args below meth c s₁ B hml hv
  obtain ⟨rfl, hSt, hlo⟩ := hv
  have hx := B.exec
  have hb := B.bytes
  have hr := B.returns
  have hlocks := B.notSynchronized
  have hl := lv_entry ([.int (nI k), .int (nI n), .null]) (n := 3) (Nat.le_of_ble_eq_true rfl)
  rw [lg_entry_eq]
  generalize hlsq : (lg_sl ([.int (nI k), .int (nI n), .null]) ++ List.replicate (3 - (lg_sl ([.int (nI k), .int (nI n), .null])).length) Slot.unset).toArray = ls at hl ⊢
  clear hlsq
  have hl := lv_sub (l' := [(0, .int (nI k)), (1, .int (nI n))]) hl [0, 1] rfl
  have hS : va_S (mj_A D) s.heap s.heap [] := va_S.rf
  refine lv_iload_n hx hb dq_J3_checkIndex_8e157_0 rfl (lv_at hl 0 rfl) ?_
  refine lv_if_lt hx hb dq_J3_checkIndex_8e157_1 (tgt := 9) (by decide) (fun z => absurd z (nI_pos (by omega))) (fun _ => ?_)
  refine lv_iload_n hx hb dq_J3_checkIndex_8e157_4 rfl (lv_at hl 0 rfl) ?_
  refine lv_iload_n hx hb dq_J3_checkIndex_8e157_5 rfl (lv_at hl 1 rfl) ?_
  refine lv_icmp_lt hx hb dq_J3_checkIndex_8e157_6 (tgt := 16) (by decide) (fun _ => ?_) (fun z => absurd (nI_lt hk hn) z)
  refine lv_iload_n hx hb dq_J3_checkIndex_8e157_16 rfl (lv_at hl 0 rfl) ?_
  exact W.zret hx hb hr rfl (fun t ht _ => ⟨rfl, ht⟩) hS.2.2 dq_J3_checkIndex_8e157_17
theorem jk_chk3r (d : Nat) (k n t : Nat) (hk : k < n) (hn : n < 2 ^ 31) : jk_Met D l yJ3_checkIndex_8e157 cJ3_checkIndex_8e157 3 (some .int) [.int (nI k), .int (nI n), .ref t] (some (.int (nI k))) d := by
  refine Met.ofW (cc := cJ3_checkIndex_8e157) (maxL := 3) (ret := some .int) (by decide) rfl ?_
  intro p e s m args below meth c s₁ B hml hv
  obtain ⟨rfl, hSt, hlo⟩ := hv
  have hx := B.exec
  have hb := B.bytes
  have hr := B.returns
  have hlocks := B.notSynchronized
  have hl := lv_entry ([.int (nI k), .int (nI n), .ref t]) (n := 3) (Nat.le_of_ble_eq_true rfl)
  rw [lg_entry_eq]
  generalize hlsq : (lg_sl ([.int (nI k), .int (nI n), .ref t]) ++ List.replicate (3 - (lg_sl ([.int (nI k), .int (nI n), .ref t])).length) Slot.unset).toArray = ls at hl ⊢
  clear hlsq
  have hl := lv_sub (l' := [(0, .int (nI k)), (1, .int (nI n))]) hl [0, 1] rfl
  have hS : va_S (mj_A D) s.heap s.heap [] := va_S.rf
  refine lv_iload_n hx hb dq_J3_checkIndex_8e157_0 rfl (lv_at hl 0 rfl) ?_
  refine lv_if_lt hx hb dq_J3_checkIndex_8e157_1 (tgt := 9) (by decide) (fun z => absurd z (nI_pos (by omega))) (fun _ => ?_)
  refine lv_iload_n hx hb dq_J3_checkIndex_8e157_4 rfl (lv_at hl 0 rfl) ?_
  refine lv_iload_n hx hb dq_J3_checkIndex_8e157_5 rfl (lv_at hl 1 rfl) ?_
  refine lv_icmp_lt hx hb dq_J3_checkIndex_8e157_6 (tgt := 16) (by decide) (fun _ => ?_) (fun z => absurd (nI_lt hk hn) z)
  refine lv_iload_n hx hb dq_J3_checkIndex_8e157_16 rfl (lv_at hl 0 rfl) ?_
  exact W.zret hx hb hr rfl (fun t ht _ => ⟨rfl, ht⟩) hS.2.2 dq_J3_checkIndex_8e157_17
theorem jk_chk3 (d : Nat) (k n : Nat) (f : Value) (hf : f = .null ∨ ∃ t, f = .ref t) (hk : k < n) (hn : n < 2 ^ 31) : jk_Met D l yJ3_checkIndex_8e157 cJ3_checkIndex_8e157 3 (some .int) [.int (nI k), .int (nI n), f] (some (.int (nI k))) d := by
  rcases hf with rfl | ⟨t, rfl⟩
  · exact jk_chk3n d k n 0 hk hn
  · exact jk_chk3r d k n t hk hn
theorem jk_chk (d : Nat) (k n : Nat) (hk : k < n) (hn : n < 2 ^ 31) (hcs : mj_cs D) : jk_Met D l yJ0_checkIndex_df160 cJ0_checkIndex_df160 2 none [.int (nI k), .int (nI n)] none (d + 1) := by
  refine Met.ofW (cc := cJ0_checkIndex_df160) (maxL := 2) (ret := none) (by decide) rfl ?_
  intro p e s m args below meth c s₁ B hml hv
  obtain ⟨rfl, hSt, hlo⟩ := hv
  have hx := B.exec
  have hb := B.bytes
  have hr := B.returns
  have hlocks := B.notSynchronized
  have hl := lv_entry ([.int (nI k), .int (nI n)]) (n := 2) (Nat.le_of_ble_eq_true rfl)
  rw [lg_entry_eq]
  generalize hlsq : (lg_sl ([.int (nI k), .int (nI n)]) ++ List.replicate (2 - (lg_sl ([.int (nI k), .int (nI n)])).length) Slot.unset).toArray = ls at hl ⊢
  clear hlsq
  have hown : s.vm.findClass RJ0 = some m.cls := findClass_of_methodNamed B.named
  have hl : lv_has ls 2 [(0, .int (nI k)), (1, .int (nI n))] := hl
  have hS : va_S (mj_A D) s.heap s.heap [] := va_S.rf
  have hZ : ∃ f : Value, (f = .null ∨ ∃ t, f = .ref t) ∧ va_Z "jdk/internal/util/Preconditions" "SIOOBE_FORMATTER" "Ljava/util/function/BiFunction;" f (mj_A D) s s.heap := by
    rcases hcs.2 with h | ⟨t, h⟩
    · exact ⟨.null, Or.inl rfl, (va_Z.moved hSt.2.2.2.2.2.2.2.2.2.alike h).kept (jk_q hlo)⟩
    · exact ⟨.ref t, Or.inr ⟨t, rfl⟩, (va_Z.moved hSt.2.2.2.2.2.2.2.2.2.alike h).kept (jk_q hlo)⟩
  obtain ⟨f, hf, hZ⟩ := hZ
  refine lv_iload_n hx hb dq_J0_checkIndex_df160_0 rfl (lv_at hl 0 rfl) ?_
  refine lv_iload_n hx hb dq_J0_checkIndex_df160_1 rfl (lv_at hl 1 rfl) ?_
  refine va_gets hx hb hZ hS hown (hSt.use (w := .fieldLink RJ0 1053 "jdk/internal/util/Preconditions" "SIOOBE_FORMATTER" "Ljava/util/function/BiFunction;") (by decide +kernel) rfl rfl) (fun _ h => h) dq_J0_checkIndex_df160_2 ?_
  refine jk_callS (As := [.int (nI k), .int (nI n), f]) (n := 3) (d := d) (v := some (.int (nI k))) (rest := []) hx hb (hml.trans hl.1.symm) hown hSt hlo (jk_chk3 d k n f hf hk hn) (by decide +kernel) (by decide +kernel) (Nat.le_refl _) (Nat.le_refl _) (by decide) (by decide +kernel) (by decide +kernel) (by decide) (by decide +kernel) rfl (by decide) (Nat.zero_le _) (Nat.zero_le _) dq_J0_checkIndex_df160_5 hS.2.2 (fun locs hloc => ?_)
  refine lv_pop hx hb dq_J0_checkIndex_df160_8 rfl ?_
  exact W.vret hx hb hr (fun t ht _ => ⟨rfl, ht⟩) hloc dq_J0_checkIndex_df160_9
theorem cq_128 : ∀ n, n < 128 → ((nI n &&& 255).toUInt32 % 65536).toInt32 = nI n ∧ narrow .char (.int (nI n)) = .int (nI n) := by decide +kernel
theorem jk_chr1 (d : Nat) (k av : Nat) (ch : Char) (hk : tx[k]? = some ch) (h8 : ch.toNat < 128) (hL : tx.length < 2 ^ 31) (hav : va_T .byte av tx.length (fun k => .int (nI (tx.getD k 'a').toNat)) (mj_A D) (mj_s0 D) (mj_H0 D)) (hcs : mj_cs D) : jk_Met D l yJ1_charAt_3b067 cJ1_charAt_3b067 2 (some .char) [.ref av, .int (nI k)] (some (.int (nI ch.toNat))) (d + 2) := by
  refine Met.ofW (cc := cJ1_charAt_3b067) (maxL := 2) (ret := some .char) (by decide) rfl ?_
  intro p e s m args below meth c s₁ B hml hv
  obtain ⟨rfl, hSt, hlo⟩ := hv
  have hx := B.exec
  have hb := B.bytes
  have hr := B.returns
  have hlocks := B.notSynchronized
  have hl := lv_entry ([.ref av, .int (nI k)]) (n := 2) (Nat.le_of_ble_eq_true rfl)
  rw [lg_entry_eq]
  generalize hlsq : (lg_sl ([.ref av, .int (nI k)]) ++ List.replicate (2 - (lg_sl ([.ref av, .int (nI k)])).length) Slot.unset).toArray = ls at hl ⊢
  clear hlsq
  have hown : s.vm.findClass RJ1 = some m.cls := findClass_of_methodNamed B.named
  have hl : lv_has ls 2 [(0, .ref av), (1, .int (nI k))] := hl
  have hS : va_S (mj_A D) s.heap s.heap [] := va_S.rf
  have hkl : k < tx.length := (List.getElem?_eq_some_iff.mp hk).1
  obtain ⟨cell, a1, a2, a3, a4, a5, a6, a7⟩ := (va_T.moved hSt.2.2.2.2.2.2.2.2.2.alike hav).kept (jk_q hlo)
  have hv : cell.slots[k]? = some (.int (nI ch.toNat)) := by
    rw [a6 k hkl]
    show some (Value.int (nI (tx.getD k 'a').toNat)) = _
    rw [List.getD_eq_getElem?_getD, hk]
    rfl
  refine lv_iload_n hx hb dq_J1_charAt_3b067_0 rfl (lv_at hl 1 rfl) ?_
  refine lv_aload_n hx hb dq_J1_charAt_3b067_1 rfl (lv_at hl 0 rfl) ?_
  refine W.alen (n := nI tx.length) hx hb a1 a2 a5 rfl rfl dq_J1_charAt_3b067_2 ?_
  refine jk_callS (As := [.int (nI k), .int (nI tx.length)]) (n := 2) (d := d + 1) (v := none) (rest := []) hx hb (hml.trans hl.1.symm) hown hSt hlo (jk_chk d k tx.length hkl hL hcs) (by decide +kernel) (by decide +kernel) (Nat.le_refl _) (Nat.le_refl _) (by decide) (by decide +kernel) (by decide +kernel) (by decide) (by decide +kernel) rfl (by decide) (Nat.zero_le _) (Nat.zero_le _) dq_J1_charAt_3b067_3 hS.2.2 (fun locs hloc => ?_)
  refine lv_aload_n hx hb dq_J1_charAt_3b067_6 rfl (lv_at hl 0 rfl) ?_
  refine lv_iload_n hx hb dq_J1_charAt_3b067_7 rfl (lv_at hl 1 rfl) ?_
  refine W.bald (v := .int (nI ch.toNat)) hx hb a1 a2 a3 (by rw [nI_clamp (by omega)]; rintro (z | z); exact nI_pos (by omega) z; omega) (by rw [nI_clamp (by omega)]; exact hv) rfl rfl dq_J1_charAt_3b067_8 ?_
  refine lv_sipush (v := 255) hx hb dq_J1_charAt_3b067_9 rfl ?_
  refine lv_iand hx hb dq_J1_charAt_3b067_12 ?_
  refine lv_i2c (v := nI ch.toNat) hx hb dq_J1_charAt_3b067_13 (cq_128 _ h8).1 ?_
  exact W.zret hx hb hr (cq_128 _ h8).2 (fun t ht _ => ⟨rfl, ht⟩) hloc dq_J1_charAt_3b067_14
theorem jk_chr (d : Nat) (k : Nat) (ch : Char) (hk : tx[k]? = some ch) (h8 : ch.toNat < 128) (hL : tx.length < 2 ^ 31) (h0 : mj_tx D j tx) (hcs : mj_cs D) : jk_Met D l yJ0_charAt_5068e cJ0_charAt_5068e 2 (some .char) [.ref (mj_sK D j), .int (nI k)] (some (.int (nI ch.toNat))) (d + 3) := by
  refine Met.ofW (cc := cJ0_charAt_5068e) (maxL := 2) (ret := some .char) (by decide) rfl ?_
  intro p e s m args below meth c s₁ B hml hv
  obtain ⟨rfl, hSt, hlo⟩ := hv
  have hx := B.exec
  have hb := B.bytes
  have hr := B.returns
  have hlocks := B.notSynchronized
  have hl := lv_entry ([.ref (mj_sK D j), .int (nI k)]) (n := 2) (Nat.le_of_ble_eq_true rfl)
  rw [lg_entry_eq]
  generalize hlsq : (lg_sl ([.ref (mj_sK D j), .int (nI k)]) ++ List.replicate (2 - (lg_sl ([.ref (mj_sK D j), .int (nI k)])).length) Slot.unset).toArray = ls at hl ⊢
  clear hlsq
  have hown : s.vm.findClass RJ0 = some m.cls := findClass_of_methodNamed B.named
  have hl : lv_has ls 2 [(0, .ref (mj_sK D j)), (1, .int (nI k))] := hl
  have hS : va_S (mj_A D) s.heap s.heap [] := va_S.rf
  have h0' := h0
  obtain ⟨av, b1, b2, b3, b4⟩ := h0'
  have hW := hSt.2.2.2.2.2.2.2.2.2.alike
  have h1 := (va_O.moved hW b1).kept (jk_q hlo)
  have h3 := (va_OF.moved hW b3).kept (jk_q hlo)
  refine lv_aload_n hx hb dq_J0_charAt_5068e_0 rfl (lv_at hl 0 rfl) ?_
  refine jk_callV (As := []) (n := 0) (d := d + 2) (v := some (.int 1)) (rest := []) hx hb (hml.trans hl.1.symm) hown hSt hlo h1 (jk_lat (d + 2) h0 hcs) (by decide +kernel) (by decide +kernel) (by decide +kernel) (Nat.le_refl _) (Nat.le_refl _) (by decide) (by decide +kernel) (by decide +kernel) (by decide) (by decide +kernel) rfl (by decide) (Nat.zero_le _) (Nat.zero_le _) dq_J0_charAt_5068e_1 hS.2.2 (fun locs hloc => ?_)
  have hS : va_S (mj_A D) s.heap s.heap locs := ⟨hS.1, hS.2.1, hloc⟩
  refine lv_if_eq hx hb dq_J0_charAt_5068e_4 (tgt := 16) (by decide) (fun z => absurd z (by decide)) (fun _ => ?_)
  refine lv_aload_n hx hb dq_J0_charAt_5068e_7 rfl (lv_at hl 0 rfl) ?_
  refine vk_getf hx hb h3 hS hown (hSt.use (w := .fieldLink RJ0 9 "java/lang/String" "value" "[B") (by decide +kernel) rfl rfl) (fun _ h => h) dq_J0_charAt_5068e_8 ?_
  refine lv_iload_n hx hb dq_J0_charAt_5068e_11 rfl (lv_at hl 1 rfl) ?_
  refine jk_callS (As := [.ref av, .int (nI k)]) (n := 2) (d := d + 2) (v := some (.int (nI ch.toNat))) (rest := []) hx hb (hml.trans hl.1.symm) hown hSt hlo (jk_chr1 d k av ch hk h8 hL b4 hcs) (by decide +kernel) (by decide +kernel) (Nat.le_refl _) (Nat.le_refl _) (by decide) (by decide +kernel) (by decide +kernel) (by decide) (by decide +kernel) rfl (by decide) (Nat.zero_le _) (Nat.zero_le _) dq_J0_charAt_5068e_12 hS.2.2 (fun locs hloc => ?_)
  exact W.zret hx hb hr (cq_128 _ h8).2 (fun t ht _ => ⟨rfl, ht⟩) hloc dq_J0_charAt_5068e_15
end JS
