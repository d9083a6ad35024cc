/-! the law's led, as a method; every builtin -/
def m_L_led_r0 : List mj_I := [(0, .aload_n 2, 1, .aload_n 2, 0), (1, .iconst 0, 1, .iconst 0, 0), (2, .aload_n 0, 1, .aload_n 0, 0), (3, .iload_n 1, 1, .iload_n 1, 0), (4, .invokevirtual 32808, 3, .invokevirtual 7, 1132), (7, .i2l, 1, .i2l, 0), (8, .lastore, 1, .lastore, 0), (9, .goto 6, 3, .goto 6, 0), (15, .iconst 0, 1, .iconst 0, 0), (16, .ireturn, 1, .ireturn, 0)]
def m_L_led : mj_M := (yL_led, cL_led, 4, (some .int), [m_L_led_r0])
theorem ok_L_led : mj_okM m_L_led = true := by decide +kernel
def wd_led : List Cond := [Cond.codeWith yL_led cL_led 4 (some .int) [(0, 9, 12, 13)]]
theorem wd_led_in : Cond.codeWith yL_led cL_led 4 (some .int) [(0, 9, 12, 13)] ∈ lw_tbl := by decide +kernel
theorem wd_led_st : Cond.static yL_led ∈ lw_tbl := by decide +kernel
theorem wd_led_ini : Cond.initialized yL_led.cls ∈ lw_tbl := by decide +kernel
theorem dl_12 : decode cL_led 12 = .ok (.astore_n 3, 1) := by decide +kernel
theorem dl_13 : decode cL_led 13 = .ok (.iconst 1, 1) := by decide +kernel
theorem dl_14 : decode cL_led 14 = .ok (.ireturn, 1) := by decide +kernel
theorem dl_4 : decode cL_led 4 = .ok (.invokevirtual 7, 3) := by decide +kernel
/-- a method with a table of handlers -/
theorem mj_ofWH {l : Launch} {y : MethodName} {ws ws' : List Cond} {rm : Room} {Pc : Array Value → State → Prop} {Qc : Array Value → State → Outcome → State → Prop} {mc ms : Nat} {free : Addr → Prop} {cc : ByteArray} {maxL : Nat} {ret : Option FieldType} {hh : List (Nat × Nat × Nat × Nat)}
    (hy : plainName y.cls = true) (hw : ws = Cond.codeWith y cc maxL ret hh :: ws')
    (body : ∀ p e s m args below meth c s₁, BodyLoose p l y (headSpec ws rm) cc maxL ret e s m args below meth c s₁ → c.maxLocals = maxL → Pc args s →
      W p l e (headSpec ws rm).room s m args below meth c s.heap [] 0 0 (MQ below Qc args s mc ms free) (entryFrame m args maxL)) : Met l y ws rm Pc Qc mc ms free := by
  refine MetFree.of_bodyS (code := cc) (maxLocals := maxL) (ret := ret) hy ?_ ?_
  · intro args s m h hn
    obtain ⟨m9, meth, c, hn9, h1, h2, h3, h4, -, h5, h6, -⟩ := Cond.codeWith_spec (atoms_spec (ws := ws) h _ (by rw [hw]; exact List.mem_cons_self))
    cases hn.symm.trans hn9
    exact ⟨meth, c, h1, h2, h3, h4, h5, h6⟩
  · intro p e s m args below meth c s₁ B hml hP _
    have hh0 : s₁.heap = s.heap := by rw [B.state]; rfl
    obtain ⟨t, a1, o, b1, b2, b3⟩ := body p e s m args below meth c s₁ B hml hP s₁ hh0 (Stand.of_body B)
    exact ⟨t, o, a1, b1, b2, ⟨b3.1, b3.2⟩⟩
section BK
variable {D : mj_D} {l : Launch} {d : Nat}
/-- led finds a man -/
theorem led_goF {sta : mj_S} {Cl : mj_R} {x o n : Nat} {i y : Int32} {f : Nat → Int64} {h h1 : mj_H} {fs : List Value} (hx : mj_nth h.1 x = some (.inr (8, fs))) (hC : Cl 128 [.ref x, .int i] h (some (.int y)) h1) (ho : mj_nth h1.1 o = some (.inl (1, n + 1, .inr (.inl f)))) :
    mj_go sta Cl m_L_led (mj_ret m_L_led (some (.int 0)) (h1.1.set o (.inl (1, n + 1, .inr (.inl (vp_updL f 0 y.toInt64)))), h1.2)) 0 (mj_e0 4 [.ref x, .int i, .ref o]) [] h := by
  refine mj_go.nx (e := (0, .aload_n 2, 1, .aload_n 2, 0)) rfl rfl ?_
  refine mj_go.nx (e := (1, .iconst 0, 1, .iconst 0, 0)) rfl rfl ?_
  refine mj_go.nx (e := (2, .aload_n 0, 1, .aload_n 0, 0)) rfl rfl ?_
  refine mj_go.nx (e := (3, .iload_n 1, 1, .iload_n 1, 0)) rfl rfl ?_
  refine mj_go.call (e := (4, .invokevirtual 32808, 3, .invokevirtual 7, 1132)) (c := 32808) (v := some (.int y)) (h' := h1) rfl rfl (Nat.le_of_ble_eq_true rfl) (Or.inr ⟨x, [.int i], fs, rfl, hx⟩) (Nat.le_of_ble_eq_true rfl) hC ?_
  refine mj_go.nx (e := (7, .i2l, 1, .i2l, 0)) rfl rfl ?_
  refine mj_go.nx (e := (8, .lastore, 1, .lastore, 0)) (pc' := 9) (lv' := mj_e0 4 [.ref x, .int i, .ref o]) (st' := []) (h' := (h1.1.set o (.inl (1, n + 1, .inr (.inl (vp_updL f 0 y.toInt64)))), h1.2)) rfl ?_ ?_
  · show mj_nx sta .lastore 1 8 (mj_e0 4 [.ref x, .int i, .ref o]) [.long y.toInt64, .int (Int32.ofInt 0), .ref o] h1 = _
    simp only [mj_nx, ho]
    rw [if_neg (by
      rintro (z | z)
      · exact absurd z (by decide)
      · have : (Int32.ofInt 0).toNatClampNeg = 0 := by decide
        omega)]
    rfl
  refine mj_go.nx (e := (9, .goto 6, 3, .goto 6, 0)) rfl rfl ?_
  refine mj_go.nx (e := (15, .iconst 0, 1, .iconst 0, 0)) rfl rfl ?_
  exact mj_go.here ⟨rfl, (16, .ireturn, 1, .ireturn, 0), rfl, 0, .int, rfl, rfl, rfl, rfl⟩
/-- the law's led where a man is found -/
theorem led_F (hH : ∀ mid M, 4 ≤ mid → mj_nth mj_ms mid = some M → mid ≠ 285 → mid ≠ 282 → mid ≠ 283 → mj_hd M) (IH : ∀ d', d = d' + 1 → mj_Met D l d' ∧ mj_HB D l d') {x o : Nat} {i : Int32} {h h' : mj_H} (hg : mj_go (mj_sta D) (mj_Cl (mj_sta D) d) m_L_led (mj_ret m_L_led (some (.int 0)) h') 0 (mj_e0 4 [.ref x, .int i, .ref o]) [] h) (hSB : h'.1.length ≤ mj_SB) :
    Met l yL_led wd_led (mj_rm d h h') (mj_Pc D [.ref x, .int i, .ref o] h) (mj_Qc D (some (.int 0)) h') (h'.1.length - h.1.length) (h'.2 - h.2) (mj_A D) := by
  refine mj_ofWH (cc := cL_led) (maxL := 4) (ret := some .int) (by decide) rfl ?_
  intro p e s m args below meth c s₁ B hml hv
  obtain ⟨rfl, hSt, hhp⟩ := hv
  have hown : s.vm.findClass (mj_nm m_L_led).cls = some m.cls := findClass_of_methodNamed B.named
  have hnm : meth.name = (mj_nm m_L_led).name := (name_of_methodNamed B.named B.method).1
  have hlocks := B.notSynchronized
  have hr := B.returns
  have C : mj_Cx D m_L_led p (headSpec wd_led (mj_rm d h h')).room s m meth c h.1.length h.2 h'.1.length h'.2 := ⟨B.exec, B.bytes, hml, hown, hnm, hSt, rfl, rfl, hSB, by rw [hhp.1]; exact Nat.le_add_right _ _, hhp.2.1⟩
  have key := mj_body (e := e) (args := ([Value.ref x, .int i, .ref o].map (mj_cv D)).toArray) (below := below) (Q := MQ below (mj_Qc D (some (.int 0)) h') ([Value.ref x, .int i, .ref o].map (mj_cv D)).toArray s (h'.1.length - h.1.length) (h'.2 - h.2) (mj_A D)) ok_L_led hH IH C rfl rfl (T := mj_ret m_L_led (some (.int 0)) h') (fun pc lv st hh ht => ?_) hg
  · have w := key.2.2 s.heap [] _ hhp va_S.rf (mj_entry [.ref x, .int i, .ref o] (Nat.le_of_ble_eq_true rfl)) (Nat.le_refl _) (Nat.le_refl _)
    rw [Nat.sub_self, Nat.sub_self] at w
    rw [lg_entry_eq]
    exact w
  · obtain ⟨rfl, z, hz, hi⟩ := ht
    obtain ⟨rfl, hkk⟩ := mj_ent_ok ok_L_led hz
    unfold mj_okE at hkk
    simp only [Bool.and_eq_true] at hkk
    obtain ⟨⟨hl, -⟩, hd0, hko⟩ := hkk
    have hd := of_decide_eq_true hd0
    clear hd0
    obtain ⟨pc, ii, len, raw, wp⟩ := z
    dsimp only at hl hd hko hi ⊢
    refine ⟨Nat.le_refl _, Nat.le_refl _, fun H locs ls a1 a2 a3 a4 a5 => ?_⟩
    cases ii <;> simp only at hi
    case return_ => exact absurd hi.2.1 (fun q => by cases q)
    case ireturn =>
      have e1 : raw = _ := of_decide_eq_true (by simpa only [mj_ok] using hko); subst e1
      have e2 : len = 1 := Nat.eq_of_beq_eq_true hl; subst e2
      obtain ⟨z, ty, r1, r2, r3, r4⟩ := hi
      subst r1; cases r2
      exact W.zret B.exec B.bytes (hr.trans r3) r4 (fun t ht _ => ⟨rfl, by rw [ht]; exact a1⟩) a2.2.2 hd
    case lreturn =>
      obtain ⟨z, r1, r2, r3⟩ := hi
      cases r2
    case areturn =>
      obtain ⟨z, C', r1, r2, r3⟩ := hi
      cases r2
/-- the law's led where nobody is found: it catches -/
theorem led_N (hok : ∀ mid M, 4 ≤ mid → mj_nth mj_ms mid = some M → mj_okM M = true) (hH : ∀ mid M, 4 ≤ mid → mj_nth mj_ms mid = some M → mid ≠ 285 → mid ≠ 282 → mid ≠ 283 → mj_hd M) (hl : l.stackTraces = false) (hG : mj_G0 D) (h8 : 2 ≤ d) (IH1 : mj_Met D l d ∧ mj_HB D l d) (IH : ∀ d', d = d' + 1 → mj_Met D l d' ∧ mj_HB D l d') {x o : Nat} {i : Int32} {h h1 : mj_H} {fs : List Value} (hx : mj_nth h.1 x = some (.inr (8, fs)))
    (hg : mj_go (mj_sta D) (mj_Cl (mj_sta D) d) m_X8_led (fun pc _ st g => pc = 68 ∧ st = [] ∧ g = h1) 0 (mj_e0 (mj_mx m_X8_led) [.ref x, .int i]) [] h) (hSB : h1.1.length + 1 ≤ mj_SB) :
    Met l yL_led wd_led (mj_rm (d + 1) h (h1.1 ++ [.inr (99, [])], h1.2 + 6)) (mj_Pc D [.ref x, .int i, .ref o] h) (mj_Qc D (some (.int 1)) (h1.1 ++ [.inr (99, [])], h1.2 + 6)) ((h1.1 ++ [(.inr (99, []) : va_E)]).length - h.1.length) (h1.2 + 6 - h.2) (mj_A D) := by
  have hlen : (h1.1 ++ [(.inr (99, []) : va_E)]).length = h1.1.length + 1 := by simp
  have hle : h.1.length ≤ h1.1.length ∧ h.2 ≤ h1.2 := mj_go_le (mj_Cl_le d) (fun pc lv st h ht => by rw [ht.2.2]; exact ⟨Nat.le_refl _, Nat.le_refl _⟩) hg
  have hM := led_thr hok hH hl hG h8 IH hg hSB
  refine mj_ofWH (cc := cL_led) (maxL := 4) (ret := some .int) (by decide) rfl ?_
  intro p e s m args below meth c s₁ B hml hv
  obtain ⟨rfl, hSt, hhp⟩ := hv
  have hown : s.vm.findClass (mj_nm m_L_led).cls = some m.cls := findClass_of_methodNamed B.named
  have hnm : meth.name = (mj_nm m_L_led).name := (name_of_methodNamed B.named B.method).1
  have hlocks := B.notSynchronized
  have hr := B.returns
  have hxx := B.exec
  have hb := B.bytes
  have htab := vx_table (x := yL_led) B (hSt.use (w := Cond.codeWith yL_led cL_led 4 (some .int) [(0, 9, 12, 13)]) wd_led_in rfl rfl)
  have C : mj_Cx D m_L_led p (headSpec wd_led (mj_rm (d + 1) h (h1.1 ++ [.inr (99, [])], h1.2 + 6))).room s m meth c h.1.length h.2 (h1.1 ++ [(.inr (99, []) : va_E)]).length (h1.2 + 6) := ⟨B.exec, B.bytes, hml, hown, hnm, hSt, rfl, rfl, by rw [hlen]; exact hSB, by rw [hhp.1]; exact Nat.le_add_right _ _, hhp.2.1⟩
  have hgo : mj_go (mj_sta D) (mj_Cl (mj_sta D) (d + 1)) m_L_led (fun pc lv st g => pc = 4 ∧ lv = mj_e0 4 [.ref x, .int i, .ref o] ∧ st = [.int i, .ref x, .int 0, .ref o] ∧ g = h) 0 (mj_e0 4 [.ref x, .int i, .ref o]) [] h := by
    refine mj_go.nx (e := (0, .aload_n 2, 1, .aload_n 2, 0)) rfl rfl ?_
    refine mj_go.nx (e := (1, .iconst 0, 1, .iconst 0, 0)) rfl rfl ?_
    refine mj_go.nx (e := (2, .aload_n 0, 1, .aload_n 0, 0)) rfl rfl ?_
    refine mj_go.nx (e := (3, .iload_n 1, 1, .iload_n 1, 0)) rfl rfl ?_
    exact mj_go.here ⟨rfl, rfl, rfl, rfl⟩
  have key := mj_body (e := e) (args := ([Value.ref x, .int i, .ref o].map (mj_cv D)).toArray) (below := below) (Q := MQ below (mj_Qc D (some (.int 1)) (h1.1 ++ [.inr (99, [])], h1.2 + 6)) ([Value.ref x, .int i, .ref o].map (mj_cv D)).toArray s ((h1.1 ++ [(.inr (99, []) : va_E)]).length - h.1.length) (h1.2 + 6 - h.2) (mj_A D)) ok_L_led hH (fun d' e => by cases e; exact IH1) C rfl rfl (T := fun pc lv st g => pc = 4 ∧ lv = mj_e0 4 [.ref x, .int i, .ref o] ∧ st = [.int i, .ref x, .int 0, .ref o] ∧ g = h) (fun pc lv st hh ht => ?_) hgo
  · have w := key.2.2 s.heap [] _ hhp va_S.rf (mj_entry [.ref x, .int i, .ref o] (Nat.le_of_ble_eq_true rfl)) (Nat.le_refl _) (Nat.le_refl _)
    rw [Nat.sub_self, Nat.sub_self] at w
    rw [lg_entry_eq]
    exact w
  · obtain ⟨rfl, rfl, rfl, rfl⟩ := ht
    refine ⟨by rw [hlen]; omega, by omega, fun H locs ls a1 a2 a3 a4 a5 => ?_⟩
    rw [Nat.sub_self, Nat.sub_self]
    obtain ⟨r', g0, cell, g1, g2, g3, -⟩ := a1.2.2 x _ hx rfl
    have hq' : vwCl[8]? = some (RX8, TX8, 15) := rfl
    have hax : mj_ad D x = mj_b D + x := mj_ad_l (Nat.lt_of_lt_of_le (mj_nth_lt hx) (by omega))
    have hpre : PreV s H RX8 (mj_ad D x) (mj_Pc D [.ref x, .int i] hh) [.int i] := ⟨mj_blind _, ⟨cell, by rw [hax]; exact g1, by rw [g3]; rfl, by rw [g2]; exact (hSt.2.1 _ _ hq').2.1⟩, fun U hU hW => ⟨rfl, hSt.warm hW, by rw [hU]; exact a1⟩⟩
    have hhd := hH 128 m_X8_led (by decide) mj_led_no (by decide) (by decide) (by decide)
    have cw := mj_callB (R := (headSpec wd_led (mj_rm (d + 1) hh (h1.1 ++ [.inr (99, [])], h1.2 + 6))).room) (args := ([Value.ref x, .int i, .ref o].map (mj_cv D)).toArray) (M' := m_X8_led) (rt := some .int) (d := d) (h := hh) (h1 := (h1.1 ++ [.inr (99, [])], h1.2 + 6)) (n := 1) hSt rfl hhd rfl rfl (by decide +kernel)
    have hrun := vx_runV (p := p) (l := l) (e := e) (below := below) (meth := meth) (H := H) (locs := locs) (cells := 0) (slots := 0) (g := F0 m 4 ls [.int i, .ref (mj_ad D x), .int 0, .ref (mj_ad D o)]) (rest := [.int 0, .ref (mj_ad D o)]) (Ts := []) (C := RX8) (own := (mj_nm m_L_led).cls) (index := 7) (n := 1) ⟨hxx, hb, hml, hown, fun _ h => by cases h⟩ hM ⟨⟨cw.1, cw.2.1, cw.2.2.1, cw.2.2.2.1, cw.2.2.2.2.1, cw.2.2.2.2.2.1, cw.2.2.2.2.2.2.1, cw.2.2.2.2.2.2.2.1, cw.2.2.2.2.2.2.2.2.1, cw.2.2.2.2.2.2.2.2.2, hSt.use (w := .methodLink RL 7 yX8_led) (by decide +kernel) rfl rfl⟩, hSt.use (w := .instanceMethod yX8_led) (by decide +kernel) rfl rfl, hSt.use (w := .selects RX8 yX8_led yX8_led) (by decide +kernel) rfl rfl⟩ hpre rfl rfl a3.1 rfl (lv_room (Nat.le_of_ble_eq_true rfl)) dl_4 ⟨by rw [Nat.zero_add]; exact Nat.le_refl _, by rw [Nat.zero_add]; exact Nat.le_refl _⟩
    intro T hT X
    rcases hrun T hT X with ⟨v, st₀, t, T', L, h0, X', hL, e1, e2, hq, st⟩ | ⟨q, st₀, t, T', L, E, ce, h0, X', hL, e1, e2, ⟨hE, hp2⟩, hce, hcv, hcl, st⟩
    · exact hq.elim
    · subst hE
      have hW := hSt.2.2.2.2.2.2.2.2.2
      have hcast : (Cond.castable "java/util/NoSuchElementException" "java/util/NoSuchElementException").before ([Value.ref x, .int i, .ref o].map (mj_cv D)).toArray s = true := va_Nw.use rfl (va_Nw.warmC hW (hG.1 _ (by decide +kernel) rfl))
      have hcatch : vx_W p l e (headSpec wd_led (mj_rm (d + 1) hh (h1.1 ++ [.inr (99, [])], h1.2 + 6))).room s m ([Value.ref x, .int i, .ref o].map (mj_cv D)).toArray below meth c T'.heap (locs ++ L) (0 + ((h1.1 ++ [(.inr (99, []) : va_E)]).length - hh.1.length)) (0 + (h1.2 + 6 - hh.2)) (MQ below (mj_Qc D (some (.int 1)) (h1.1 ++ [.inr (99, [])], h1.2 + 6)) ([Value.ref x, .int i, .ref o].map (mj_cv D)).toArray s ((h1.1 ++ [(.inr (99, []) : va_E)]).length - hh.1.length) (h1.2 + 6 - hh.2) (mj_A D)) (F0 m 4 ls [.int 0, .ref (mj_ad D o)]) q := by
        refine vx_catch (own := RL) (name := "java/util/NoSuchElementException") (E := "java/util/NoSuchElementException") (ce := ce) hown [] ⟨0, 9, 12, 13⟩ [] htab (fun z hz => by cases hz) (by decide) (by decide) (hSt.use (w := .classLink RL 13 "java/util/NoSuchElementException") (by decide +kernel) rfl rfl) hcast (by rw [e1]; exact hce) hcv hcl ?_
        have hl3 : lv_has ls 4 [] := ⟨a3.1, a3.2.1, (fun q hq => by cases hq)⟩
        refine lv_astore_n hxx hb dl_12 rfl hl3 (by decide) rfl (fun ls' hl' => ?_)
        refine lv_iconst (v := 1) hxx hb dl_13 rfl ?_
        rw [Nat.zero_add, Nat.zero_add]
        exact W.zret hxx hb hr rfl (fun t9 ht9 _ => ⟨rfl, by rw [ht9, e1]; exact hp2⟩) (fun z hz => (List.mem_append.mp hz).elim (a2.2.2 z) (hL z)) dl_14
      obtain ⟨t2, b1, b2⟩ := hcatch T' rfl X'
      exact ⟨t2, st.trans b1, b2⟩
/-- every builtin -/
theorem hb_all (hok : ∀ mid M, 4 ≤ mid → mj_nth mj_ms mid = some M → mj_okM M = true) (hH : ∀ mid M, 4 ≤ mid → mj_nth mj_ms mid = some M → mid ≠ 285 → mid ≠ 282 → mid ≠ 283 → mj_hd M) (hl : l.stackTraces = false) (hG : mj_G0 D) (IH : ∀ d', d' < d → mj_Met D l d' ∧ mj_HB D l d') : mj_HB D l d := by
  intro M p e R s m args below meth c Q n0 s0 Lx Sx pc lv as r h h1 v mid i C hRf hRl z1 z2 hd hlk hb h38 hal hs k
  have hle : h.1.length ≤ h1.1.length ∧ h.2 ≤ h1.2 := mj_Cl_le (sta := mj_sta D) (d + 1) mid as h v h1 (Or.inl ⟨hb, h38⟩)
  rcases hb with ⟨rfl, -⟩ | ⟨rfl, j, q, rfl, hq, rfl, rfl⟩ | ⟨rfl, j, q, y, ch, rfl, hq, hy, rfl, rfl⟩ | ⟨rfl, hb⟩
  · omega
  · exact hb_len hG C hRf hRl hq hd hlk hs k
  · exact hb_chr hG C hRf hRl hq hy hd hlk hs k
  · have h8 := h38 rfl
    have hMet : ∃ x i o, as = [.ref x, .int i, .ref o] ∧ Met l yL_led wd_led (mj_rm d h h1) (mj_Pc D as h) (mj_Qc D v h1) (h1.1.length - h.1.length) (h1.2 - h.2) (mj_A D) := by
      rcases hb with ⟨x, o, i, rfl, ⟨fs, hfs⟩, hb⟩ | ⟨x, i, g1, rfl, -⟩
      · refine ⟨x, i, o, rfl, ?_⟩
        rcases hb with ⟨y, g1, n, f, hC, ho, rfl, rfl⟩ | ⟨hC, rfl⟩
        · exact led_F hH (fun d' e => IH d' (by omega)) (led_goF hfs hC ho) (Nat.le_trans k.1 C.2.2.2.2.2.2.2.2.1)
        · match d, h8, IH, hC with
          | d2 + 1, h8, IH, hC =>
            rcases hC with ⟨hb2, h9⟩ | ⟨M', h4, -⟩
            · rcases hb2 with ⟨q, -⟩ | ⟨q, -⟩ | ⟨q, -⟩ | ⟨-, hb2⟩
              · cases q
              · cases q
              · cases q
              · rcases hb2 with ⟨x', o', i', e1, -⟩ | ⟨x', i', g1, e1, hg, -, rfl⟩
                · cases e1
                · cases e1
                  have hsb : g1.1.length + 1 ≤ mj_SB := by
                    have q1 := k.1
                    have q2 := C.2.2.2.2.2.2.2.2.1
                    have q3 : (g1.1 ++ [(.inr (99, []) : va_E)]).length ≤ mj_SB := Nat.le_trans q1 q2
                    simpa using q3
                  exact led_N hok hH hl hG (by omega) (IH d2 (by omega)) (fun d' e => IH d' (by omega)) hfs hg hsb
            · omega
      · cases hal
    obtain ⟨x, i', o, rfl, hMet⟩ := hMet
    obtain ⟨hx, hbb, hml, hown, hnm, hSt, hRc, hRs, hLx, hb1, hb2⟩ := id C
    refine ⟨Nat.le_trans hle.1 k.1, Nat.le_trans hle.2 k.2.1, fun H locs ls a1 a2 a3 a4 a5 => ?_⟩
    have q1 := k.1
    have q2 := k.2.1
    have hpre : PreS s H (mj_Pc D [.ref x, .int i', .ref o] h) ([Value.ref x, .int i', .ref o].map (mj_cv D)) := ⟨mj_blind _, fun U hU hW => ⟨rfl, hSt.warm hW, by rw [hU]; exact a1⟩⟩
    have hstk : (([Value.ref x, .int i', .ref o].reverse ++ r).map (mj_cv D)) = ([Value.ref x, .int i', .ref o].map (mj_cv D)).reverse ++ r.map (mj_cv D) := by
      rw [List.map_append, List.map_reverse]
    rw [hstk]
    refine mj_ofRun (rest := r.map (mj_cv D)) (Qa := mj_Qc D v h1 ([Value.ref x, .int i', .ref o].map (mj_cv D)).toArray) (free := mj_A D) ?_ (fun w st₀ t H1 L p0 p1 p2 p3 => mj_behind C hle a1 a2 a3 a4 a5 k w H1 L p2.1 (by rw [← p1]; exact p2.2) p3)
    refine vx_runSW (Ts := []) (own := (mj_nm M).cls) (index := i) (n := 3) (hh := [(0, 9, 12, 13)]) (bytes := cL_led) (maxL := 4) (ret := some .int) ⟨hx, hbb, hml, hown, fun _ h => by cases h⟩ hMet ⟨⟨rfl, rfl, ?_, ?_, fun w hw a' U hW => ?_, List.mem_singleton.mpr rfl⟩, hSt.use wd_led_in rfl rfl, hSt.use wd_led_ini rfl rfl, ⟨by decide, by decide⟩, ?_, hSt.use hlk rfl rfl, hSt.use wd_led_st rfl rfl⟩ hpre rfl rfl a3.1 rfl (lv_room (by rw [mj_catsum]; exact hs)) hd ?_
    · show d + 4 + 1 ≤ R.frames
      omega
    · show 8 + (4 + 11) + 38 * (d + 4) ≤ R.locals
      omega
    · rw [List.mem_singleton.mp hw]
      exact (hSt.warm hW).use wd_led_in rfl rfl
    · intro sig hsig
      have : (parseMethodDescriptor yL_led.desc).map (fun d => d.parameters.length) = some 3 := by decide +kernel
      rw [hsig] at this
      exact (Option.some.inj this).symm
    · rw [hRc, hRs]
      omega
end BK
