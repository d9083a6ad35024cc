/-! the builtins: String.length, String.charAt, the law's led -/
def mj_G0 (D : mj_D) : Prop := (∀ w ∈ lw_tbl, w.onTables = true → va_Nw w (mj_s0 D)) ∧ mj_cs D ∧ (∀ (j : Nat) (r : String × Nat × String), mj_nth mj_str j = some r → mj_tx D j r.2.2.toList) ∧ vx_Zq Bundle.tN "UNASSIGNED_STACK" Bundle.steD (mj_A D) (mj_s0 D) (mj_H0 D) ∧ vx_Zq Bundle.tN "SUPPRESSED_SENTINEL" Bundle.listD (mj_A D) (mj_s0 D) (mj_H0 D) ∧ ∃ sa : Nat, vk_R RX8 393 "no such man goes" sa (mj_s0 D)
theorem str_ok : mj_str.all (fun r => decide (r.2.2.toList.length < 2 ^ 31) && r.2.2.toList.all (fun ch => decide (ch.toNat < 128))) = true := by decide +kernel
theorem str_at {j : Nat} {r : String × Nat × String} (h : mj_nth mj_str j = some r) : r.2.2.toList.length < 2 ^ 31 ∧ ∀ ch ∈ r.2.2.toList, ch.toNat < 128 := by
  have h1 := List.all_eq_true.mp str_ok r (mj_nth_mem h)
  simp only [Bool.and_eq_true, decide_eq_true_eq, List.all_eq_true] at h1
  exact h1
section BB
variable {D : mj_D} {M : mj_M} {p : Program} {l : Launch} {e : Env} {R : Room} {s : State} {m : MethodId} {args : Array Value} {below : List Frame} {meth : Method} {c : Code} {Q : State → Prop} {n0 s0 Lx Sx d : Nat}
variable {pc : Nat} {lv : mj_L} {r : List Value} {h : mj_H}
theorem hb_len (hG : mj_G0 D) (C : mj_Cx D M p R s m meth c n0 s0 Lx Sx) (hRf : R.frames = d + 1 + 4) (hRl : R.locals = 38 * (d + 1 + 4)) {i j : Nat} {q : String × Nat × String} (hq : mj_nth mj_str j = some q) (hd : decode (mj_bt M) pc = .ok (.invokevirtual i, 3)) (hlk : Cond.methodLink (mj_nm M).cls i yJ0_length_8abf5 ∈ lw_tbl) (hs : (r.map Value.category).sum ≤ 8)
    (k : mj_P D M p l e R s m args below meth c Q n0 s0 Lx Sx (pc + 3) lv (.int (Int32.ofNat q.2.2.toList.length) :: r) h) : mj_P D M p l e R s m args below meth c Q n0 s0 Lx Sx pc lv (.ref (mj_SB + j) :: r) h := by
  refine ⟨k.1, k.2.1, fun H locs ls a1 a2 a3 a4 a5 => ?_⟩
  obtain ⟨hx, hb, hml, hown, hnm, hSt, hRc, hRs, hLx, hb1, hb2⟩ := id C
  have hx0 := hG.2.2.1 j q hq
  obtain ⟨av, h1, -⟩ := jk_tx (H := H) hSt a1.2.1 hx0
  have e1 : (Value.ref (mj_SB + j) :: r).map (mj_cv D) = [].reverse ++ .ref (mj_sK D j) :: r.map (mj_cv D) := by
    show Value.ref (mj_ad D (mj_SB + j)) :: r.map (mj_cv D) = _
    rw [mj_ad_s]
    rfl
  rw [e1]
  have k1 := k.1
  have k2 := k.2.1
  refine jk_callV (As := []) (n := 0) (d := 1) (v := some (.int (nI q.2.2.toList.length))) hx hb (hml.trans a3.1.symm) hown hSt a1.2.1 h1 (jk_len 0 hx0 hG.2.1 (str_at hq).1) hlk (by decide +kernel) (by decide +kernel) (by omega) (by omega) (by decide) (by decide +kernel) (by decide +kernel) (by decide) (by decide +kernel) rfl (by rw [mj_catsum]; exact hs) (by omega) (by omega) hd a2.2.2 (fun locs hloc => ?_)
  exact k.2.2 H locs ls a1 ⟨a2.1, a2.2.1, hloc⟩ a3 a4 a5
theorem hb_chr (hG : mj_G0 D) (C : mj_Cx D M p R s m meth c n0 s0 Lx Sx) (hRf : R.frames = d + 1 + 4) (hRl : R.locals = 38 * (d + 1 + 4)) {i j y : Nat} {ch : Char} {q : String × Nat × String} (hq : mj_nth mj_str j = some q) (hy : mj_nth q.2.2.toList y = some ch) (hd : decode (mj_bt M) pc = .ok (.invokevirtual i, 3)) (hlk : Cond.methodLink (mj_nm M).cls i yJ0_charAt_5068e ∈ lw_tbl) (hs : (r.map Value.category).sum ≤ 8)
    (k : mj_P D M p l e R s m args below meth c Q n0 s0 Lx Sx (pc + 3) lv (.int (Int32.ofNat ch.toNat) :: r) h) : mj_P D M p l e R s m args below meth c Q n0 s0 Lx Sx pc lv (.int (Int32.ofNat y) :: .ref (mj_SB + j) :: r) h := by
  refine ⟨k.1, k.2.1, fun H locs ls a1 a2 a3 a4 a5 => ?_⟩
  obtain ⟨hx, hb, hml, hown, hnm, hSt, hRc, hRs, hLx, hb1, hb2⟩ := id C
  have hx0 := hG.2.2.1 j q hq
  obtain ⟨av, h1, -⟩ := jk_tx (H := H) hSt a1.2.1 hx0
  have e1 : (Value.int (Int32.ofNat y) :: Value.ref (mj_SB + j) :: r).map (mj_cv D) = [Value.int (nI y)].reverse ++ .ref (mj_sK D j) :: r.map (mj_cv D) := by
    show Value.int (nI y) :: Value.ref (mj_ad D (mj_SB + j)) :: r.map (mj_cv D) = _
    rw [mj_ad_s]
    rfl
  rw [e1]
  have k1 := k.1
  have k2 := k.2.1
  refine jk_callV (As := [.int (nI y)]) (n := 1) (d := 3) (v := some (.int (nI ch.toNat))) hx hb (hml.trans a3.1.symm) hown hSt a1.2.1 h1 (jk_chr 0 y ch (by rw [← mj_nth_eq]; exact hy) ((str_at hq).2 ch (mj_nth_mem hy)) (str_at hq).1 hx0 hG.2.1) hlk (by decide +kernel) (by decide +kernel) (by omega) (by omega) (by decide) (by decide +kernel) (by decide +kernel) (by decide) (by decide +kernel) rfl (by rw [mj_catsum]; exact hs) (by omega) (by omega) hd a2.2.2 (fun locs hloc => ?_)
  exact k.2.2 H locs ls a1 ⟨a2.1, a2.2.1, hloc⟩ a3 a4 a5
end BB
def nsL : List Cond := ns_at RX8 395 "java/util/NoSuchElementException" "java/lang/RuntimeException" ["java/lang/Exception"] 13 prog_26_method_4_code
def isDC (w : Cond) : Bool := match w with
  | .declares _ => true
  | .castable _ _ => true
  | _ => false
theorem nsL_in : (nsL.filter vx_no).all (fun w => decide (w ∈ lw_tbl) && (goodWord w || isDC w)) = true := by decide +kernel
theorem nsL_on : ∀ w ∈ nsL.filter vx_no, w.onTables = true := by decide +kernel
theorem nsL_ot : ∀ w ∈ Cond.classLink RX8 391 "java/util/NoSuchElementException" :: Cond.initialized "java/util/NoSuchElementException" :: nsL.filter vx_no, vx_ot w = true := by decide +kernel
theorem ns_words {D : mj_D} {s : State} {args : Array Value} (hG : mj_G0 D) (hSt : mj_St D s) : ∀ w ∈ nsL.filter vx_no, w.before args s = true := by
  intro w hw
  have h := List.all_eq_true.mp nsL_in w hw
  simp only [Bool.and_eq_true, Bool.or_eq_true, decide_eq_true_eq] at h
  have ho := nsL_on w hw
  rcases h.2 with hg | hd
  · exact hSt.use h.1 (by unfold mj_kw; rw [hg, Bool.or_true]) ho
  · have h0 := hG.1 w h.1 ho
    have hW := hSt.2.2.2.2.2.2.2.2.2
    cases w <;> simp only [isDC, Bool.false_eq_true] at hd
    all_goals first
      | exact va_Nw.use rfl (va_Nw.warmC hW h0)
      | exact va_Nw.use rfl (va_Nw.warmD hW h0)
theorem dn_68 : decode cX8_led 68 = .ok (.new 391, 3) := by decide +kernel
theorem dn_71 : decode cX8_led 71 = .ok (.dup, 1) := by decide +kernel
theorem dn_72 : decode cX8_led 72 = .ok (.ldc_w 393, 3) := by decide +kernel
theorem dn_75 : decode cX8_led 75 = .ok (.invokespecial 395, 3) := by decide +kernel
theorem dn_78 : decode cX8_led 78 = .ok (.athrow, 1) := by decide +kernel
theorem bn_0 : decode prog_26_method_4_code 0 = .ok (.aload_n 0, 1) := by decide +kernel
theorem bn_1 : decode prog_26_method_4_code 1 = .ok (.aload_n 1, 1) := by decide +kernel
theorem bn_2 : decode prog_26_method_4_code 2 = .ok (.invokespecial 13, 3) := by decide +kernel
theorem bn_5 : decode prog_26_method_4_code 5 = .ok (.return_, 1) := by decide +kernel
def XCn (D : mj_D) (h' : mj_H) : String → State → State → Prop := fun E _ t => E = "java/util/NoSuchElementException" ∧ mj_hp D h' t.heap
section BL
variable {D : mj_D} {l : Launch} {d : Nat}
/-- LowNumber.led where it throws -/
theorem led_thr (hok : ∀ mid M, 4 ≤ mid → mj_nth mj_ms mid = some M → mj_okM M = true) (hH : ∀ mid M, 4 ≤ mid → mj_nth mj_ms mid = some M → mid ≠ 285 → mid ≠ 282 → mid ≠ 283 → mj_hd M) (hl : l.stackTraces = false) (hG : mj_G0 D) (h8 : 2 ≤ d) (IH : ∀ d', d = d' + 1 → mj_Met D l d' ∧ mj_HB D l d') {x : Nat} {i : Int32} {h h1 : mj_H}
    (hg : mj_go (mj_sta D) (mj_Cl (mj_sta D) d) m_X8_led (fun pc _ st g => pc = 68 ∧ st = [] ∧ g = h1) 0 (mj_e0 (mj_mx m_X8_led) [.ref x, .int i]) [] h) (hSB : h1.1.length + 1 ≤ mj_SB) :
    vx_Met l yX8_led (mj_wd m_X8_led) (mj_rm d h (h1.1 ++ [.inr (99, [])], h1.2 + 6)) (mj_Pc D [.ref x, .int i] h) (fun _ _ _ _ => False) (XCn D (h1.1 ++ [.inr (99, [])], h1.2 + 6)) ((h1.1 ++ [(.inr (99, []) : va_E)]).length - h.1.length) (h1.2 + 6 - h.2) (mj_A D) := by
  have hlen : (h1.1 ++ [(.inr (99, []) : va_E)]).length = h1.1.length + 1 := by simp
  have hle : h.1.length ≤ h1.1.length ∧ h.2 ≤ h1.2 := mj_go_le (mj_Cl_le d) (fun pc lv st h ht => by rw [ht.2.2]; exact ⟨Nat.le_refl _, Nat.le_refl _⟩) hg
  refine vx_ofW (cc := mj_bt m_X8_led) (maxL := mj_mx m_X8_led) (ret := mj_rt m_X8_led) (by decide) rfl ?_
  intro p e s m args below meth c s₁ B hml hta hv
  obtain ⟨rfl, hSt, hhp⟩ := hv
  have hown : s.vm.findClass (mj_nm m_X8_led).cls = some m.cls := findClass_of_methodNamed B.named
  have hnm : meth.name = (mj_nm m_X8_led).name := (name_of_methodNamed B.named B.method).1
  have hlocks := B.notSynchronized
  have C : mj_Cx D m_X8_led p (headSpec (mj_wd m_X8_led) (mj_rm d h (h1.1 ++ [.inr (99, [])], h1.2 + 6))).room s m meth c h.1.length h.2 (h1.1 ++ [(.inr (99, []) : va_E)]).length (h1.2 + 6) := ⟨B.exec, B.bytes, hml, hown, hnm, hSt, rfl, rfl, by rw [hlen]; exact hSB, by rw [hhp.1]; exact Nat.le_add_right _ _, hhp.2.1⟩
  have key := mj_body (e := e) (args := ([Value.ref x, .int i].map (mj_cv D)).toArray) (below := below) (Q := vx_MQ below (fun _ _ _ _ => False) (XCn D (h1.1 ++ [.inr (99, [])], h1.2 + 6)) ([Value.ref x, .int i].map (mj_cv D)).toArray s ((h1.1 ++ [(.inr (99, []) : va_E)]).length - h.1.length) (h1.2 + 6 - h.2) (mj_A D)) (hok 128 _ (by decide) mj_led_no) hH IH C rfl rfl (T := fun pc _ st g => pc = 68 ∧ st = [] ∧ g = h1) (fun pc lv st hh hT => ?_) hg
  · have w := key.2.2 s.heap [] _ hhp va_S.rf (mj_entry [.ref x, .int i] (Nat.le_of_ble_eq_true rfl)) (Nat.le_refl _) (Nat.le_refl _)
    rw [Nat.sub_self, Nat.sub_self] at w
    rw [lg_entry_eq]
    exact w
  · obtain ⟨rfl, rfl, rfl⟩ := hT
    refine ⟨by rw [hlen]; omega, by omega, fun H locs ls a1 a2 a3 a4 a5 => ?_⟩
    obtain ⟨sa, hsa⟩ := hG.2.2.2.2.2
    have hW := hSt.2.2.2.2.2.2.2.2.2
    have hq := jk_q (D := D) (H := s.heap) hhp.2.1
    refine ns_throw (own := RX8) (cls := "java/util/NoSuchElementException") (Yn := "java/lang/RuntimeException") (names := ["java/lang/Exception"]) (text := "no such man goes") (ik := 391) (is := 393) (ic := 395) (jx := 13) (bx := prog_26_method_4_code) (sa := sa) (A := mj_A D) B.exec B.bytes hl hown (by decide +kernel) (by decide +kernel) (by decide +kernel) bn_0 bn_1 bn_2 bn_5 (hSt.use (w := .classLink RX8 391 "java/util/NoSuchElementException") (by decide +kernel) rfl rfl) (hSt.use (w := .initialized "java/util/NoSuchElementException") (by decide +kernel) rfl rfl) (vk_R.warm hW hsa) (ns_words hG hSt) nsL_ot ((vx_Zq.moved hW.alike hG.2.2.2.1).kept hq) ((vx_Zq.moved hW.alike hG.2.2.2.2.1).kept hq) a2 (a3.1.trans hml.symm) dn_68 dn_71 dn_72 dn_75 dn_78 (fun z hz => (hta z hz).elim) ?_ ?_ ?_ ?_ hlocks ?_ a2.2.2 ?_ ?_
    · show 1 + 4 < d + 4
      omega
    · show 0 + (13 * (1 + 2) + 43) ≤ 38 * (d + 4)
      omega
    · show hh.1.length - h.1.length + 1 ≤ (hh.1 ++ [(.inr (99, []) : va_E)]).length - h.1.length
      omega
    · show hh.2 - h.2 + 6 ≤ hh.2 + 6 - h.2
      omega
    · intro t ht1 ht2 ht3
      refine ⟨rfl, a1.push (t := [.inr (99, [])]) ht2 ht3 (fun j e' hj hgb => ?_)⟩
      match j, hj with
      | 0, hj => cases hj; cases hgb
    · omega
    · omega
end BL
