/-! a body, by its depth; every method's contract -/
section MJB
variable {D : mj_D} {M : mj_M} {p : Program} {l : Launch} {e : Env} {R : Room} {s : State} {m : MethodId} {args : Array Value} {below : List Frame} {meth : Method} {c : Code} {Q : State → Prop} {n0 s0 Lx Sx : Nat}
variable {pc : Nat} {lv : mj_L} {st : List Value} {h : mj_H}
theorem mj_body (hM : mj_okM M = true) (hH : ∀ mid M, 4 ≤ mid → mj_nth mj_ms mid = some M → mid ≠ 285 → mid ≠ 282 → mid ≠ 283 → mj_hd M) {d : Nat} (IH : ∀ d', d = d' + 1 → mj_Met D l d' ∧ mj_HB D l d') (C : mj_Cx D M p R s m meth c n0 s0 Lx Sx) (hRf : R.frames = d + 4) (hRl : R.locals = 38 * (d + 4)) {T : Nat → mj_L → List Value → mj_H → Prop}
    (hT : ∀ pc lv st h, T pc lv st h → mj_P D M p l e R s m args below meth c Q n0 s0 Lx Sx pc lv st h) (hg : mj_go (mj_sta D) (mj_Cl (mj_sta D) d) M T pc lv st h) : mj_P D M p l e R s m args below meth c Q n0 s0 Lx Sx pc lv st h := by
  refine hg _ hT (fun pc lv st h x pc' lv' st' h' he hn k => mj_snx hM C he hn k) (fun pc lv st h x cn v h1 he hc hl hr hs hC k => ?_)
  cases d with
  | zero => exact hC.elim
  | succ d' => exact mj_scall hM hH (IH d' rfl).1 (IH d' rfl).2 C hRf hRl he hc hl hr hs hC k
theorem mj_met1 (hok : ∀ mid M, 4 ≤ mid → mj_nth mj_ms mid = some M → mj_okM M = true) (hH : ∀ mid M, 4 ≤ mid → mj_nth mj_ms mid = some M → mid ≠ 285 → mid ≠ 282 → mid ≠ 283 → mj_hd M) (hpl : ∀ mid M, 4 ≤ mid → mid ≠ 282 → mid ≠ 283 → mj_nth mj_ms mid = some M → plainName (mj_nm M).cls = true) {d : Nat} (IH : ∀ d', d = d' + 1 → mj_Met D l d' ∧ mj_HB D l d') : mj_Met D l d := by
  intro mid M as h v h' h4 z2 z3 hm hel hg hSB
  refine Met.ofW (cc := mj_bt M) (maxL := mj_mx M) (ret := mj_rt M) (hpl mid M h4 z2 z3 hm) rfl ?_
  intro p e s m args below meth c s₁ B hml hv
  obtain ⟨rfl, hSt, hhp⟩ := hv
  have hown : s.vm.findClass (mj_nm M).cls = some m.cls := findClass_of_methodNamed B.named
  have hnm : meth.name = (mj_nm M).name := (name_of_methodNamed B.named B.method).1
  have hlocks := B.notSynchronized
  have hr := B.returns
  have hle : h.1.length ≤ h'.1.length ∧ h.2 ≤ h'.2 := mj_go_le (mj_Cl_le d) (fun pc lv st h ht => by rw [ht.1]; exact ⟨Nat.le_refl _, Nat.le_refl _⟩) hg
  have C : mj_Cx D M p (headSpec (mj_wd M) (mj_rm d h h')).room s m meth c h.1.length h.2 h'.1.length h'.2 := ⟨B.exec, B.bytes, hml, hown, hnm, hSt, rfl, rfl, hSB, by rw [hhp.1]; exact Nat.le_add_right _ _, hhp.2.1⟩
  have key := mj_body (e := e) (args := (as.map (mj_cv D)).toArray) (below := below) (Q := MQ below (mj_Qc D v h') (as.map (mj_cv D)).toArray s (h'.1.length - h.1.length) (h'.2 - h.2) (mj_A D)) (hok mid M h4 hm) hH IH C rfl rfl (T := mj_ret M v h') (fun pc lv st hh ht => ?_) hg
  · have w := key.2.2 s.heap [] _ hhp va_S.rf (mj_entry as hel) (Nat.le_refl _) (Nat.le_refl _)
    rw [Nat.sub_self, Nat.sub_self] at w
    rw [lg_entry_eq]
    exact w
  · obtain ⟨rfl, x, hx, hi⟩ := ht
    obtain ⟨rfl, hkk⟩ := mj_ent_ok (hok mid M h4 hm) hx
    unfold mj_okE at hkk
    simp only [Bool.and_eq_true] at hkk
    obtain ⟨⟨hl, -⟩, hd0, hko⟩ := hkk
    have hd := of_decide_eq_true hd0
    clear hd0
    obtain ⟨pc, i, len, raw, wp⟩ := x
    dsimp only at hl hd hko hi ⊢
    refine ⟨Nat.le_refl _, Nat.le_refl _, fun H locs ls a1 a2 a3 a4 a5 => ?_⟩
    cases i <;> simp only at hi
    case return_ =>
      have e1 : raw = _ := of_decide_eq_true (by simpa only [mj_ok] using hko); subst e1
      have e2 : len = 1 := Nat.eq_of_beq_eq_true hl; subst e2
      obtain ⟨r1, r2, r3⟩ := hi
      subst r1; subst r2
      exact W.vret B.exec B.bytes (hr.trans r3) (fun t ht _ => ⟨rfl, by rw [ht]; exact a1⟩) a2.2.2 hd
    case ireturn =>
      have e1 : raw = _ := of_decide_eq_true (by simpa only [mj_ok] using hko); subst e1
      have e2 : len = 1 := Nat.eq_of_beq_eq_true hl; subst e2
      obtain ⟨z, ty, r1, r2, r3, r4⟩ := hi
      subst r1; subst r2
      exact W.zret B.exec B.bytes (hr.trans r3) r4 (fun t ht _ => ⟨rfl, by rw [ht]; exact a1⟩) a2.2.2 hd
    case lreturn =>
      have e1 : raw = _ := of_decide_eq_true (by simpa only [mj_ok] using hko); subst e1
      have e2 : len = 1 := Nat.eq_of_beq_eq_true hl; subst e2
      obtain ⟨z, r1, r2, r3⟩ := hi
      subst r1; subst r2
      exact W.lret B.exec B.bytes (hr.trans r3) (fun t ht _ => ⟨rfl, by rw [ht]; exact a1⟩) a2.2.2 hd
    case areturn =>
      have e1 : raw = _ := of_decide_eq_true (by simpa only [mj_ok] using hko); subst e1
      have e2 : len = 1 := Nat.eq_of_beq_eq_true hl; subst e2
      obtain ⟨a, C', r1, r2, r3⟩ := hi
      subst r1; subst r2
      exact W.aret B.exec B.bytes (hr.trans r3) (Or.inl ⟨C', rfl⟩) (Or.inr ⟨_, rfl⟩) (fun t ht _ => ⟨rfl, by rw [ht]; exact a1⟩) a2.2.2 hd
theorem mj_met (hok : ∀ mid M, 4 ≤ mid → mj_nth mj_ms mid = some M → mj_okM M = true) (hH : ∀ mid M, 4 ≤ mid → mj_nth mj_ms mid = some M → mid ≠ 285 → mid ≠ 282 → mid ≠ 283 → mj_hd M) (hpl : ∀ mid M, 4 ≤ mid → mid ≠ 282 → mid ≠ 283 → mj_nth mj_ms mid = some M → plainName (mj_nm M).cls = true) (hB : ∀ d, mj_Met D l d → (∀ d', d' < d → mj_Met D l d' ∧ mj_HB D l d') → mj_HB D l d) : ∀ d, mj_Met D l d ∧ mj_HB D l d := by
  intro d
  induction d using Nat.strongRecOn with
  | ind d ih =>
    have h := mj_met1 (D := D) (l := l) hok hH hpl (d := d) (fun d' e => ih d' (by omega))
    exact ⟨h, hB d h (fun d' hd => ih d' hd)⟩
end MJB
