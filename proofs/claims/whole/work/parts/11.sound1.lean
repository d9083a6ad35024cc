/-! every instruction that isn't a call -/
section MJX
variable {D : mj_D} {M : mj_M} {p : Program} {l : Launch} {e : Env} {R : Room} {s : State} {m : MethodId} {args : Array Value} {below : List Frame} {meth : Method} {c : Code} {Q : State → Prop} {n0 s0 Lx Sx : Nat}
variable {pc : Nat} {lv : mj_L} {st : List Value} {h : mj_H}
theorem mj_acI : Cond.arrayClass .int ∈ lw_tbl := by decide +kernel
theorem mj_acJ : Cond.arrayClass .long ∈ lw_tbl := by decide +kernel
theorem mj_acB : Cond.arrayClass .byte ∈ lw_tbl := by decide +kernel
set_option maxHeartbeats 4000000 in
theorem mj_snx (hM : mj_okM M = true) (C : mj_Cx D M p R s m meth c n0 s0 Lx Sx) {x : mj_I} {pc' : Nat} {lv' : mj_L} {st' : List Value} {h' : mj_H} (he : mj_ent (mj_cd M) pc = some x) (hn : mj_nx (mj_sta D) x.2.1 x.2.2.1 pc lv st h = some (pc', lv', st', h'))
    (k : mj_P D M p l e R s m args below meth c Q n0 s0 Lx Sx pc' lv' st' h') : mj_P D M p l e R s m args below meth c Q n0 s0 Lx Sx pc lv st h := by
  obtain ⟨rfl, hok⟩ := mj_ent_ok hM he
  clear he
  unfold mj_okE at hok
  simp only [Bool.and_eq_true] at hok
  obtain ⟨⟨hl, ht⟩, hd0, hok⟩ := hok
  have hd := of_decide_eq_true hd0
  clear hd0
  obtain ⟨pc, i, len, raw, wp⟩ := x
  dsimp only at hl ht hd hok hn ⊢
  cases i
  case getfield j =>
    cases raw <;> simp only [mj_ok, Bool.false_eq_true] at hok
    have e2 : len = 3 := Nat.eq_of_beq_eq_true hl; subst e2
    cases hq : mj_nth vwCl (j / 64) with
    | none => rw [hq] at hok; cases hok
    | some q =>
      rw [hq] at hok
      simp only [Bool.and_eq_true, decide_eq_true_eq] at hok
      unfold mj_nx at hn
      dsimp only at hn
      split at hn
      case h_2 => cases hn
      split at hn
      case h_2 => cases hn
      rename_i ci fs hc
      cases hb : Nat.beq ci (j / 64) with
      | false => rw [hb] at hn; cases hn
      | true =>
        rw [hb] at hn
        have e3 := Nat.eq_of_beq_eq_true hb; subst e3
        dsimp only [cond_true] at hn
        split at hn
        case h_2 => cases hn
        rename_i v hv
        cases hn
        exact mj_w_get C hd hq hok.1 hok.2 hc hv k
  case putfield j =>
    cases raw <;> simp only [mj_ok, Bool.false_eq_true] at hok
    have e2 : len = 3 := Nat.eq_of_beq_eq_true hl; subst e2
    cases hq : mj_nth vwCl (j / 64) with
    | none => rw [hq] at hok; cases hok
    | some q =>
      rw [hq] at hok
      rw [Bool.and_eq_true, Bool.and_eq_true] at hok
      obtain ⟨o1, o2, o3⟩ := hok
      unfold mj_nx at hn
      dsimp only at hn
      split at hn
      case h_2 => cases hn
      split at hn
      case h_2 => cases hn
      rename_i ci fs hc
      cases hb : Nat.beq ci (j / 64) with
      | false => rw [hb] at hn; cases hn
      | true =>
        rw [hb] at hn
        have e3 := Nat.eq_of_beq_eq_true hb; subst e3
        dsimp only [cond_true] at hn
        split at hn
        case isFalse => cases hn
        rename_i z
        cases hn
        exact mj_w_put C hd hq (of_decide_eq_true o1) o2 o3 hc z.1 z.2.1 z.2.2 k
  case getstatic j =>
    cases raw <;> simp only [mj_ok, Bool.false_eq_true] at hok
    have e2 : len = 3 := Nat.eq_of_beq_eq_true hl; subst e2
    simp only [Bool.and_eq_true, decide_eq_true_eq] at hok
    obtain ⟨o1, o2⟩ := hok
    subst o1
    cases hn
    exact mj_w_gets C hd o2 k
  case iaload =>
    have e1 : raw = _ := of_decide_eq_true (by simpa only [mj_ok] using hok); subst e1
    have e2 : len = 1 := Nat.eq_of_beq_eq_true hl; subst e2
    unfold mj_nx at hn
    dsimp only at hn
    split at hn
    case h_2 => cases hn
    split at hn
    case h_2 => cases hn
    rename_i n f hc
    split at hn
    case isTrue => cases hn
    rename_i hin
    cases hn
    unfold mj_ints at hc
    split at hc
    · rename_i hc2; cases hc; exact mj_w_iald C hd hc2 hin k
    · cases hc
    · exact mj_w_sald C hd hc hin k
  case arraylength =>
    have e1 : raw = _ := of_decide_eq_true (by simpa only [mj_ok] using hok); subst e1
    have e2 : len = 1 := Nat.eq_of_beq_eq_true hl; subst e2
    unfold mj_nx at hn
    dsimp only at hn
    split at hn
    case h_2 => cases hn
    split at hn
    case h_2 => cases hn
    rename_i n f hc
    cases hn
    unfold mj_ints at hc
    split at hc
    · rename_i hc2; cases hc; exact mj_w_alen C hd hc2 k
    · cases hc
    · exact mj_w_slen C hd hc k
  case baload =>
    have e1 : raw = _ := of_decide_eq_true (by simpa only [mj_ok] using hok); subst e1
    have e2 : len = 1 := Nat.eq_of_beq_eq_true hl; subst e2
    unfold mj_nx at hn
    dsimp only at hn
    split at hn
    case h_2 => cases hn
    split at hn
    case h_2 => cases hn
    rename_i n f hc
    split at hn
    case isTrue => cases hn
    rename_i hin
    cases hn
    exact mj_w_bald C hd hc hin k
  case laload =>
    have e1 : raw = _ := of_decide_eq_true (by simpa only [mj_ok] using hok); subst e1
    have e2 : len = 1 := Nat.eq_of_beq_eq_true hl; subst e2
    unfold mj_nx at hn
    dsimp only at hn
    split at hn
    case h_2 => cases hn
    split at hn
    case h_2 => cases hn
    rename_i n f hc
    split at hn
    case isTrue => cases hn
    rename_i hin
    cases hn
    exact mj_w_lald C hd hc hin k
  case aaload =>
    have e1 : raw = _ := of_decide_eq_true (by simpa only [mj_ok] using hok); subst e1
    have e2 : len = 1 := Nat.eq_of_beq_eq_true hl; subst e2
    unfold mj_nx at hn
    dsimp only at hn
    split at hn
    case h_2 => cases hn
    split at hn
    case h_3 => cases hn
    · rename_i n f hc
      split at hn
      case isTrue => cases hn
      rename_i hin
      cases hn
      exact mj_w_aald C (t := 3) rfl rfl hd hc hin k
    · rename_i n f hc
      split at hn
      case isTrue => cases hn
      rename_i hin
      cases hn
      exact mj_w_aald C (t := 4) rfl rfl hd hc hin k
  case iastore =>
    have e1 : raw = _ := of_decide_eq_true (by simpa only [mj_ok] using hok); subst e1
    have e2 : len = 1 := Nat.eq_of_beq_eq_true hl; subst e2
    unfold mj_nx at hn
    dsimp only at hn
    split at hn
    case h_2 => cases hn
    split at hn
    case h_2 => cases hn
    rename_i n f hc
    split at hn
    case isTrue => cases hn
    rename_i hin
    cases hn
    exact mj_w_iast C hd hc hin k
  case bastore =>
    have e1 : raw = _ := of_decide_eq_true (by simpa only [mj_ok] using hok); subst e1
    have e2 : len = 1 := Nat.eq_of_beq_eq_true hl; subst e2
    unfold mj_nx at hn
    dsimp only at hn
    split at hn
    case h_2 => cases hn
    split at hn
    case h_2 => cases hn
    rename_i n f hc
    split at hn
    case isTrue => cases hn
    rename_i hin
    cases hn
    exact mj_w_bast C hd hc hin k
  case lastore =>
    have e1 : raw = _ := of_decide_eq_true (by simpa only [mj_ok] using hok); subst e1
    have e2 : len = 1 := Nat.eq_of_beq_eq_true hl; subst e2
    unfold mj_nx at hn
    dsimp only at hn
    split at hn
    case h_2 => cases hn
    split at hn
    case h_2 => cases hn
    rename_i n f hc
    split at hn
    case isTrue => cases hn
    rename_i hin
    cases hn
    exact mj_w_last C hd hc hin k
  case aastore =>
    have e1 : raw = _ := of_decide_eq_true (by simpa only [mj_ok] using hok); subst e1
    have e2 : len = 1 := Nat.eq_of_beq_eq_true hl; subst e2
    unfold mj_nx at hn
    dsimp only at hn
    split at hn
    case h_2 => cases hn
    split at hn
    case h_2 => cases hn
    rename_i n f fs hc hv
    split at hn
    case isTrue => cases hn
    rename_i hin
    cases hn
    exact mj_w_aast C hd hc hv hin k
  case new ci =>
    cases raw <;> simp only [mj_ok, Bool.false_eq_true] at hok
    have e2 : len = 3 := Nat.eq_of_beq_eq_true hl; subst e2
    cases hn
    split at hok
    case h_2 => cases hok
    rename_i a j C' q hw hq
    simp only [Bool.and_eq_true, decide_eq_true_eq] at hok
    obtain ⟨⟨e1, e2, e3⟩, o1, o2⟩ := hok
    subst e1; subst e2; subst e3
    exact mj_w_new C hd hq hw o1 o2 k
  case newarray ty =>
    have e1 : raw = _ := of_decide_eq_true (by simpa only [mj_ok] using hok); subst e1
    have e2 : len = 2 := Nat.eq_of_beq_eq_true hl; subst e2
    unfold mj_nx at hn
    dsimp only at hn
    split at hn
    case h_2 => cases hn
    split at hn
    case isTrue => cases hn
    rename_i n r hin
    split at hn
    · cases hn
      exact mj_w_newa C (t := 0) (x := .inl (fun _ => 0)) hd rfl mj_acI (fun cA h1 h2 => Option.some.inj (h2.symm.trans h1)) (fun cA => rfl) (by decide) hin k
    · cases hn
      exact mj_w_newa C (t := 1) (x := .inr (.inl (fun _ => 0))) hd rfl mj_acJ (fun cA h1 h2 => Option.some.inj (h2.symm.trans h1)) (fun cA => rfl) (by decide) hin k
    · cases hn
      exact mj_w_newa C (t := 2) (x := .inl (fun _ => 0)) hd rfl mj_acB (fun cA h1 h2 => Option.some.inj (h2.symm.trans h1)) (fun cA => rfl) (by decide) hin k
    · cases hn
  case anewarray z =>
    cases raw <;> simp only [mj_ok, Bool.false_eq_true] at hok
    have e2 : len = 3 := Nat.eq_of_beq_eq_true hl; subst e2
    split at hok
    case h_2 => cases hok
    rename_i a j C' hw
    obtain ⟨e0, e1, e2, e3⟩ := of_decide_eq_true hok
    subst e0; subst e1; subst e2; subst e3
    cases st with
    | nil => simp [mj_nx] at hn
    | cons v r =>
      cases v
      case int n =>
        by_cases hin : (n < 0 ∨ 65536 < n.toNatClampNeg)
        · simp [mj_nx, hin] at hn
        · simp only [mj_nx, hin, if_false] at hn
          cases hn
          exact mj_w_anew C hd hw hin k
      all_goals simp [mj_nx] at hn
  case multianewarray z1 z2 =>
    cases raw <;> simp only [mj_ok, Bool.false_eq_true] at hok
    have e2 : len = 4 := Nat.eq_of_beq_eq_true hl; subst e2
    split at hok
    case h_2 => cases hok
    rename_i a j C' hw
    obtain ⟨e0, e00, e01, e1, e2, e3⟩ := of_decide_eq_true hok
    subst e0; subst e00; subst e01; subst e1; subst e2; subst e3
    unfold mj_nx at hn
    simp only at hn
    split at hn
    case h_2 => cases hn
    cases hn
    exact mj_w_mna C hd hw mj_acI k
  all_goals exact mj_pure C hd hl ht hok trivial hn k
end MJX
