/-! both sides in one word: what is played agrees where the men are -/
def agM (n : Nat) (DA MA : Nat → Nat → Nat) (sn SN C C' : Nat → Nat) : Prop := ∀ m, m < n → sn m = SN m ∧ DA 4 m = MA 4 m ∧ DA 1 m = MA 1 m ∧ DA 3 m = MA 3 m ∧ C m = C' m
section Cg
variable {D : Nat → Nat} {DA MA : Nat → Nat → Nat} {sn SN C C' : Nat → Nat}
theorem q_cg (h : agM (D 1) DA MA sn SN C C') {lw : Nat} {r : Nat → Nat} (hr : ∀ i, i < D 1 → r i < D 1) : qT D DA lw sn r = qT D MA lw SN r ∧ qG D DA lw sn C r = qG D MA lw SN C' r ∧ qS D DA lw sn C r = qS D MA lw SN C' r := by
  have hs := row_same (n := D 1) (t := D 0) (lw := lw) (sn := sn) (kin := DA 4) (W := DA 1) (A := DA 3) (C := C) (sn' := SN) (kin' := MA 4) (W' := MA 1) (A' := MA 3) (C' := C') (r := r) (r' := r) h (fun i hi => by
    have hc := rC_le (n := D 1) (t := D 0) (lw := lw) (sn := sn) (kin := DA 4) (r := r)
    exact ⟨rfl, hr i (by omega)⟩)
  exact ⟨hs.2.1.symm, hs.2.2.1.symm, hs.2.2.2.symm⟩
theorem tot_cg (h : agM (D 1) DA MA sn SN C C') (hn : 1 ≤ D 1 ∧ D 1 ≤ 6) {lw : Nat} {φ ψ : Nat → (Nat → Option Nat) → Nat} (hφ : ∀ j, j < fac (D 1) → φ (qT D MA lw SN (lx (D 1) j)) (qG D MA lw SN C' (lx (D 1) j)) = ψ (qT D MA lw SN (lx (D 1) j)) (qG D MA lw SN C' (lx (D 1) j))) : tot D DA lw sn C φ = tot D MA lw SN C' ψ := by
  unfold tot
  refine fb_sm_cong (fun j hj => ?_)
  have hq := q_cg (D := D) h (lw := lw) (r := lx (D 1) j) (prm_lx hn hj).1
  rw [hq.1, hq.2.1]
  exact hφ j hj
theorem qG_b {lw : Nat} {r : Nat → Nat} {m q : Nat} (h : qG D MA lw SN C' r m = some q) : q < D 1 := (qG_pay h).2.1
theorem los_cg (h : agM (D 1) DA MA sn SN C C') {T : Nat} {g : Nat → Option Nat} {m : Nat} (hm : m < D 1) (hg : ∀ q, g m = some q → q < D 1) : los T g (DA 1) (DA 3) m = los T g (MA 1) (MA 3) m := by
  unfold los
  split
  · cases e : g m with
    | none => exact (h m hm).2.2.1
    | some q => exact (h q (hg q e)).2.2.2.1
  · rfl
theorem lsc_cg (h : agM (D 1) DA MA sn SN C C') {cl T : Nat} {g : Nat → Option Nat} (hg : ∀ m q, g m = some q → q < D 1) : fb_sm (lsc cl T g (DA 1) (DA 3)) (D 1) = fb_sm (lsc cl T g (MA 1) (MA 3)) (D 1) := fb_sm_cong (fun m hm => by
  unfold lsc
  rw [los_cg h hm (hg m)])
end Cg
theorem fb_sm_one {f : Nat → Nat} {k : Nat} : ∀ {n}, k < n → fb_sm (fun m => if m = k then f m else 0) n = f k
  | 0, h => by omega
  | n + 1, h => by
    rw [fb_sm_succ]
    by_cases e : n = k
    · subst e
      have : fb_sm (fun m => if m = n then f m else 0) n = 0 := by
        rw [fb_sm_cong (g := fun _ => 0) (fun m hm => if_neg (by omega)), fb_sm_const, Nat.mul_zero]
      rw [this, if_pos rfl, Nat.zero_add]
    · rw [fb_sm_one (by omega), if_neg e, Nat.add_zero]
theorem lsc_one {n k T : Nat} {g : Nat → Option Nat} {W A : Nat → Nat} (hk : k < n) : fb_sm (lsc (2 ^ k) T g W A) n = los T g W A k := by
  rw [← fb_sm_one (f := los T g W A) hk]
  refine fb_sm_cong (fun m hm => ?_)
  unfold lsc
  rw [Nat.testBit_two_pow]
  by_cases e : k = m
  · subst e; rw [decide_eq_true rfl, if_pos rfl, if_pos rfl]
  · rw [decide_eq_false e, if_neg (by decide), if_neg (fun z => e z.symm)]
theorem fb_sm_swap {f : Nat → Nat → Nat} {n : Nat} : ∀ k, fb_sm (fun j => fb_sm (fun m => f m j) n) k = fb_sm (fun m => fb_sm (f m) k) n
  | 0 => by
    show 0 = _
    rw [fb_sm_cong (f := fun m => fb_sm (f m) 0) (g := fun _ => 0) (fun m _ => rfl), fb_sm_const, Nat.mul_zero]
  | k + 1 => by
    rw [fb_sm_succ, fb_sm_swap k, ← fb_sm_add]
    exact fb_sm_cong (fun m _ => (fb_sm_succ (f m) k).symm)
section Cg2
variable {D : Nat → Nat} {DA MA : Nat → Nat → Nat} {sn SN C C' : Nat → Nat} {L : Nat}
/-- a club's losses: by rows, by men -/
theorem o3_club (cl : Nat) : fb_sm (fun m => if cl.testBit m then o3 D MA L SN C' (fac (D 1)) m else 0) (D 1) = lsT D MA L SN C' cl := by
  unfold lsT tot
  have e : ∀ m, (if cl.testBit m then o3 D MA L SN C' (fac (D 1)) m else 0) = fb_sm (fun j => lsc cl (qT D MA L SN (lx (D 1) j)) (qG D MA L SN C' (lx (D 1) j)) (MA 1) (MA 3) m) (fac (D 1)) := by
    intro m
    by_cases h : cl.testBit m = true
    · rw [if_pos h]
      unfold o3 pto
      refine fb_sm_cong (fun j _ => ?_)
      unfold lsc
      rw [if_pos h]
    · rw [if_neg h]
      rw [fb_sm_cong (g := fun _ => 0) (fun j _ => by unfold lsc; rw [if_neg h]), fb_sm_const, Nat.mul_zero]
  rw [fb_sm_cong (fun m _ => e m), ← fb_sm_swap (f := fun m j => lsc cl (qT D MA L SN (lx (D 1) j)) (qG D MA L SN C' (lx (D 1) j)) (MA 1) (MA 3) m)]
theorem lsT_cg (h : agM (D 1) DA MA sn SN C C') (hn : 1 ≤ D 1 ∧ D 1 ≤ 6) (cl : Nat) : lsT D DA L sn C cl = lsT D MA L SN C' cl := tot_cg h hn (fun j _ => lsc_cg h (fun m q e => qG_b e))
theorem lsT_one (hn : 1 ≤ D 1 ∧ D 1 ≤ 6) {k : Nat} (hk : k < D 1) : lsT D MA L SN C' (2 ^ k) = o3 D MA L SN C' (fac (D 1)) k := by
  unfold lsT tot o3 pto
  exact fb_sm_cong (fun j _ => lsc_one hk)
theorem shT_cg (h : agM (D 1) DA MA sn SN C C') (hn : 1 ≤ D 1 ∧ D 1 ≤ 6) : shT D DA L sn C = o5 D MA L SN C' (fac (D 1)) := tot_cg h hn (fun j _ => rfl)
theorem o1_cg (h : agM (D 1) DA MA sn SN C C') (hn : 1 ≤ D 1 ∧ D 1 ≤ 6) (k : Nat) : tot D DA L sn C (fun T _ => if T.testBit k then 1 else 0) = o1 D MA L SN C' (fac (D 1)) k := tot_cg h hn (fun j _ => rfl)
theorem o2_cg (h : agM (D 1) DA MA sn SN C C') (hn : 1 ≤ D 1 ∧ D 1 ≤ 6) (k : Nat) : tot D DA L sn C (fun T g => if gos (D 1) T g k then 1 else 0) = o2 D MA L SN C' (fac (D 1)) k := tot_cg h hn (fun j _ => rfl)
theorem o4_cg (h : agM (D 1) DA MA sn SN C C') (hn : 1 ≤ D 1 ∧ D 1 ≤ 6) {k s : Nat} (hs : s < D 1) : tot D DA L sn C (fun _ g => if decide (g s = some k) then 1 else 0) = o4 D MA L SN C' (fac (D 1)) k s := tot_cg (φ := fun _ g => if decide (g s = some k) then 1 else 0) (ψ := fun _ g => if s < D 1 ∧ g s = some k then 1 else 0) h hn (fun j _ => by
  by_cases e : qG D MA L SN C' (lx (D 1) j) s = some k
  · simp [e, hs]
  · simp [e])
theorem o6_cg (h : agM (D 1) DA MA sn SN C C') (hn : 1 ≤ D 1 ∧ D 1 ≤ 6) (k y : Nat) : tot D DA L sn C (fun T g => if decide (y < fb_sm (lsc k T g (DA 1) (DA 3)) (D 1)) then 1 else 0) = o6 D MA L SN C' k y (fac (D 1)) := tot_cg (φ := fun T g => if decide (y < fb_sm (lsc k T g (DA 1) (DA 3)) (D 1)) then 1 else 0) (ψ := fun T g => if decide (y < fb_sm (lsc k T g (MA 1) (MA 3)) (D 1)) then 1 else 0) h hn (fun j _ => by rw [lsc_cg (g := qG D MA L SN C' (lx (D 1) j)) h (fun m q e => qG_b e)])
theorem pick_cg {ok ok' : Nat → Bool} {f f' : Nat → Nat} : ∀ n, (∀ m, m < n → ok m = ok' m ∧ f m = f' m) → pick ok f n = pick ok' f' n
  | 0, _ => rfl
  | n + 1, h => by
    rw [pick, pick, pick_cg n (fun m hm => h m (by omega)), (h n (by omega)).1, (h n (by omega)).2]
theorem fts_cg {n : Nat} {we we' : Nat → Nat} {g : Nat → Option Nat} : ∀ k, (∀ j, j < k → we j = we' j) → fts n we g k = fts n we' g k
  | 0, _ => rfl
  | k + 1, h => by rw [fts, fts, fts_cg k (fun j hj => h j (by omega)), h k (by omega)]
theorem ftT_cg (h : agM (D 1) DA MA sn SN C C') (hn : 1 ≤ D 1 ∧ D 1 ≤ 6) (h5 : ∀ k, k < D 8 → DA 5 k = MA 5 k) : ftT D DA L sn C = ftT D MA L SN C' := tot_cg h hn (fun j _ => by rw [fts_cg (D 8) h5])
theorem cnT_cg (h : agM (D 1) DA MA sn SN C C') (hn : 1 ≤ D 1 ∧ D 1 ≤ 6) (h5 : ∀ k, k < D 8 → DA 5 k = MA 5 k) : cnT D DA L sn C = cnT D MA L SN C' := by
  funext k s
  refine tot_cg h hn (fun j _ => ?_)
  rw [fts_cg (D 8) h5]
  by_cases hk : k < D 8
  · rw [h5 k hk]
  · rw [decide_eq_false hk]
    simp
theorem lkA_cg {n wn : Nat} {we we' : Nat → Nat} {K K' : Nat → Nat} {G G' : Nat → Nat → Option Nat} (hw : ∀ j, j < wn → we j = we' j) : ∀ x, (∀ j, j < x → K j = K' j ∧ G j = G' j) → lkA n wn we K G x = lkA n wn we' K' G' x
  | 0, _ => rfl
  | x + 1, h => by
    rw [lkA, lkA, lkA_cg hw x (fun j hj => h j (by omega)), (h x (by omega)).1, (h x (by omega)).2, fts_cg wn hw]
theorem atT_cg (h : agM (D 1) DA MA sn SN C C') (hn : 1 ≤ D 1 ∧ D 1 ≤ 6) (h5 : ∀ k, k < D 8 → DA 5 k = MA 5 k) : atT D DA L sn C = atT D MA L SN C' := by
  unfold atT
  rw [ftT_cg h hn h5, lkA_cg h5 (fac (D 1)) (fun j hj => by
    have hq := q_cg (D := D) h (lw := L) (r := lx (D 1) j) (prm_lx hn hj).1
    exact ⟨hq.1, hq.2.1⟩)]
/-- those told are counted once a row -/
theorem cnT_sum {k : Nat} (hk : k < D 8) : fb_sm (fun s => cnT D MA L SN C' k s) (D 1) = ftT D MA L SN C' := by
  unfold cnT ftT tot
  rw [← fb_sm_swap (f := fun s j => if fts (D 1) (MA 5) (qG D MA L SN C' (lx (D 1) j)) (D 8) && decide (k < D 8) && decide (sdr (qG D MA L SN C' (lx (D 1) j)) (MA 5 k) (D 1) 0 = some s) then 1 else 0)]
  refine fb_sm_cong (fun j _ => ?_)
  generalize qG D MA L SN C' (lx (D 1) j) = G
  cases hf : fts (D 1) (MA 5) G (D 8) with
  | false =>
    rw [fb_sm_cong (g := fun _ => 0) (fun s _ => by simp), fb_sm_const, Nat.mul_zero]
    show 0 = if fts (D 1) (MA 5) G (D 8) = true then 1 else 0
    rw [hf]
    rfl
  | true =>
    have hsome : (sdr G (MA 5 k) (D 1) 0).isSome = true := by
      have : ∀ x, fts (D 1) (MA 5) G x = true → ∀ k, k < x → (sdr G (MA 5 k) (D 1) 0).isSome = true := by
        intro x
        induction x with
        | zero => intro _ k hk; omega
        | succ x ih =>
          intro hf k hk
          rw [fts, Bool.and_eq_true] at hf
          by_cases e : k = x
          · subst e; exact hf.2
          · exact ih hf.1 k (by omega)
      exact this (D 8) hf k hk
    obtain ⟨s, hs⟩ := Option.isSome_iff_exists.mp hsome
    have hsl := sdr_at hs
    rw [hs, fb_sm_cong (g := fun m => if m = s then 1 else 0) (fun m _ => by
      by_cases e : m = s
      · subst e; simp [hk]
      · rw [if_neg e]
        have : ¬ s = m := fun z => e z.symm
        simp [this]), fb_sm_one (f := fun _ => 1) (show s < D 1 by omega)]
    show 1 = if fts (D 1) (MA 5) G (D 8) = true then 1 else 0
    rw [hf]
    rfl
theorem cbe_bit {c : Nat → Nat} (x : Nat) : ∀ n, (cbe c n).testBit x = (decide (x < n) && decide (0 < c x))
  | 0 => by rw [cbe]; simp
  | n + 1 => by
    rw [cbe]
    by_cases h : 0 < c n
    · rw [if_pos h, fb_bit_set, cbe_bit x n]
      by_cases e : x = n
      · subst e; simp [h]
      · have : (x < n + 1) ↔ x < n := by omega
        simp [e, this]
    · rw [if_neg h, cbe_bit x n]
      by_cases e : x = n
      · subst e; simp [h]
      · have : (x < n + 1) ↔ x < n := by omega
        simp [this]
/-- surely: the one count that is all -/
theorem mbe_cbe {c : Nat → Nat} {f n : Nat} (hsum : fb_sm c n = f) : mbe c f n 0 = frs (fun m => decide (cbe c n = 2 ^ m)) n 0 := by
  have key : ∀ m, m < n → ((0 < c m ∧ c m = f) ↔ cbe c n = 2 ^ m) := by
    intro m hm
    constructor
    · rintro ⟨h1, h2⟩
      apply Nat.eq_of_testBit_eq
      intro x
      rw [cbe_bit, Nat.testBit_two_pow]
      by_cases e : m = x
      · subst e; simp [hm, h1]
      · rw [decide_eq_false e]
        by_cases hx : x < n
        · have hz : c x = 0 := by
            have hu := fb_sm_upd c 0 hx
            have hm2 := fb_sm_part (fun k => if k = x then 0 else c k) hm
            rw [if_neg e] at hm2
            omega
          simp [hz]
        · simp [hx]
    · intro h
      have hb := cbe_bit (c := c) m n
      rw [h, Nat.testBit_two_pow_self] at hb
      have h1 : 0 < c m := by
        have := hb.symm
        simp [hm] at this
        exact this
      refine ⟨h1, ?_⟩
      have hz : ∀ x, x < n → x ≠ m → c x = 0 := by
        intro x hx hxm
        have hb2 := cbe_bit (c := c) x n
        rw [h, Nat.testBit_two_pow, decide_eq_false (fun z => hxm z.symm)] at hb2
        have := hb2.symm
        simp [hx] at this
        exact this
      rw [← hsum, fb_sm_cong (g := fun x => if x = m then c x else 0) (fun x hx => by
        by_cases e : x = m
        · rw [if_pos e]
        · rw [if_neg e]; exact hz x hx e), fb_sm_one hm]
  have walk : ∀ j x, x + j ≤ n → mbe c f j x = frs (fun m => decide (cbe c n = 2 ^ m)) j x := by
    intro j
    induction j with
    | zero => intro x _; rfl
    | succ j ih =>
      intro x hx
      rw [mbe, frs, ih (x + 1) (by omega)]
      by_cases h : 0 < c x ∧ c x = f
      · rw [if_pos h, if_pos (decide_eq_true ((key x (by omega)).mp h))]
      · rw [if_neg h, if_neg (by rw [decide_eq_true_eq]; exact fun z => h ((key x (by omega)).mpr z))]
  exact walk n 0 (by omega)
theorem akL_eq {c : Nat → Nat → Nat} {n k : Nat} : akL c n k = (match (bst c n k).1 with | none => (-2 : Int32) | some q => nI (mst (c q) n)) := by
  unfold akL
  cases e : (bst c n k).1 with
  | none => rfl
  | some q =>
    show nI (bst c n k).2 = nI (mst (c q) n)
    rw [bst_2 e]
end Cg2
/-- whom each sends: one each, none of those taken -/
def gI (n T : Nat) (g : Nat → Option Nat) : Prop := (∀ m q, g m = some q → m < n ∧ q < n ∧ T.testBit m = true ∧ T.testBit q = false) ∧ (∀ m m' q, g m = some q → g m' = some q → m = m') ∧ ∀ m, T.testBit m = true → m < n
theorem qG_gI {D : Nat → Nat} {DA : Nat → Nat → Nat} {lw : Nat} {sn C r : Nat → Nat} (hp : prm (D 1) r) : gI (D 1) (qT D DA lw sn r) (qG D DA lw sn C r) := by
  have hT : ∀ m, (qT D DA lw sn r).testBit m = true → m < D 1 := by
    intro m hm
    obtain ⟨i, hi, rfl⟩ := cms_in _ m hm
    exact hp.1 i hi
  refine ⟨fun m q h => ?_, fun m m' q h h' => ?_, hT⟩
  · have := qG_pay h
    exact ⟨hT m this.2.2.2, this.2.1, this.2.2.2, this.2.2.1⟩
  · have hi := rnf_iff (T := qT D DA lw sn r) (sn := sn) (W := DA 1) (A := DA 3) (C := C) hp (D 1) (Nat.le_refl _)
    have e : qG D DA lw sn C r = (rns (D 1) (qT D DA lw sn r) r sn (DA 1) (DA 3) C (D 1)).2 := (rG_n hp).1
    rw [e] at h h'
    have h1 := (hi.1 m q).mp h
    have h2 := (hi.1 m' q).mp h'
    rw [h1] at h2
    exact Option.some.inj h2
section GI
variable {n T : Nat} {g : Nat → Option Nat}
theorem gI_sdr (h : gI n T g) {m q : Nat} : sdr g q n 0 = some m ↔ g m = some q := by
  constructor
  · intro e; exact (sdr_at e).2.2
  · intro e
    cases hs : sdr g q n 0 with
    | none => exact absurd e (sdr_none hs m (Nat.zero_le _) (by have := (h.1 m q e).1; omega))
    | some m' => rw [h.2.1 m' m q (sdr_at hs).2.2 e]
theorem gng_s {k : Nat} : gng T g (k + 1) = if T.testBit k then gng T g k ||| 2 ^ ((g k).getD k) else gng T g k := by
  rw [gng]
  cases g k <;> rfl
theorem gng_bit (x : Nat) : ∀ k, (gng T g k).testBit x = decide (∃ m, m < k ∧ T.testBit m = true ∧ (g m).getD m = x)
  | 0 => by rw [gng]; simp
  | k + 1 => by
    have ih := gng_bit x k
    rw [gng_s]
    by_cases ht : T.testBit k = true
    · rw [if_pos ht, fb_bit_set, ih]
      by_cases e : x = (g k).getD k
      · rw [decide_eq_true e, Bool.or_true]
        exact (decide_eq_true ⟨k, by omega, ht, e.symm⟩).symm
      · rw [decide_eq_false e, Bool.or_false]
        refine decide_eq_decide.mpr ⟨fun ⟨m, a, b, c⟩ => ⟨m, by omega, b, c⟩, fun ⟨m, a, b, c⟩ => ?_⟩
        by_cases em : m = k
        · subst em; exact absurd c.symm e
        · exact ⟨m, by omega, b, c⟩
    · rw [if_neg ht, ih]
      refine decide_eq_decide.mpr ⟨fun ⟨m, a, b, c⟩ => ⟨m, by omega, b, c⟩, fun ⟨m, a, b, c⟩ => ?_⟩
      by_cases em : m = k
      · subst em; exact absurd b ht
      · exact ⟨m, by omega, b, c⟩
/-- who goes: a taken man who sends none, one who is sent -/
theorem gng_gos (h : gI n T g) (hn : n ≤ 6) (x : Nat) : (gng T g 6).testBit x = if T.testBit x then (g x).isNone else (sdr g x n 0).isSome := by
  rw [gng_bit x 6]
  by_cases ht : T.testBit x = true
  · rw [if_pos ht]
    cases e : g x with
    | none => exact decide_eq_true ⟨x, by have := h.2.2 x ht; omega, ht, by rw [e]; rfl⟩
    | some q =>
      refine decide_eq_false ?_
      rintro ⟨m, a, b, c⟩
      cases em : g m with
      | none =>
        rw [em] at c
        have c : m = x := c
        subst c
        rw [em] at e
        cases e
      | some p =>
        rw [em] at c
        have c : p = x := c
        subst c
        have := (h.1 m p em).2.2.2
        rw [this] at ht
        cases ht
  · rw [if_neg ht]
    cases hs : sdr g x n 0 with
    | none =>
      refine decide_eq_false ?_
      rintro ⟨m, a, b, c⟩
      cases em : g m with
      | none =>
        rw [em] at c
        have c : m = x := c
        subst c
        exact ht b
      | some p =>
        rw [em] at c
        have c : p = x := c
        subst c
        rw [(gI_sdr h).mpr em] at hs
        cases hs
    | some m =>
      have e := (gI_sdr h).mp hs
      have := h.1 m x e
      exact decide_eq_true ⟨m, by omega, this.2.2.1, by rw [e]; rfl⟩
theorem gng_gmg (h : gI n T g) (hn : n ≤ 6) {S : Nat} (hS : ∀ m, S.testBit m = (sdr g m n 0).isSome) : gng T g 6 = gmg S T g n := by
  apply Nat.eq_of_testBit_eq
  intro x
  rw [gng_gos h hn, gmg_bit, hS]
  by_cases ht : T.testBit x = true
  · have hx := h.2.2 x ht
    rw [if_pos ht, decide_eq_true hx, ht, Bool.true_and, Bool.true_and]
    cases hs : sdr g x n 0 with
    | none => rfl
    | some m =>
      have := (h.1 m x ((gI_sdr h).mp hs)).2.2.2
      rw [this] at ht
      cases ht
  · rw [if_neg ht, Bool.not_eq_true] at *
    rw [ht, Bool.false_and, Bool.and_false, Bool.or_false]
theorem gng_cg {g' : Nat → Option Nat} (h : ∀ m, T.testBit m = true → g m = g' m) : ∀ k, gng T g k = gng T g' k
  | 0 => rfl
  | k + 1 => by
    rw [gng, gng, gng_cg h k]
    by_cases ht : T.testBit k = true
    · rw [if_pos ht, if_pos ht, h k ht]
    · rw [if_neg ht, if_neg ht]
/-- a man's fate, both ways -/
theorem fte_mfte (h : gI n T g) {FR : Nat → Option Nat} (hF : ∀ q, q < n → FR q = sdr g q n 0) (hF2 : ∀ q m, FR q = some m → q < n) {m : Nat} (hm : m < n) : fte n T g m = mfte n T FR m := by
  unfold fte mfte
  rw [hF m hm]
  cases hs : sdr g m n 0 with
  | some m' =>
    have := (h.1 m' m ((gI_sdr h).mp hs)).2.2.2
    rw [this]
    rfl
  | none =>
    by_cases ht : T.testBit m = true
    · cases e : g m with
      | none =>
        have : sdr FR m n 0 = none := by
          cases e2 : sdr FR m n 0 with
          | none => rfl
          | some q =>
            have hq := sdr_at e2
            have h1 := hF q (by omega)
            rw [hq.2.2] at h1
            rw [(gI_sdr h).mp h1.symm] at e
            cases e
        simp [ht, this]
      | some q =>
        have hq := h.1 m q e
        have : (sdr FR m n 0).isSome = true := by
          cases e2 : sdr FR m n 0 with
          | some _ => rfl
          | none =>
            have := sdr_none e2 q (Nat.zero_le _) (by omega)
            rw [hF q hq.2.1, (gI_sdr h).mpr e] at this
            exact absurd rfl this
        simp [ht, this]
    · simp [ht]
theorem fte_odd (h : gI n T g) (hn : n ≤ 6) (m : Nat) : (gng T g 6).testBit m = decide (fte n T g m % 2 = 1) := by
  rw [gng_gos h hn]
  unfold fte
  by_cases ht : T.testBit m = true
  · rw [if_pos ht, if_pos ht]
    cases g m <;> simp
  · rw [if_neg ht, if_neg ht]
    cases sdr g m n 0 <;> simp
theorem ldr_none {Z : Nat} {i : Int32} (hz : ∀ m, n ≤ m → Z.testBit m = false) : ∀ k m c, n ≤ m → ldr Z i k m c = none
  | 0, m, c, _ => rfl
  | k + 1, m, c, hm => by
    rw [ldr, hz m hm, if_neg (by decide)]
    exact ldr_none hz k (m + 1) c (by omega)
theorem ldr_mldr {Z : Nat} {p : Nat → Bool} {i : Int32} (hp : ∀ m, m < n → Z.testBit m = p m) (hz : ∀ m, n ≤ m → Z.testBit m = false) : ∀ j k m c, m + j = n → j ≤ k → ldr Z i k m c = mldr p i j m c
  | 0, k, m, c, hm, _ => by
    rw [mldr]
    exact ldr_none hz k m c (by omega)
  | j + 1, 0, m, c, hm, hk => by omega
  | j + 1, k + 1, m, c, hm, hk => by
    rw [ldr, mldr, hp m (by omega), ldr_mldr hp hz j k (m + 1) (c + 1) (by omega) (by omega), ldr_mldr hp hz j k (m + 1) c (by omega) (by omega)]
end GI
