/-! Levy -/
abbrev dob (b : Nat) (tk mn kn sp hd hi er sh wn : Int32) : List Value := [.int tk, .int mn, .ref (b + 1), .ref (b + 2), .ref (b + 3), .ref (b + 4), .ref (b + 5), .int kn, .int sp, .int hd, .int hi, .int er, .int sh, .ref (b + 6), .int wn]
abbrev nob (b : Nat) (sp sd hl tk : Int32) : List Value := [.ref (b + 1), .ref (b + 2), .ref (b + 3), .ref (b + 4), .int sp, .int sd, .int hl, .int tk]
abbrev ai (f : Nat → Int32) : va_E := .inl (0, 6, .inl f)
def snd (o : Option Nat) : Int32 := match o with
  | none => -2
  | some q => nI q
/-- rows of small numbers -/
abbrev an (f : Nat → Nat) : va_E := .inl (0, 6, .inl (fun i => if i < 6 then nI (f i) else 0))
def bd (c : Nat) (f : Nat → Nat) : Prop := ∀ i, f i < c
theorem vp6 {k : Nat} (h : k < 6) : vp_in (nI k) 6 := vp_in_nI h (by decide)
theorem cl6 {k : Nat} (h : k < 6) : (nI k).toNatClampNeg = k := nI_clamp (by omega)
/-- whom each sends -/
abbrev sq (g : Nat → Option Nat) : va_E := .inl (0, 6, .inl (fun i => if i < 6 then snd (g i) else 0))
theorem sq_congr {g g' : Nat → Option Nat} (h : ∀ i, i < 6 → g i = g' i) : (fun i => if i < 6 then snd (g i) else (0 : Int32)) = (fun i => if i < 6 then snd (g' i) else 0) := by
  funext i
  split
  · rename_i hi; rw [h i hi]
  · rfl
theorem upd_s {g : Nat → Option Nat} {k : Nat} {o : Option Nat} (hk : k < 6) : upd (fun i => if i < 6 then snd (g i) else (0 : Int32)) k (snd o) = (fun i => if i < 6 then snd (va_up g k o i) else 0) := by
  funext i
  unfold upd va_up
  by_cases h : i = k
  · subst h; simp [hk]
  · simp [h]
theorem upd_n {f : Nat → Nat} {k y : Nat} (hk : k < 6) : upd (fun i => if i < 6 then nI (f i) else (0 : Int32)) k (nI y) = (fun i => if i < 6 then nI (va_up f k y i) else 0) := by
  funext i
  unfold upd va_up
  by_cases h : i = k
  · subst h; simp [hk]
  · simp [h]
theorem an_congr {f f' : Nat → Nat} (h : ∀ i, i < 6 → f i = f' i) : (fun i => if i < 6 then nI (f i) else (0 : Int32)) = (fun i => if i < 6 then nI (f' i) else 0) := by
  funext i
  split
  · rename_i hi; rw [h i hi]
  · rfl
section Short
variable {sta : mj_S} {Cl : mj_R} {M : mj_M} {T : Nat → mj_L → List Value → mj_H → Prop} {pc q len wp a k : Nat} {lv : mj_L} {st r : List Value} {h0 h : mj_H} {w : mj_W} {raw : Instr} {f : Nat → Nat} {g : Nat → Option Nat}
theorem g_n6 (hv : mj_Vw h0 w h) (j : Nat) (hk : k < 6) (he : mj_ent (mj_cd M) pc = some (q, .iaload, len, raw, wp)) (hj : mj_nth w j = some (a, an f)) (kk : mj_go sta Cl M T (q + len) lv (.int (nI (f k)) :: r) h) : mj_go sta Cl M T pc lv (.int (nI k) :: .ref a :: r) h := by
  refine g_iald hv j he hj (vp6 hk) ?_
  rw [cl6 hk, if_pos hk]
  exact kk
theorem g_s6 (hv : mj_Vw h0 w h) (j : Nat) (hk : k < 6) (he : mj_ent (mj_cd M) pc = some (q, .iaload, len, raw, wp)) (hj : mj_nth w j = some (a, sq g)) (kk : mj_go sta Cl M T (q + len) lv (.int (snd (g k)) :: r) h) : mj_go sta Cl M T pc lv (.int (nI k) :: .ref a :: r) h := by
  refine g_iald hv j he hj (vp6 hk) ?_
  rw [cl6 hk, if_pos hk]
  exact kk
theorem g_nst {y : Nat} (hv : mj_Vw h0 w h) (j : Nat) (hk : k < 6) (he : mj_ent (mj_cd M) pc = some (q, .iastore, len, raw, wp)) (hj : mj_nth w j = some (a, an f)) (kk : ∀ h, mj_Vw h0 (w.set j (a, an (va_up f k y))) h → mj_go sta Cl M T (q + len) lv r h) : mj_go sta Cl M T pc lv (.int (nI y) :: .int (nI k) :: .ref a :: r) h := by
  refine g_iast hv j he hj (vp6 hk) (fun h hv => ?_)
  rw [cl6 hk, upd_n hk] at hv
  exact kk h hv
theorem g_sst {o : Option Nat} (hv : mj_Vw h0 w h) (j : Nat) (hk : k < 6) (he : mj_ent (mj_cd M) pc = some (q, .iastore, len, raw, wp)) (hj : mj_nth w j = some (a, sq g)) (kk : ∀ h, mj_Vw h0 (w.set j (a, sq (va_up g k o))) h → mj_go sta Cl M T (q + len) lv r h) : mj_go sta Cl M T pc lv (.int (snd o) :: .int (nI k) :: .ref a :: r) h := by
  refine g_iast hv j he hj (vp6 hk) (fun h hv => ?_)
  rw [cl6 hk, upd_s hk] at hv
  exact kk h hv
end Short
theorem s_min (sta : mj_S) (d : Nat) (x y : Int32) : mj_Sx sta (d + 1) 283 [.int x, .int y] [] (fun v w => v = some (.int (if x ≤ y then x else y)) ∧ w = []) := by
  refine mj_Sx.mk m_J9_min (by decide) n_J9_min rfl (fun h hv => ?_)
  repeat (first | refine g_px rfl rfl rfl ?_)
  refine g_ic rfl (fun c => ?_) (fun c => ?_)
  · have c : y < x := c
    repeat (first | refine g_px rfl rfl rfl ?_)
    exact g_iret hv rfl rfl rfl rfl ⟨by rw [if_neg (Int32.not_le.mpr c)], rfl⟩
  · have c : ¬ y < x := c
    repeat (first | refine g_px rfl rfl rfl ?_)
    exact g_iret hv rfl rfl rfl rfl ⟨by rw [if_pos (Int32.not_lt.mp c)], rfl⟩
/-- the cheapest of those that may go, the first of like ones -/
def chp (ok : Nat → Bool) (A : Nat → Int32) : Nat → Option Nat
  | 0 => none
  | k + 1 => match chp ok A k with
    | none => if ok k then some k else none
    | some p => if ok k && decide (A k < A p) then some k else some p
def okc (bar : Nat) (so as : Nat → Int32) (cm wm : Int32) (q : Nat) : Bool := !bar.testBit q && (decide (so q ≠ 3) && (decide (as q ≤ cm) && decide (as q < wm)))
def lst (A : Nat → Int32) (z : Int32) (o : Option Nat) : Int32 := match o with
  | none => z
  | some p => A p - 1
theorem chp_ok {ok : Nat → Bool} {A : Nat → Int32} : ∀ {n p : Nat}, chp ok A n = some p → p < n ∧ ok p = true
  | 0, p, h => by cases h
  | n + 1, p, h => by
    unfold chp at h
    cases hc : chp ok A n with
    | none =>
      rw [hc] at h
      dsimp only at h
      split at h
      · rename_i hk; cases h; exact ⟨by omega, hk⟩
      · cases h
    | some q =>
      rw [hc] at h
      dsimp only at h
      have ih := chp_ok hc
      split at h
      · rename_i hk; cases h; exact ⟨by omega, by simp at hk; exact hk.1⟩
      · cases h; exact ⟨by omega, ih.2⟩
abbrev wch (b c : Nat) (n : Nat) (tk kn sp hd hi er sh wn s1 s2 s3 s4 : Int32) (wo as so co : Nat → Int32) : mj_W := [(b, .inr (1, dob b tk (nI n) kn sp hd hi er sh wn)), (c, .inr (5, nob c s1 s2 s3 s4)), (b + 2, ai wo), (b + 4, ai as), (c + 1, ai so), (c + 2, ai co)]
section Chp
variable (sta : mj_S) (d L b c n m bar : Nat) (tk kn sp hd hi er sh wn s1 s2 s3 s4 : Int32) (wo as so co : Nat → Int32)
theorem l_cheapest {h0 h : mj_H} {ks : List Nat} (hks : mj_ks (wch b c n tk kn sp hd hi er sh wn s1 s2 s3 s4 wo as so co) = ks) (hv : mj_Vw h0 (wch b c n tk kn sp hd hi er sh wn s1 s2 s3 s4 wo as so co) h) (hn : n ≤ 6) (hbar : bar < 64) (has : ∀ q, q < n → 0 ≤ as q) (z : Int32) (hz : ∀ q, q < n → (as q ≤ z ↔ as q ≤ co m ∧ as q < wo m)) :
    ∀ j k, k + j = n → mj_go sta (mj_Cl sta d) m_X4_cheapest (mj_rx m_X4_cheapest h0 ks (fun v w => v = some (.int (snd (chp (okc bar so as (co m) (wo m)) as n))) ∧ w = wch b c n tk kn sp hd hi er sh wn s1 s2 s3 s4 wo as so co)) 26
      [some (.ref L), some (.ref b), some (.ref c), some (.int (nI m)), some (.int (nI bar)), some (.int (snd (chp (okc bar so as (co m) (wo m)) as k))), some (.int (lst as z (chp (okc bar so as (co m) (wo m)) as k))), some (.int (nI k))] [] h := by
  intro j
  induction j with
  | zero =>
    intro k hk
    have hk : k = n := by omega
    subst hk
    repeat (first | refine g_px rfl rfl rfl ?_ | refine g_get hv 0 rfl rfl rfl rfl ?_ | refine g_get hv 1 rfl rfl rfl rfl ?_ | refine g_get hv 2 rfl rfl rfl rfl ?_ | refine g_get hv 3 rfl rfl rfl rfl ?_ | refine g_get hv 4 rfl rfl rfl rfl ?_ | refine g_get hv 5 rfl rfl rfl rfl ?_)
    refine g_ic rfl (fun c => ?_) (fun c => absurd (nI_le (Nat.le_refl k) (by omega)) c)
    repeat (first | refine g_px rfl rfl rfl ?_ | refine g_get hv 0 rfl rfl rfl rfl ?_ | refine g_get hv 1 rfl rfl rfl rfl ?_ | refine g_get hv 2 rfl rfl rfl rfl ?_ | refine g_get hv 3 rfl rfl rfl rfl ?_ | refine g_get hv 4 rfl rfl rfl rfl ?_ | refine g_get hv 5 rfl rfl rfl rfl ?_)
    exact g_iret hv rfl rfl rfl hks ⟨rfl, rfl⟩
  | succ j ih =>
    intro k hk
    have hkn : k < n := by omega
    have hk6 : k < 6 := by omega
    have hclamp := cl6 hk6
    -- the next round, with what it brings
    have next : ∀ o, o = chp (okc bar so as (co m) (wo m)) as (k + 1) → mj_go sta (mj_Cl sta d) m_X4_cheapest (mj_rx m_X4_cheapest h0 ks (fun v w => v = some (.int (snd (chp (okc bar so as (co m) (wo m)) as n))) ∧ w = wch b c n tk kn sp hd hi er sh wn s1 s2 s3 s4 wo as so co)) 83
      [some (.ref L), some (.ref b), some (.ref c), some (.int (nI m)), some (.int (nI bar)), some (.int (snd o)), some (.int (lst as z o)), some (.int (nI k))] [] h := by
      intro o ho
      subst ho
      refine g_run 2 rfl ?_
      have := ih (k + 1) (by omega)
      rw [nI_succ] at this
      exact this
    repeat (first | refine g_px rfl rfl rfl ?_ | refine g_get hv 0 rfl rfl rfl rfl ?_ | refine g_get hv 1 rfl rfl rfl rfl ?_ | refine g_get hv 2 rfl rfl rfl rfl ?_ | refine g_get hv 3 rfl rfl rfl rfl ?_ | refine g_get hv 4 rfl rfl rfl rfl ?_ | refine g_get hv 5 rfl rfl rfl rfl ?_)
    refine g_ic rfl (fun c => absurd c (nI_ge hkn (by omega))) (fun c => ?_)
    repeat (first | refine g_px rfl rfl rfl ?_ | refine g_get hv 0 rfl rfl rfl rfl ?_ | refine g_get hv 1 rfl rfl rfl rfl ?_ | refine g_get hv 2 rfl rfl rfl rfl ?_ | refine g_get hv 3 rfl rfl rfl rfl ?_ | refine g_get hv 4 rfl rfl rfl rfl ?_ | refine g_get hv 5 rfl rfl rfl rfl ?_)
    have hb := bt_get bar hbar k hk6
    refine g_if rfl (fun c => ?_) (fun c => ?_)
    · have c : ¬ ((nI bar >>> (nI k &&& 31)) &&& 1) = 0 := c
      have ht : bar.testBit k = true := by
        cases q : bar.testBit k with
        | true => rfl
        | false => rw [hb, q] at c; exact absurd rfl c
      refine next _ ?_
      have hok : okc bar so as (co m) (wo m) k = false := by simp [okc, ht]
      rw [chp]
      cases chp (okc bar so as (co m) (wo m)) as k <;> simp [hok]
    · have c : ¬ ¬ ((nI bar >>> (nI k &&& 31)) &&& 1) = 0 := c
      have ht : bar.testBit k = false := by
        cases q : bar.testBit k with
        | false => rfl
        | true => rw [hb, q] at c; exact absurd (by decide) c
      repeat (first | refine g_px rfl rfl rfl ?_ | refine g_get hv 0 rfl rfl rfl rfl ?_ | refine g_get hv 1 rfl rfl rfl rfl ?_ | refine g_get hv 2 rfl rfl rfl rfl ?_ | refine g_get hv 3 rfl rfl rfl rfl ?_ | refine g_get hv 4 rfl rfl rfl rfl ?_ | refine g_get hv 5 rfl rfl rfl rfl ?_)
      refine g_iald hv 4 rfl rfl (vp6 hk6) ?_
      rw [hclamp]
      repeat (first | refine g_px rfl rfl rfl ?_ | refine g_get hv 0 rfl rfl rfl rfl ?_ | refine g_get hv 1 rfl rfl rfl rfl ?_ | refine g_get hv 2 rfl rfl rfl rfl ?_ | refine g_get hv 3 rfl rfl rfl rfl ?_ | refine g_get hv 4 rfl rfl rfl rfl ?_ | refine g_get hv 5 rfl rfl rfl rfl ?_)
      refine g_ic rfl (fun c => ?_) (fun c => ?_)
      · have c : so k = 3 := c
        refine next _ ?_
        have hok : okc bar so as (co m) (wo m) k = false := by simp [okc, c]
        rw [chp]
        cases chp (okc bar so as (co m) (wo m)) as k <;> simp [hok]
      · have c : ¬ so k = 3 := c
        repeat (first | refine g_px rfl rfl rfl ?_ | refine g_get hv 0 rfl rfl rfl rfl ?_ | refine g_get hv 1 rfl rfl rfl rfl ?_ | refine g_get hv 2 rfl rfl rfl rfl ?_ | refine g_get hv 3 rfl rfl rfl rfl ?_ | refine g_get hv 4 rfl rfl rfl rfl ?_ | refine g_get hv 5 rfl rfl rfl rfl ?_)
        refine g_iald hv 3 rfl rfl (vp6 hk6) ?_
        rw [hclamp]
        repeat (first | refine g_px rfl rfl rfl ?_ | refine g_get hv 0 rfl rfl rfl rfl ?_ | refine g_get hv 1 rfl rfl rfl rfl ?_ | refine g_get hv 2 rfl rfl rfl rfl ?_ | refine g_get hv 3 rfl rfl rfl rfl ?_ | refine g_get hv 4 rfl rfl rfl rfl ?_ | refine g_get hv 5 rfl rfl rfl rfl ?_)
        have hcmp : as k ≤ lst as z (chp (okc bar so as (co m) (wo m)) as k) ↔ chp (okc bar so as (co m) (wo m)) as (k + 1) = some k := by
          rw [chp]
          cases hp : chp (okc bar so as (co m) (wo m)) as k with
          | none =>
            show as k ≤ z ↔ _
            rw [hz k hkn]
            simp [okc, ht, c]
          | some p =>
            have hpp := chp_ok hp
            show as k ≤ as p - 1 ↔ _
            rw [le_pred (has p (by omega))]
            have hop := hpp.2
            simp only [okc, Bool.and_eq_true, decide_eq_true_eq] at hop
            have : as k < as p → okc bar so as (co m) (wo m) k = true := by
              intro hlt
              simp only [okc, ht, Bool.not_false, Bool.true_and, Bool.and_eq_true, decide_eq_true_eq]
              exact ⟨c, Int32.le_trans (Int32.le_of_lt hlt) hop.2.2.1, Int32.lt_trans hlt hop.2.2.2⟩
            constructor
            · intro hlt
              simp [this hlt, hlt]
            · intro he
              dsimp only at he
              split at he
              · rename_i q; simp at q; exact q.2
              · cases he; omega
        refine g_ic rfl (fun c2 => ?_) (fun c2 => ?_)
        · have c2 : lst as z (chp (okc bar so as (co m) (wo m)) as k) < as k := c2
          refine next _ ?_
          have hne : ¬ chp (okc bar so as (co m) (wo m)) as (k + 1) = some k := fun q => absurd (hcmp.mpr q) (Int32.not_le.mpr c2)
          rw [chp] at hne ⊢
          cases hp : chp (okc bar so as (co m) (wo m)) as k with
          | none =>
            rw [hp] at hne
            dsimp only at hne ⊢
            split
            · rename_i q; rw [if_pos q] at hne; exact absurd rfl hne
            · rfl
          | some p =>
            rw [hp] at hne
            dsimp only at hne ⊢
            split
            · rename_i q; rw [if_pos q] at hne; exact absurd rfl hne
            · rfl
        · have c2 : ¬ lst as z (chp (okc bar so as (co m) (wo m)) as k) < as k := c2
          have he := hcmp.mp (Int32.not_lt.mp c2)
          repeat (first | refine g_px rfl rfl rfl ?_ | refine g_get hv 0 rfl rfl rfl rfl ?_ | refine g_get hv 1 rfl rfl rfl rfl ?_ | refine g_get hv 2 rfl rfl rfl rfl ?_ | refine g_get hv 3 rfl rfl rfl rfl ?_ | refine g_get hv 4 rfl rfl rfl rfl ?_ | refine g_get hv 5 rfl rfl rfl rfl ?_)
          refine g_iald hv 3 rfl rfl (vp6 hk6) ?_
          rw [hclamp]
          refine g_run 3 rfl ?_
          exact next (some k) he.symm
end Chp
def chn (ok : Nat → Bool) (A : Nat → Nat) : Nat → Option Nat
  | 0 => none
  | k + 1 => match chn ok A k with
    | none => if ok k then some k else none
    | some p => if ok k && decide (A k < A p) then some k else some p
def okn (bar : Nat) (sn A : Nat → Nat) (cm wm q : Nat) : Bool := !bar.testBit q && (decide (sn q ≠ 3) && (decide (A q ≤ cm) && decide (A q < wm)))
theorem lt3 : (3 : Int32) = nI 3 := by decide
theorem chn_ok {ok : Nat → Bool} {A : Nat → Nat} : ∀ {n p : Nat}, chn ok A n = some p → p < n ∧ ok p = true
  | 0, p, h => by cases h
  | n + 1, p, h => by
    unfold chn at h
    cases hc : chn ok A n with
    | none =>
      rw [hc] at h
      dsimp only at h
      split at h
      · rename_i hk; cases h; exact ⟨by omega, hk⟩
      · cases h
    | some q =>
      rw [hc] at h
      dsimp only at h
      have ih := chn_ok hc
      split at h
      · rename_i hk; cases h; exact ⟨by omega, by simp at hk; exact hk.1⟩
      · cases h; exact ⟨by omega, ih.2⟩
theorem okc_n {bar cm wm q : Nat} {sn A : Nat → Nat} {so as : Nat → Int32} (hs : so q = nI (sn q)) (ha : as q = nI (A q)) (h1 : sn q < 4) (h2 : A q < 1000) (h3 : cm < 1000) (h4 : wm < 1000) : okc bar so as (nI cm) (nI wm) q = okn bar sn A cm wm q := by
  unfold okc okn
  rw [hs, ha]
  have e1 : decide (nI (sn q) ≠ 3) = decide (sn q ≠ 3) := by
    rw [lt3]
    exact decide_eq_decide.mpr (not_congr (nI_eq (by omega) (by omega)))
  have e2 : decide (nI (A q) ≤ nI cm) = decide (A q ≤ cm) := decide_eq_decide.mpr (nI_leI (by omega) (by omega))
  have e3 : decide (nI (A q) < nI wm) = decide (A q < wm) := decide_eq_decide.mpr (nI_ltI (by omega) (by omega))
  rw [e1, e2, e3]
theorem chp_n {bar cm wm : Nat} {sn A : Nat → Nat} {so as : Nat → Int32} (hs : ∀ q, q < 6 → so q = nI (sn q)) (ha : ∀ q, q < 6 → as q = nI (A q)) (h1 : bd 4 sn) (h2 : bd 1000 A) (h3 : cm < 1000) (h4 : wm < 1000) : ∀ k, k ≤ 6 → chp (okc bar so as (nI cm) (nI wm)) as k = chn (okn bar sn A cm wm) A k
  | 0, _ => rfl
  | k + 1, hk => by
    rw [chp, chn, chp_n hs ha h1 h2 h3 h4 k (by omega), okc_n (hs k (by omega)) (ha k (by omega)) (h1 k) (h2 k) h3 h4]
    cases hc : chn (okn bar sn A cm wm) A k with
    | none => rfl
    | some p =>
      have a1 := h2 k
      have a2 := h2 p
      have hp : p < 6 := by have := (chn_ok hc).1; omega
      have e : decide (as k < as p) = decide (A k < A p) := by
        rw [ha k (by omega), ha p hp]
        exact decide_eq_decide.mpr (nI_ltI (by omega) (by omega))
      dsimp only
      rw [e]
theorem nI_pos0 {k : Nat} (h : k < 1000) : 0 ≤ nI k := nI_pos' (by omega)
/-- a draft's and a now's cells, those that a levy reads -/
abbrev wcn (b c n : Nat) (tk kn sp hd hi er sh wn s1 s2 s3 s4 : Int32) (W A sn C : Nat → Nat) : mj_W := [(b, .inr (1, dob b tk (nI n) kn sp hd hi er sh wn)), (c, .inr (5, nob c s1 s2 s3 s4)), (b + 2, an W), (b + 4, an A), (c + 1, an sn), (c + 2, an C)]
theorem s_cheapest (sta : mj_S) (d L b c n m bar : Nat) (tk kn sp hd hi er sh wn s1 s2 s3 s4 : Int32) (W A sn C : Nat → Nat) (hn : n ≤ 6) (hm : m < 6) (hbar : bar < 64) (hW : bd 1000 W) (hA : bd 1000 A) (hsn : bd 4 sn) (hC : bd 1000 C) :
    mj_Sx sta (d + 2) 31 [.ref L, .ref b, .ref c, .int (nI m), .int (nI bar)] (wcn b c n tk kn sp hd hi er sh wn s1 s2 s3 s4 W A sn C) (fun v w => v = some (.int (snd (chn (okn bar sn A (C m) (W m)) A n))) ∧ w = wcn b c n tk kn sp hd hi er sh wn s1 s2 s3 s4 W A sn C) := by
  refine mj_Sx.mk m_X4_cheapest (by decide) n_X4_cheapest rfl (fun h hv => ?_)
  repeat (first | refine g_px rfl rfl rfl ?_ | refine g_get hv 0 rfl rfl rfl rfl ?_ | refine g_get hv 1 rfl rfl rfl rfl ?_ | refine g_get hv 2 rfl rfl rfl rfl ?_ | refine g_get hv 3 rfl rfl rfl rfl ?_ | refine g_get hv 4 rfl rfl rfl rfl ?_ | refine g_get hv 5 rfl rfl rfl rfl ?_)
  refine g_n6 hv 5 hm rfl rfl ?_
  repeat (first | refine g_px rfl rfl rfl ?_ | refine g_get hv 0 rfl rfl rfl rfl ?_ | refine g_get hv 1 rfl rfl rfl rfl ?_ | refine g_get hv 2 rfl rfl rfl rfl ?_ | refine g_get hv 3 rfl rfl rfl rfl ?_ | refine g_get hv 4 rfl rfl rfl rfl ?_ | refine g_get hv 5 rfl rfl rfl rfl ?_)
  refine g_n6 hv 2 hm rfl rfl ?_
  repeat (first | refine g_px rfl rfl rfl ?_ | refine g_get hv 0 rfl rfl rfl rfl ?_ | refine g_get hv 1 rfl rfl rfl rfl ?_ | refine g_get hv 2 rfl rfl rfl rfl ?_ | refine g_get hv 3 rfl rfl rfl rfl ?_ | refine g_get hv 4 rfl rfl rfl rfl ?_ | refine g_get hv 5 rfl rfl rfl rfl ?_)
  refine g_callS hv [] rfl rfl rfl rfl rfl rfl rfl (by decide) (s_min sta d _ _) (fun v w' h hp hk hv => ?_)
  obtain ⟨rfl, rfl⟩ := hp
  refine g_run 3 rfl ?_
  have f6 : ∀ (f : Nat → Nat) q, q < 6 → (fun i => if i < 6 then nI (f i) else (0 : Int32)) q = nI (f q) := fun f q hq => if_pos hq
  have hz : ∀ q, q < n → ((fun i => if i < 6 then nI (A i) else (0 : Int32)) q ≤ (if nI (C m) ≤ nI (W m) - 1 then nI (C m) else nI (W m) - 1) ↔ (fun i => if i < 6 then nI (A i) else (0 : Int32)) q ≤ (fun i => if i < 6 then nI (C i) else (0 : Int32)) m ∧ (fun i => if i < 6 then nI (A i) else (0 : Int32)) q < (fun i => if i < 6 then nI (W i) else (0 : Int32)) m) := by
    intro q hq
    have w0 : 0 ≤ nI (W m) := nI_pos0 (hW m)
    rw [f6 A q (by omega), f6 C m hm, f6 W m hm, ← le_pred w0]
    split
    · rename_i hle
      exact ⟨fun z => ⟨z, Int32.le_trans z hle⟩, fun z => z.1⟩
    · rename_i hle
      have hlt := Int32.le_of_lt (Int32.not_le.mp hle)
      exact ⟨fun z => ⟨Int32.le_trans z hlt, z⟩, fun z => z.2⟩
  have key := l_cheapest sta (d + 1) L b c n m bar tk kn sp hd hi er sh wn s1 s2 s3 s4 (fun i => if i < 6 then nI (W i) else 0) (fun i => if i < 6 then nI (A i) else 0) (fun i => if i < 6 then nI (sn i) else 0) (fun i => if i < 6 then nI (C i) else 0) rfl hv hn hbar (fun q hq => by rw [if_pos (show q < 6 by omega)]; exact nI_pos0 (hA q)) _ hz n 0 (by omega)
  rw [if_pos hm, if_pos hm, chp_n (f6 sn) (f6 A) hsn hA (hC m) (hW m) n hn] at key
  exact key
/-- who is taken, and how many, of the first k of a row -/
def cms (t : Nat) (r sn kn : Nat → Nat) (lw : Nat) : Nat → Nat × Nat
  | 0 => (0, 0)
  | k + 1 => if (cms t r sn kn lw k).2 < t ∧ lw.testBit (sn (r k)) = false ∧ kn (r k) &&& (cms t r sn kn lw k).1 = 0 then ((cms t r sn kn lw k).1 ||| 2 ^ (r k), (cms t r sn kn lw k).2 + 1) else cms t r sn kn lw k
def cld (t : Nat) (r sn kn : Nat → Nat) (lw : Nat) : Nat → Nat → Nat
  | 0, k => k
  | j + 1, k => if (cms t r sn kn lw k).2 < t then cld t r sn kn lw j (k + 1) else k
theorem cms_lt {t : Nat} {r sn kn : Nat → Nat} {lw : Nat} (hr : bd 6 r) : ∀ k, (cms t r sn kn lw k).1 < 64 ∧ (cms t r sn kn lw k).2 ≤ k
  | 0 => ⟨Nat.le_of_ble_eq_true rfl, Nat.le_refl _⟩
  | k + 1 => by
    have ih := cms_lt (t := t) (sn := sn) (kn := kn) (lw := lw) hr k
    rw [cms]
    split
    · exact ⟨bt_lt _ ih.1 _ (hr k), by show _ + 1 ≤ k + 1; omega⟩
    · exact ⟨ih.1, by omega⟩
theorem cms_stop {t : Nat} {r sn kn : Nat → Nat} {lw : Nat} {k : Nat} (h : ¬ (cms t r sn kn lw k).2 < t) : ∀ j, cms t r sn kn lw (k + j) = cms t r sn kn lw k
  | 0 => rfl
  | j + 1 => by
    have ih := cms_stop h j
    show cms t r sn kn lw ((k + j) + 1) = _
    rw [cms, if_neg (fun q => h (by rw [ih] at q; exact q.1)), ih]
abbrev lob (L : Nat) (tb sb cl : Int32) : List Value := [.int tb, .int sb, .int cl, .ref (L + 1)]
theorem bt16 : ∀ b, b < 16 → ∀ k, k < 4 → ((nI b >>> (nI k &&& 31)) &&& 1) = if b.testBit k then 1 else 0 := by decide +kernel
theorem and0 : ∀ a, a < 64 → ∀ b, b < 64 → (nI a &&& nI b = 0 ↔ a &&& b = 0) := by decide +kernel
abbrev wcm (L b c ro n t : Nat) (tb sb cl kn sp hd hi er sh wn s1 s2 s3 s4 : Int32) (sn kin r : Nat → Nat) : mj_W := [(L, .inr (4, lob L tb sb cl)), (b, .inr (1, dob b (nI t) (nI n) kn sp hd hi er sh wn)), (c, .inr (5, nob c s1 s2 s3 s4)), (c + 1, an sn), (b + 5, an kin), (ro, an r)]
section CallMen
variable (sta : mj_S) (d L b c ro n t lw : Nat) (sb kn sp hd hi er sh wn s1 s2 s3 s4 : Int32) (sn kin r : Nat → Nat)
theorem l_callMen {h0 : mj_H} (hn : n ≤ 6) (ht : t ≤ 6) (hlw : lw < 16) (hsn : bd 4 sn) (hkin : bd 64 kin) (hr : bd 6 r) :
    ∀ j k h o, k + j = n → mj_Vw h0 (wcm L b c ro n t (nI (cms t r sn kin lw k).1) sb (nI k) kn sp hd hi er sh wn s1 s2 s3 s4 sn kin r) h → mj_go sta (mj_Cl sta d) m_X4_callMen (mj_rx m_X4_callMen h0 [L, b, c, c + 1, b + 5, ro] (fun v w => v = none ∧ w = wcm L b c ro n t (nI (cms t r sn kin lw n).1) sb (nI (cld t r sn kin lw j k)) kn sp hd hi er sh wn s1 s2 s3 s4 sn kin r)) 13
      [some (.ref L), some (.ref b), some (.ref c), some (.int (nI lw)), some (.ref ro), some (.int (nI (cms t r sn kin lw k).2)), o] [] h := by
  intro j
  induction j with
  | zero =>
    intro k h o hk hv
    have hk : k = n := by omega
    subst hk
    repeat (first | refine g_px rfl rfl rfl ?_ | refine g_get hv 0 rfl rfl rfl rfl ?_ | refine g_get hv 1 rfl rfl rfl rfl ?_ | refine g_get hv 2 rfl rfl rfl rfl ?_ | refine g_get hv 3 rfl rfl rfl rfl ?_ | refine g_get hv 4 rfl rfl rfl rfl ?_ | refine g_get hv 5 rfl rfl rfl rfl ?_)
    refine g_ic rfl (fun cq => ?_) (fun cq => absurd (nI_le (Nat.le_refl k) (by omega)) cq)
    exact g_vret hv rfl rfl rfl ⟨rfl, rfl⟩
  | succ j ih =>
    intro k h o hk hv
    have hkn : k < n := by omega
    have hk6 : k < 6 := by omega
    obtain ⟨b1, b2⟩ := cms_lt (t := t) (sn := sn) (kn := kin) (lw := lw) hr k
    repeat (first | refine g_px rfl rfl rfl ?_ | refine g_get hv 0 rfl rfl rfl rfl ?_ | refine g_get hv 1 rfl rfl rfl rfl ?_ | refine g_get hv 2 rfl rfl rfl rfl ?_ | refine g_get hv 3 rfl rfl rfl rfl ?_ | refine g_get hv 4 rfl rfl rfl rfl ?_ | refine g_get hv 5 rfl rfl rfl rfl ?_)
    refine g_ic rfl (fun cq => absurd cq (nI_ge hkn (by omega))) (fun cq => ?_)
    repeat (first | refine g_px rfl rfl rfl ?_ | refine g_get hv 0 rfl rfl rfl rfl ?_ | refine g_get hv 1 rfl rfl rfl rfl ?_ | refine g_get hv 2 rfl rfl rfl rfl ?_ | refine g_get hv 3 rfl rfl rfl rfl ?_ | refine g_get hv 4 rfl rfl rfl rfl ?_ | refine g_get hv 5 rfl rfl rfl rfl ?_)
    refine g_ic rfl (fun cq => ?_) (fun cq => ?_)
    · have cq : nI t ≤ nI (cms t r sn kin lw k).2 := cq
      have hc : ¬ (cms t r sn kin lw k).2 < t := Nat.not_lt.mpr ((nI_leI (by omega) (by omega)).mp cq)
      refine g_vret hv rfl rfl rfl ⟨rfl, ?_⟩
      rw [cld, if_neg hc, show n = k + (j + 1) by omega, cms_stop hc]
    · have cq : ¬ nI t ≤ nI (cms t r sn kin lw k).2 := cq
      have hc : (cms t r sn kin lw k).2 < t := Nat.not_le.mp (fun q => cq (nI_le q (by omega)))
      have hm : r k < 6 := hr k
      repeat (first | refine g_px rfl rfl rfl ?_ | refine g_get hv 0 rfl rfl rfl rfl ?_ | refine g_get hv 1 rfl rfl rfl rfl ?_ | refine g_get hv 2 rfl rfl rfl rfl ?_ | refine g_get hv 3 rfl rfl rfl rfl ?_ | refine g_get hv 4 rfl rfl rfl rfl ?_ | refine g_get hv 5 rfl rfl rfl rfl ?_)
      refine g_n6 hv 5 hk6 rfl rfl ?_
      repeat (first | refine g_px rfl rfl rfl ?_ | refine g_get hv 0 rfl rfl rfl rfl ?_ | refine g_get hv 1 rfl rfl rfl rfl ?_ | refine g_get hv 2 rfl rfl rfl rfl ?_ | refine g_get hv 3 rfl rfl rfl rfl ?_ | refine g_get hv 4 rfl rfl rfl rfl ?_ | refine g_get hv 5 rfl rfl rfl rfl ?_)
      refine g_n6 hv 3 hm rfl rfl ?_
      repeat (first | refine g_px rfl rfl rfl ?_ | refine g_get hv 0 rfl rfl rfl rfl ?_ | refine g_get hv 1 rfl rfl rfl rfl ?_ | refine g_get hv 2 rfl rfl rfl rfl ?_ | refine g_get hv 3 rfl rfl rfl rfl ?_ | refine g_get hv 4 rfl rfl rfl rfl ?_ | refine g_get hv 5 rfl rfl rfl rfl ?_)
      have hbit := bt16 lw hlw (sn (r k)) (hsn _)
      have next : ∀ T q h, (T, q) = cms t r sn kin lw (k + 1) → mj_Vw h0 (wcm L b c ro n t (nI T) sb (nI k) kn sp hd hi er sh wn s1 s2 s3 s4 sn kin r) h → mj_go sta (mj_Cl sta d) m_X4_callMen (mj_rx m_X4_callMen h0 [L, b, c, c + 1, b + 5, ro] (fun v w => v = none ∧ w = wcm L b c ro n t (nI (cms t r sn kin lw n).1) sb (nI (cld t r sn kin lw (j + 1) k)) kn sp hd hi er sh wn s1 s2 s3 s4 sn kin r)) 87
        [some (.ref L), some (.ref b), some (.ref c), some (.int (nI lw)), some (.ref ro), some (.int (nI q)), some (.int (nI (r k)))] [] h := by
        intro T q h e hv
        repeat (first | refine g_px rfl rfl rfl ?_ | refine g_get hv 0 rfl rfl rfl rfl ?_ | refine g_get hv 1 rfl rfl rfl rfl ?_ | refine g_get hv 2 rfl rfl rfl rfl ?_ | refine g_get hv 3 rfl rfl rfl rfl ?_ | refine g_get hv 4 rfl rfl rfl rfl ?_ | refine g_get hv 5 rfl rfl rfl rfl ?_)
        refine g_put hv 0 rfl rfl rfl rfl rfl rfl (fun h hv => ?_)
        refine g_run 1 rfl ?_
        rw [cld, if_pos hc]
        have e1 : T = (cms t r sn kin lw (k + 1)).1 := by rw [← e]
        have e2 : q = (cms t r sn kin lw (k + 1)).2 := by rw [← e]
        subst e1; subst e2
        refine ih (k + 1) h _ (by omega) ?_
        have hv : mj_Vw h0 (wcm L b c ro n t (nI (cms t r sn kin lw (k + 1)).1) sb (nI k + 1) kn sp hd hi er sh wn s1 s2 s3 s4 sn kin r) h := hv
        rw [← nI_succ] at hv
        exact hv
      refine g_if rfl (fun cq => ?_) (fun cq => ?_)
      · have cq : ¬ ((nI lw >>> (nI (sn (r k)) &&& 31)) &&& 1) = 0 := cq
        have ht : lw.testBit (sn (r k)) = true := by
          cases q : lw.testBit (sn (r k)) with
          | true => rfl
          | false => rw [hbit, q] at cq; exact absurd rfl cq
        refine next _ _ _ ?_ hv
        rw [cms, if_neg (fun z => by rw [ht] at z; cases z.2.1)]
      · have cq : ¬ ¬ ((nI lw >>> (nI (sn (r k)) &&& 31)) &&& 1) = 0 := cq
        have ht : lw.testBit (sn (r k)) = false := by
          cases q : lw.testBit (sn (r k)) with
          | false => rfl
          | true => rw [hbit, q] at cq; exact absurd (by decide) cq
        repeat (first | refine g_px rfl rfl rfl ?_ | refine g_get hv 0 rfl rfl rfl rfl ?_ | refine g_get hv 1 rfl rfl rfl rfl ?_ | refine g_get hv 2 rfl rfl rfl rfl ?_ | refine g_get hv 3 rfl rfl rfl rfl ?_ | refine g_get hv 4 rfl rfl rfl rfl ?_ | refine g_get hv 5 rfl rfl rfl rfl ?_)
        refine g_n6 hv 4 hm rfl rfl ?_
        repeat (first | refine g_px rfl rfl rfl ?_ | refine g_get hv 0 rfl rfl rfl rfl ?_ | refine g_get hv 1 rfl rfl rfl rfl ?_ | refine g_get hv 2 rfl rfl rfl rfl ?_ | refine g_get hv 3 rfl rfl rfl rfl ?_ | refine g_get hv 4 rfl rfl rfl rfl ?_ | refine g_get hv 5 rfl rfl rfl rfl ?_)
        have h0' := and0 (kin (r k)) (hkin _) _ b1
        refine g_if rfl (fun cq => ?_) (fun cq => ?_)
        · have cq : ¬ nI (kin (r k)) &&& nI (cms t r sn kin lw k).1 = 0 := cq
          refine next _ _ _ ?_ hv
          rw [cms, if_neg (fun z => cq (h0'.mpr z.2.2))]
        · have cq : ¬ ¬ nI (kin (r k)) &&& nI (cms t r sn kin lw k).1 = 0 := cq
          have hz := h0'.mp (Decidable.not_not.mp cq)
          repeat (first | refine g_px rfl rfl rfl ?_ | refine g_get hv 0 rfl rfl rfl rfl ?_ | refine g_get hv 1 rfl rfl rfl rfl ?_ | refine g_get hv 2 rfl rfl rfl rfl ?_ | refine g_get hv 3 rfl rfl rfl rfl ?_ | refine g_get hv 4 rfl rfl rfl rfl ?_ | refine g_get hv 5 rfl rfl rfl rfl ?_)
          refine g_put hv 0 rfl rfl rfl rfl rfl rfl (fun h hv => ?_)
          refine g_run 1 rfl ?_
          have hs := bt_set _ b1 _ hm
          have hv : mj_Vw h0 (wcm L b c ro n t (nI (cms t r sn kin lw k).1 ||| ((1 : Int32) <<< (nI (r k) &&& 31))) sb (nI k) kn sp hd hi er sh wn s1 s2 s3 s4 sn kin r) h := hv
          rw [hs] at hv
          have := next _ ((cms t r sn kin lw k).2 + 1) h (by rw [cms, if_pos ⟨hc, ht, hz⟩]) hv
          rw [nI_succ] at this
          exact this
theorem s_callMen (tb cl : Int32) (hn : n ≤ 6) (ht : t ≤ 6) (hlw : lw < 16) (hsn : bd 4 sn) (hkin : bd 64 kin) (hr : bd 6 r) : mj_Sx sta (d + 1) 30 [.ref L, .ref b, .ref c, .int (nI lw), .ref ro] (wcm L b c ro n t tb sb cl kn sp hd hi er sh wn s1 s2 s3 s4 sn kin r)
    (fun v w => v = none ∧ w = wcm L b c ro n t (nI (cms t r sn kin lw n).1) sb (nI (cld t r sn kin lw n 0)) kn sp hd hi er sh wn s1 s2 s3 s4 sn kin r) := by
  refine mj_Sx.mk m_X4_callMen (by decide) n_X4_callMen rfl (fun h hv => ?_)
  repeat (first | refine g_px rfl rfl rfl ?_ | refine g_get hv 0 rfl rfl rfl rfl ?_ | refine g_get hv 1 rfl rfl rfl rfl ?_ | refine g_get hv 2 rfl rfl rfl rfl ?_ | refine g_get hv 3 rfl rfl rfl rfl ?_ | refine g_get hv 4 rfl rfl rfl rfl ?_ | refine g_get hv 5 rfl rfl rfl rfl ?_)
  refine g_put hv 0 rfl rfl rfl rfl rfl rfl (fun h hv => ?_)
  repeat (first | refine g_px rfl rfl rfl ?_ | refine g_get hv 0 rfl rfl rfl rfl ?_ | refine g_get hv 1 rfl rfl rfl rfl ?_ | refine g_get hv 2 rfl rfl rfl rfl ?_ | refine g_get hv 3 rfl rfl rfl rfl ?_ | refine g_get hv 4 rfl rfl rfl rfl ?_ | refine g_get hv 5 rfl rfl rfl rfl ?_)
  refine g_put hv 0 rfl rfl rfl rfl rfl rfl (fun h hv => ?_)
  refine g_run 2 rfl ?_
  exact l_callMen sta d L b c ro n t lw sb kn sp hd hi er sh wn s1 s2 s3 s4 sn kin r hn ht hlw hsn hkin hr n 0 h _ (by omega) hv
end CallMen
