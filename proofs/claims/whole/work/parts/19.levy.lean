/-! Levy -/
abbrev dob (b : Nat) (tk mn kn sp hd hi er sh wn : Int32) : List Value := [.int tk, .int mn, .ref (b + 1), .ref (b + 2), .ref (b + 3), .ref (b + 4), .ref (b + 5), .int kn, .int sp, .int hd, .int hi, .int er, .int sh, .ref (b + 6), .int wn]
abbrev nob (b : Nat) (sp sd hl tk : Int32) : List Value := [.ref (b + 1), .ref (b + 2), .ref (b + 3), .ref (b + 4), .int sp, .int sd, .int hl, .int tk]
abbrev ai (f : Nat → Int32) : va_E := .inl (0, 6, .inl f)
def snd (o : Option Nat) : Int32 := match o with
  | none => -2
  | some q => nI q
theorem s_min (sta : mj_S) (d : Nat) (x y : Int32) : mj_Sx sta (d + 1) 283 [.int x, .int y] [] (fun v w => v = some (.int (if x ≤ y then x else y)) ∧ w = []) := by
  refine mj_Sx.mk m_J9_min (by decide) n_J9_min rfl (fun h hv => ?_)
  repeat (first | refine g_px rfl rfl rfl ?_)
  refine g_ic rfl (fun c => ?_) (fun c => ?_)
  · have c : y < x := c
    repeat (first | refine g_px rfl rfl rfl ?_)
    exact g_iret hv rfl rfl rfl rfl ⟨by rw [if_neg (Int32.not_le.mpr c)], rfl⟩
  · have c : ¬ y < x := c
    repeat (first | refine g_px rfl rfl rfl ?_)
    exact g_iret hv rfl rfl rfl rfl ⟨by rw [if_pos (Int32.not_lt.mp c)], rfl⟩
/-- the cheapest of those that may go, the first of like ones -/
def chp (ok : Nat → Bool) (A : Nat → Int32) : Nat → Option Nat
  | 0 => none
  | k + 1 => match chp ok A k with
    | none => if ok k then some k else none
    | some p => if ok k && decide (A k < A p) then some k else some p
def okc (bar : Nat) (so as : Nat → Int32) (cm wm : Int32) (q : Nat) : Bool := !bar.testBit q && (decide (so q ≠ 3) && (decide (as q ≤ cm) && decide (as q < wm)))
def lst (A : Nat → Int32) (z : Int32) (o : Option Nat) : Int32 := match o with
  | none => z
  | some p => A p - 1
theorem chp_ok {ok : Nat → Bool} {A : Nat → Int32} : ∀ {n p : Nat}, chp ok A n = some p → p < n ∧ ok p = true
  | 0, p, h => by cases h
  | n + 1, p, h => by
    unfold chp at h
    cases hc : chp ok A n with
    | none =>
      rw [hc] at h
      dsimp only at h
      split at h
      · rename_i hk; cases h; exact ⟨by omega, hk⟩
      · cases h
    | some q =>
      rw [hc] at h
      dsimp only at h
      have ih := chp_ok hc
      split at h
      · rename_i hk; cases h; exact ⟨by omega, by simp at hk; exact hk.1⟩
      · cases h; exact ⟨by omega, ih.2⟩
abbrev wch (b c : Nat) (n : Nat) (tk kn sp hd hi er sh wn s1 s2 s3 s4 : Int32) (wo as so co : Nat → Int32) : mj_W := [(b, .inr (1, dob b tk (nI n) kn sp hd hi er sh wn)), (c, .inr (5, nob c s1 s2 s3 s4)), (b + 2, ai wo), (b + 4, ai as), (c + 1, ai so), (c + 2, ai co)]
section Chp
variable (sta : mj_S) (d L b c n m bar : Nat) (tk kn sp hd hi er sh wn s1 s2 s3 s4 : Int32) (wo as so co : Nat → Int32)
theorem vp6 {k : Nat} (h : k < 6) : vp_in (nI k) 6 := vp_in_nI h (by decide)
theorem cl6 {k : Nat} (h : k < 6) : (nI k).toNatClampNeg = k := nI_clamp (by omega)
theorem l_cheapest {h0 h : mj_H} {ks : List Nat} (hks : mj_ks (wch b c n tk kn sp hd hi er sh wn s1 s2 s3 s4 wo as so co) = ks) (hv : mj_Vw h0 (wch b c n tk kn sp hd hi er sh wn s1 s2 s3 s4 wo as so co) h) (hn : n ≤ 6) (hbar : bar < 64) (has : ∀ q, q < n → 0 ≤ as q) (z : Int32) (hz : ∀ q, q < n → (as q ≤ z ↔ as q ≤ co m ∧ as q < wo m)) :
    ∀ j k, k + j = n → mj_go sta (mj_Cl sta d) m_X4_cheapest (mj_rx m_X4_cheapest h0 ks (fun v w => v = some (.int (snd (chp (okc bar so as (co m) (wo m)) as n))) ∧ w = wch b c n tk kn sp hd hi er sh wn s1 s2 s3 s4 wo as so co)) 26
      [some (.ref L), some (.ref b), some (.ref c), some (.int (nI m)), some (.int (nI bar)), some (.int (snd (chp (okc bar so as (co m) (wo m)) as k))), some (.int (lst as z (chp (okc bar so as (co m) (wo m)) as k))), some (.int (nI k))] [] h := by
  intro j
  induction j with
  | zero =>
    intro k hk
    have hk : k = n := by omega
    subst hk
    repeat (first | refine g_px rfl rfl rfl ?_ | refine g_get hv 0 rfl rfl rfl rfl ?_ | refine g_get hv 1 rfl rfl rfl rfl ?_ | refine g_get hv 2 rfl rfl rfl rfl ?_ | refine g_get hv 3 rfl rfl rfl rfl ?_ | refine g_get hv 4 rfl rfl rfl rfl ?_ | refine g_get hv 5 rfl rfl rfl rfl ?_)
    refine g_ic rfl (fun c => ?_) (fun c => absurd (nI_le (Nat.le_refl k) (by omega)) c)
    repeat (first | refine g_px rfl rfl rfl ?_ | refine g_get hv 0 rfl rfl rfl rfl ?_ | refine g_get hv 1 rfl rfl rfl rfl ?_ | refine g_get hv 2 rfl rfl rfl rfl ?_ | refine g_get hv 3 rfl rfl rfl rfl ?_ | refine g_get hv 4 rfl rfl rfl rfl ?_ | refine g_get hv 5 rfl rfl rfl rfl ?_)
    exact g_iret hv rfl rfl rfl hks ⟨rfl, rfl⟩
  | succ j ih =>
    intro k hk
    have hkn : k < n := by omega
    have hk6 : k < 6 := by omega
    have hclamp := cl6 hk6
    -- the next round, with what it brings
    have next : ∀ o, o = chp (okc bar so as (co m) (wo m)) as (k + 1) → mj_go sta (mj_Cl sta d) m_X4_cheapest (mj_rx m_X4_cheapest h0 ks (fun v w => v = some (.int (snd (chp (okc bar so as (co m) (wo m)) as n))) ∧ w = wch b c n tk kn sp hd hi er sh wn s1 s2 s3 s4 wo as so co)) 83
      [some (.ref L), some (.ref b), some (.ref c), some (.int (nI m)), some (.int (nI bar)), some (.int (snd o)), some (.int (lst as z o)), some (.int (nI k))] [] h := by
      intro o ho
      subst ho
      refine g_run 2 rfl ?_
      have := ih (k + 1) (by omega)
      rw [nI_succ] at this
      exact this
    repeat (first | refine g_px rfl rfl rfl ?_ | refine g_get hv 0 rfl rfl rfl rfl ?_ | refine g_get hv 1 rfl rfl rfl rfl ?_ | refine g_get hv 2 rfl rfl rfl rfl ?_ | refine g_get hv 3 rfl rfl rfl rfl ?_ | refine g_get hv 4 rfl rfl rfl rfl ?_ | refine g_get hv 5 rfl rfl rfl rfl ?_)
    refine g_ic rfl (fun c => absurd c (nI_ge hkn (by omega))) (fun c => ?_)
    repeat (first | refine g_px rfl rfl rfl ?_ | refine g_get hv 0 rfl rfl rfl rfl ?_ | refine g_get hv 1 rfl rfl rfl rfl ?_ | refine g_get hv 2 rfl rfl rfl rfl ?_ | refine g_get hv 3 rfl rfl rfl rfl ?_ | refine g_get hv 4 rfl rfl rfl rfl ?_ | refine g_get hv 5 rfl rfl rfl rfl ?_)
    have hb := bt_get bar hbar k hk6
    refine g_if rfl (fun c => ?_) (fun c => ?_)
    · have c : ¬ ((nI bar >>> (nI k &&& 31)) &&& 1) = 0 := c
      have ht : bar.testBit k = true := by
        cases q : bar.testBit k with
        | true => rfl
        | false => rw [hb, q] at c; exact absurd rfl c
      refine next _ ?_
      have hok : okc bar so as (co m) (wo m) k = false := by simp [okc, ht]
      rw [chp]
      cases chp (okc bar so as (co m) (wo m)) as k <;> simp [hok]
    · have c : ¬ ¬ ((nI bar >>> (nI k &&& 31)) &&& 1) = 0 := c
      have ht : bar.testBit k = false := by
        cases q : bar.testBit k with
        | false => rfl
        | true => rw [hb, q] at c; exact absurd (by decide) c
      repeat (first | refine g_px rfl rfl rfl ?_ | refine g_get hv 0 rfl rfl rfl rfl ?_ | refine g_get hv 1 rfl rfl rfl rfl ?_ | refine g_get hv 2 rfl rfl rfl rfl ?_ | refine g_get hv 3 rfl rfl rfl rfl ?_ | refine g_get hv 4 rfl rfl rfl rfl ?_ | refine g_get hv 5 rfl rfl rfl rfl ?_)
      refine g_iald hv 4 rfl rfl (vp6 hk6) ?_
      rw [hclamp]
      repeat (first | refine g_px rfl rfl rfl ?_ | refine g_get hv 0 rfl rfl rfl rfl ?_ | refine g_get hv 1 rfl rfl rfl rfl ?_ | refine g_get hv 2 rfl rfl rfl rfl ?_ | refine g_get hv 3 rfl rfl rfl rfl ?_ | refine g_get hv 4 rfl rfl rfl rfl ?_ | refine g_get hv 5 rfl rfl rfl rfl ?_)
      refine g_ic rfl (fun c => ?_) (fun c => ?_)
      · have c : so k = 3 := c
        refine next _ ?_
        have hok : okc bar so as (co m) (wo m) k = false := by simp [okc, c]
        rw [chp]
        cases chp (okc bar so as (co m) (wo m)) as k <;> simp [hok]
      · have c : ¬ so k = 3 := c
        repeat (first | refine g_px rfl rfl rfl ?_ | refine g_get hv 0 rfl rfl rfl rfl ?_ | refine g_get hv 1 rfl rfl rfl rfl ?_ | refine g_get hv 2 rfl rfl rfl rfl ?_ | refine g_get hv 3 rfl rfl rfl rfl ?_ | refine g_get hv 4 rfl rfl rfl rfl ?_ | refine g_get hv 5 rfl rfl rfl rfl ?_)
        refine g_iald hv 3 rfl rfl (vp6 hk6) ?_
        rw [hclamp]
        repeat (first | refine g_px rfl rfl rfl ?_ | refine g_get hv 0 rfl rfl rfl rfl ?_ | refine g_get hv 1 rfl rfl rfl rfl ?_ | refine g_get hv 2 rfl rfl rfl rfl ?_ | refine g_get hv 3 rfl rfl rfl rfl ?_ | refine g_get hv 4 rfl rfl rfl rfl ?_ | refine g_get hv 5 rfl rfl rfl rfl ?_)
        have hcmp : as k ≤ lst as z (chp (okc bar so as (co m) (wo m)) as k) ↔ chp (okc bar so as (co m) (wo m)) as (k + 1) = some k := by
          rw [chp]
          cases hp : chp (okc bar so as (co m) (wo m)) as k with
          | none =>
            show as k ≤ z ↔ _
            rw [hz k hkn]
            simp [okc, ht, c]
          | some p =>
            have hpp := chp_ok hp
            show as k ≤ as p - 1 ↔ _
            rw [le_pred (has p (by omega))]
            have hop := hpp.2
            simp only [okc, Bool.and_eq_true, decide_eq_true_eq] at hop
            have : as k < as p → okc bar so as (co m) (wo m) k = true := by
              intro hlt
              simp only [okc, ht, Bool.not_false, Bool.true_and, Bool.and_eq_true, decide_eq_true_eq]
              exact ⟨c, Int32.le_trans (Int32.le_of_lt hlt) hop.2.2.1, Int32.lt_trans hlt hop.2.2.2⟩
            constructor
            · intro hlt
              simp [this hlt, hlt]
            · intro he
              dsimp only at he
              split at he
              · rename_i q; simp at q; exact q.2
              · cases he; omega
        refine g_ic rfl (fun c2 => ?_) (fun c2 => ?_)
        · have c2 : lst as z (chp (okc bar so as (co m) (wo m)) as k) < as k := c2
          refine next _ ?_
          have hne : ¬ chp (okc bar so as (co m) (wo m)) as (k + 1) = some k := fun q => absurd (hcmp.mpr q) (Int32.not_le.mpr c2)
          rw [chp] at hne ⊢
          cases hp : chp (okc bar so as (co m) (wo m)) as k with
          | none =>
            rw [hp] at hne
            dsimp only at hne ⊢
            split
            · rename_i q; rw [if_pos q] at hne; exact absurd rfl hne
            · rfl
          | some p =>
            rw [hp] at hne
            dsimp only at hne ⊢
            split
            · rename_i q; rw [if_pos q] at hne; exact absurd rfl hne
            · rfl
        · have c2 : ¬ lst as z (chp (okc bar so as (co m) (wo m)) as k) < as k := c2
          have he := hcmp.mp (Int32.not_lt.mp c2)
          repeat (first | refine g_px rfl rfl rfl ?_ | refine g_get hv 0 rfl rfl rfl rfl ?_ | refine g_get hv 1 rfl rfl rfl rfl ?_ | refine g_get hv 2 rfl rfl rfl rfl ?_ | refine g_get hv 3 rfl rfl rfl rfl ?_ | refine g_get hv 4 rfl rfl rfl rfl ?_ | refine g_get hv 5 rfl rfl rfl rfl ?_)
          refine g_iald hv 3 rfl rfl (vp6 hk6) ?_
          rw [hclamp]
          refine g_run 3 rfl ?_
          exact next (some k) he.symm
end Chp
