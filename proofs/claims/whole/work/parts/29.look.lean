/-! Witness.look -/
abbrev a3 (f : Nat → Nat) : va_E := .inl (0, 3, .inl (fun i => if i < 3 then nI (f i) else 0))
/-- are all told sent -/
def fts (n : Nat) (we : Nat → Nat) (g : Nat → Option Nat) : Nat → Bool
  | 0 => true
  | k + 1 => fts n we g k && (sdr g (we k) n 0).isSome
theorem fts_no {n : Nat} {we : Nat → Nat} {g : Nat → Option Nat} {k : Nat} (h : (sdr g (we k) n 0).isSome = false) : ∀ m, k < m → fts n we g m = false
  | 0, hm => by omega
  | m + 1, hm => by
    rw [fts]
    by_cases e : k = m
    · subst e; rw [h, Bool.and_false]
    · rw [fts_no h m (by omega), Bool.false_and]
abbrev wft (s b n wn : Nat) (ct tk kn sp hd hi er sh : Int32) (we : Nat → Nat) (G : Nat → Nat → Option Nat) : mj_W := [(s, .inr (0, cob s ct (nI n))), (s + 5, a7 (fun k => pkn (G k) 6)), (b, .inr (1, dob b tk (nI n) kn sp hd hi er sh (nI wn))), (b + 6, a3 we)]
theorem s_fits (sta : mj_S) (d s b n wn x : Nat) (ct tk kn sp hd hi er sh : Int32) (we : Nat → Nat) (G : Nat → Nat → Option Nat) (hG : ∀ k, gok (G k)) (hx : x < 720) (hwn : wn ≤ 3) (hn : n ≤ 6) (hwe : bd 6 we) :
    mj_Sx sta (d + 3) 62 [.ref b, .ref s, (.int (nI x))] (wft s b n wn ct tk kn sp hd hi er sh we G) (fun v w => v = some (.int (bl (fts n we (G x) wn))) ∧ w = wft s b n wn ct tk kn sp hd hi er sh we G) := by
  refine mj_Sx.mk m_X7_fits (by decide) n_X7_fits rfl (fun h0 hv => ?_)
  generalize hT : mj_rx m_X7_fits h0 _ _ = T
  have loop : ∀ j k h, k + j = wn → fts n we (G x) k = true → mj_Vw h0 (wft s b n wn ct tk kn sp hd hi er sh we G) h → mj_go sta (mj_Cl sta (d + 2)) m_X7_fits T 2 [some (.ref b), some (.ref s), some (.int (nI x)), some (.int (nI k))] [] h := by
    intro j
    induction j with
    | zero =>
      intro k h hk hf hv
      repeat (first | refine g_px rfl rfl rfl ?_ | refine g_get hv 2 rfl rfl rfl rfl ?_)
      refine g_ic rfl (fun cq => ?_) (fun cq => ?_)
      · have hk : k = wn := by omega
        subst hk
        repeat (first | refine g_px rfl rfl rfl ?_)
        subst hT
        exact g_iret hv rfl rfl rfl rfl ⟨by rw [hf]; rfl, rfl⟩
      · simp (disch := omega) only [mj_cp, k_6, k_7, k_8, k_9, k_10, k_12, k_15, k_16, k_18, k_20, k_24, k_25, k_26, k_27, k_28, k_32, k_36, k_48, k_57, k_59, k_63, k_74, k_75, k_84, k_90, k_97, k_99, k_100, k_122, k_200, k_255, k_420, k_448, k_720, k_800, k_999, k_bit, k_shl, fa_and, nI_add, bl_1, bl_0, bl_n1, bl_n0, bl_i1, nI_lt0, nI_0le, nI_eq0, nI_eqT, nI_leI, nI_ltI, nI_eq, Nat.not_le, Nat.not_lt, Bool.not_eq_true, Bool.not_eq_false, not_true_eq_false, not_false_eq_true, Decidable.not_not] at cq
        omega
    | succ j ih =>
      intro k h hk hf hv
      repeat (first | refine g_px rfl rfl rfl ?_ | refine g_get hv 2 rfl rfl rfl rfl ?_)
      refine g_ic rfl (fun cq => ?_) (fun cq => ?_)
      · simp (disch := omega) only [mj_cp, k_6, k_7, k_8, k_9, k_10, k_12, k_15, k_16, k_18, k_20, k_24, k_25, k_26, k_27, k_28, k_32, k_36, k_48, k_57, k_59, k_63, k_74, k_75, k_84, k_90, k_97, k_99, k_100, k_122, k_200, k_255, k_420, k_448, k_720, k_800, k_999, k_bit, k_shl, fa_and, nI_add, bl_1, bl_0, bl_n1, bl_n0, bl_i1, nI_lt0, nI_0le, nI_eq0, nI_eqT, nI_leI, nI_ltI, nI_eq, Nat.not_le, Nat.not_lt, Bool.not_eq_true, Bool.not_eq_false, not_true_eq_false, not_false_eq_true, Decidable.not_not] at cq
        omega
      · repeat (first | refine g_px rfl rfl rfl ?_ | refine g_get hv 2 rfl rfl rfl rfl ?_)
        refine g_nL hv 3 (show k < 3 by omega) (by decide) rfl rfl ?_
        refine g_callV hv [0, 1] 0 rfl rfl rfl rfl rfl rfl rfl rfl (by simp) (s_sender sta d s x (we k) n ct G hG hx (hwe k) hn) (fun v w' h hp hk2 hv => ?_)
        obtain ⟨rfl, rfl⟩ := hp
        have hv : mj_Vw h0 (wft s b n wn ct tk kn sp hd hi er sh we G) h := hv
        have hs6 : ∀ q, sdr (G x) (we k) n 0 = some q → q < 6 := fun q hq => by have := sdr_lt hq; omega
        refine g_if rfl (fun cq => ?_) (fun cq => ?_)
        · have cq : 0 ≤ snd (sdr (G x) (we k) n 0) := cq
          cases e : sdr (G x) (we k) n 0 with
          | none => rw [e] at cq; exact absurd cq (by decide)
          | some q =>
            refine g_run 2 rfl ?_
            have hnx := ih (k + 1) h (by omega) (by rw [fts, hf, e]; rfl) hv
            rw [nI_succ] at hnx
            exact hnx
        · have cq : ¬ 0 ≤ snd (sdr (G x) (we k) n 0) := cq
          cases e : sdr (G x) (we k) n 0 with
          | none =>
            repeat (first | refine g_px rfl rfl rfl ?_)
            subst hT
            exact g_iret hv rfl rfl rfl rfl ⟨by rw [fts_no (by rw [e]; rfl) wn (by omega)]; rfl, rfl⟩
          | some q => rw [e] at cq; exact absurd (nI_pos' (by have := hs6 q e; omega)) cq
  refine g_run 2 rfl ?_
  exact loop wn 0 h0 (by omega) rfl hv
theorem wwt_st {fi ti : Int32} {c : Nat → Nat → Nat} {k : Nat} {f : Nat → Nat} (hk : k < 3) : (wwt fi ti c).set (2 + k) (148 + k, an f) = wwt fi ti (va_up c k f) := by
  have h3 : k = 0 ∨ k = 1 ∨ k = 2 := by omega
  rcases h3 with rfl | rfl | rfl <;> rfl
theorem wwt_at {fi ti : Int32} {c : Nat → Nat → Nat} {k : Nat} (hk : k < 3) : mj_nth (wwt fi ti c) (2 + k) = some (148 + k, an (c k)) := by
  have h3 : k = 0 ∨ k = 1 ∨ k = 2 := by omega
  rcases h3 with rfl | rfl | rfl <;> rfl
theorem up_same {α : Type} {c : Nat → α} {k : Nat} {x : α} : va_up c k x k = x := if_pos rfl
theorem up_up {α : Type} {c : Nat → α} {k : Nat} {x y : α} : va_up (va_up c k x) k y = va_up c k y := by
  funext i
  unfold va_up
  split <;> simp_all
theorem an_0 {f : Nat → Nat} (h : ∀ i, i < 6 → f i = 0) : an f = an (fun _ => 0) := by
  unfold an
  rw [an_congr (f := f) (f' := fun _ => 0) h]
theorem s_wclear (sta : mj_S) (d : Nat) (fi ti : Int32) (c : Nat → Nat → Nat) : mj_Sx sta (d + 1) 61 [.ref 146] (wwt fi ti c) (fun v w => v = none ∧ w = wwt 0 ti (fun _ _ => 0)) := by
  refine mj_Sx.mk m_X7_clear (by decide) n_X7_clear rfl (fun h0 hv => ?_)
  generalize hT : mj_rx m_X7_clear h0 _ _ = T
  have inner : ∀ k, k < 3 → ∀ j x h c, x + j = 6 → (∀ i, i < x → c k i = 0) → mj_Vw h0 (wwt 0 ti c) h → (∀ h c', (∀ i, i < 6 → c' k i = 0) → (∀ k', k' ≠ k → c' k' = c k') → mj_Vw h0 (wwt 0 ti c') h → mj_go sta (mj_Cl sta d) m_X7_clear T 35 [some (.ref 146), some (.int (nI k)), some (.int (nI 6))] [] h) → mj_go sta (mj_Cl sta d) m_X7_clear T 14 [some (.ref 146), some (.int (nI k)), some (.int (nI x))] [] h := by
    intro k hk j
    induction j with
    | zero =>
      intro x h c hx hc hv kk
      have hx : x = 6 := by omega
      subst hx
      repeat (first | refine g_px rfl rfl rfl ?_)
      refine g_ic rfl (fun cq => ?_) (fun cq => ?_)
      · exact kk h c hc (fun _ _ => rfl) hv
      · simp (disch := omega) only [mj_cp, k_6, k_7, k_8, k_9, k_10, k_12, k_15, k_16, k_18, k_20, k_24, k_25, k_26, k_27, k_28, k_32, k_36, k_48, k_57, k_59, k_63, k_74, k_75, k_84, k_90, k_97, k_99, k_100, k_122, k_200, k_255, k_420, k_448, k_720, k_800, k_999, k_bit, k_shl, fa_and, nI_add, bl_1, bl_0, bl_n1, bl_n0, bl_i1, nI_lt0, nI_0le, nI_eq0, nI_eqT, nI_leI, nI_ltI, nI_eq, Nat.not_le, Nat.not_lt, Bool.not_eq_true, Bool.not_eq_false, not_true_eq_false, not_false_eq_true, Decidable.not_not] at cq
        omega
    | succ j ih =>
      intro x h c hx hc hv kk
      repeat (first | refine g_px rfl rfl rfl ?_)
      refine g_ic rfl (fun cq => ?_) (fun cq => ?_)
      · simp (disch := omega) only [mj_cp, k_6, k_7, k_8, k_9, k_10, k_12, k_15, k_16, k_18, k_20, k_24, k_25, k_26, k_27, k_28, k_32, k_36, k_48, k_57, k_59, k_63, k_74, k_75, k_84, k_90, k_97, k_99, k_100, k_122, k_200, k_255, k_420, k_448, k_720, k_800, k_999, k_bit, k_shl, fa_and, nI_add, bl_1, bl_0, bl_n1, bl_n0, bl_i1, nI_lt0, nI_0le, nI_eq0, nI_eqT, nI_leI, nI_ltI, nI_eq, Nat.not_le, Nat.not_lt, Bool.not_eq_true, Bool.not_eq_false, not_true_eq_false, not_false_eq_true, Decidable.not_not] at cq
        omega
      · repeat (first | refine g_px rfl rfl rfl ?_ | refine g_get hv 0 rfl rfl rfl rfl ?_)
        refine g_aald4 hv 1 rfl rfl (vp_in_nI hk (by decide)) ?_
        rw [rf3 hk]
        repeat (first | refine g_px rfl rfl rfl ?_)
        refine g_nst (y := 0) hv (2 + k) (by omega) rfl (wwt_at hk) (fun h hv => ?_)
        rw [wwt_st hk] at hv
        refine g_run 2 rfl ?_
        have hnx := ih (x + 1) h (va_up c k (va_up (c k) x 0)) (by omega) (fun i hi => by
          rw [up_same]
          unfold va_up
          split
          · rfl
          · exact hc i (by omega)) hv (fun h c' h1 h2 hv => kk h c' h1 (fun k' hk' => by rw [h2 k' hk']; exact if_neg hk') hv)
        rw [nI_succ] at hnx
        exact hnx
  have outer : ∀ j k h o c, k + j = 3 → (∀ k', k' < k → ∀ i, i < 6 → c k' i = 0) → mj_Vw h0 (wwt 0 ti c) h → mj_go sta (mj_Cl sta d) m_X7_clear T 7 [some (.ref 146), some (.int (nI k)), o] [] h := by
    intro j
    induction j with
    | zero =>
      intro k h o c hk hc hv
      have hk : k = 3 := by omega
      subst hk
      repeat (first | refine g_px rfl rfl rfl ?_)
      refine g_ic rfl (fun cq => ?_) (fun cq => ?_)
      · unfold wwt at hv
        rw [an_0 (hc 0 (by omega)), an_0 (hc 1 (by omega)), an_0 (hc 2 (by omega))] at hv
        subst hT
        exact g_vret hv rfl rfl rfl ⟨rfl, rfl⟩
      · exact absurd (show Int32.ofInt 3 ≤ nI 3 by decide) cq
    | succ j ih =>
      intro k h o c hk hc hv
      repeat (first | refine g_px rfl rfl rfl ?_)
      refine g_ic rfl (fun cq => ?_) (fun cq => ?_)
      · have cq : nI 3 ≤ nI k := cq
        simp (disch := omega) only [mj_cp, k_6, k_7, k_8, k_9, k_10, k_12, k_15, k_16, k_18, k_20, k_24, k_25, k_26, k_27, k_28, k_32, k_36, k_48, k_57, k_59, k_63, k_74, k_75, k_84, k_90, k_97, k_99, k_100, k_122, k_200, k_255, k_420, k_448, k_720, k_800, k_999, k_bit, k_shl, fa_and, nI_add, bl_1, bl_0, bl_n1, bl_n0, bl_i1, nI_lt0, nI_0le, nI_eq0, nI_eqT, nI_leI, nI_ltI, nI_eq, Nat.not_le, Nat.not_lt, Bool.not_eq_true, Bool.not_eq_false, not_true_eq_false, not_false_eq_true, Decidable.not_not] at cq
        omega
      · refine g_run 2 rfl ?_
        refine inner k (by omega) 6 0 h c (by omega) (fun i hi => by omega) hv (fun h c' h1 h2 hv => ?_)
        refine g_run 2 rfl ?_
        have hnx := ih (k + 1) h (some (.int (nI 6))) c' (by omega) (fun k' hk' => by
          by_cases e : k' = k
          · subst e; exact h1
          · rw [h2 k' e]; exact hc k' (by omega)) hv
        rw [nI_succ] at hnx
        exact hnx
  repeat (first | refine g_px rfl rfl rfl ?_)
  refine g_put hv 0 rfl rfl rfl rfl rfl rfl (fun h hv => ?_)
  refine g_run 2 rfl ?_
  exact outer 3 0 h none c (by omega) (fun k' hk' => by omega) hv
section Lk
variable (n wn : Nat) (we K E : Nat → Nat) (G : Nat → Nat → Option Nat)
def lkF (x : Nat) : Nat := fb_sm (fun k => if fts n we (G k) wn then E k else 0) x
def lkA : Nat → Nat
  | 0 => 2 ^ n - 1
  | x + 1 => if fts n we (G x) wn then lkA x &&& K x else lkA x
def lkC (x k s : Nat) : Nat := fb_sm (fun c => if fts n we (G c) wn && decide (k < wn) && decide (sdr (G c) (we k) n 0 = some s) then E c else 0) x
end Lk
theorem and_lt {a b : Nat} (h : a < 64) : a &&& b < 64 := Nat.lt_of_le_of_lt Nat.and_le_left h
theorem lkA_lt {n wn : Nat} {we K : Nat → Nat} {G : Nat → Nat → Option Nat} (hn : n ≤ 6) : ∀ x, lkA n wn we K G x < 64
  | 0 => by
    have : ∀ n, n ≤ 6 → 2 ^ n - 1 < 64 := by decide
    exact this n hn
  | x + 1 => by
    have ih := lkA_lt (wn := wn) (we := we) (K := K) (G := G) hn x
    rw [lkA]
    split
    · exact and_lt ih
    · exact ih
abbrev wlk (s b n wn : Nat) (fi ti ct tk kn sp hd hi er sh : Int32) (c : Nat → Nat → Nat) (we K E : Nat → Nat) (G : Nat → Nat → Option Nat) : mj_W :=
  wwt fi ti c ++ (wft s b n wn ct tk kn sp hd hi er sh we G ++ [(s + 4, a7 K), (s + 6, a7 E)])
theorem wlk_st {s b n wn : Nat} {fi ti ct tk kn sp hd hi er sh : Int32} {c : Nat → Nat → Nat} {we K E : Nat → Nat} {G : Nat → Nat → Option Nat} {k : Nat} {f : Nat → Nat} (hk : k < 3) : (wlk s b n wn fi ti ct tk kn sp hd hi er sh c we K E G).set (2 + k) (148 + k, an f) = wlk s b n wn fi ti ct tk kn sp hd hi er sh (va_up c k f) we K E G := by
  have h3 : k = 0 ∨ k = 1 ∨ k = 2 := by omega
  rcases h3 with rfl | rfl | rfl <;> rfl
theorem wlk_at {s b n wn : Nat} {fi ti ct tk kn sp hd hi er sh : Int32} {c : Nat → Nat → Nat} {we K E : Nat → Nat} {G : Nat → Nat → Option Nat} {k : Nat} (hk : k < 3) : mj_nth (wlk s b n wn fi ti ct tk kn sp hd hi er sh c we K E G) (2 + k) = some (148 + k, an (c k)) := by
  have h3 : k = 0 ∨ k = 1 ∨ k = 2 := by omega
  rcases h3 with rfl | rfl | rfl <;> rfl
theorem wlk_c {s b n wn : Nat} {fi ti ct tk kn sp hd hi er sh : Int32} {c c' : Nat → Nat → Nat} {we K E : Nat → Nat} {G : Nat → Nat → Option Nat} (h : ∀ k, k < 3 → ∀ i, i < 6 → c k i = c' k i) : wlk s b n wn fi ti ct tk kn sp hd hi er sh c we K E G = wlk s b n wn fi ti ct tk kn sp hd hi er sh c' we K E G := by
  unfold wlk wwt an
  rw [an_congr (h 0 (by omega)), an_congr (h 1 (by omega)), an_congr (h 2 (by omega))]
section Look
variable (sta : mj_S) (d s b n wn ct : Nat) (tk kn sp hd hi er sh : Int32) (we K E : Nat → Nat) (G : Nat → Nat → Option Nat)
theorem s_look (fi ti : Int32) (c : Nat → Nat → Nat) (hG : ∀ k, gok (G k)) (hK : bd 64 K) (hE : bd 1000 E) (hct : ct ≤ 720) (hwn : wn ≤ 3) (hn : n ≤ 6) (hwe : bd 6 we) :
    mj_Sx sta (d + 4) 60 [.ref 146, .ref b, .ref s] (wlk s b n wn fi ti (nI ct) tk kn sp hd hi er sh c we K E G)
    (fun v w => v = none ∧ w = wlk s b n wn (nI (lkF n wn we E G ct)) (nI (if 0 < lkF n wn we E G ct then lkA n wn we K G ct else 0)) (nI ct) tk kn sp hd hi er sh (lkC n wn we E G ct) we K E G) := by
  refine mj_Sx.mk m_X7_look (by decide) n_X7_look rfl (fun h0 hv => ?_)
  generalize hT : mj_rx m_X7_look h0 _ _ = T
  have hlF : ∀ x, x ≤ 720 → lkF n wn we E G x ≤ 720000 := fun x hx => by
    have := fb_sm_bound (f := fun k => if fts n we (G k) wn then E k else 0) (c := 1000) (n := x) (fun k _ => by have := hE k; split <;> omega)
    unfold lkF
    omega
  -- the inner loop
  have inner : ∀ x, x < 720 → fts n we (G x) wn = true → ∀ j k h c, k + j = wn → ∀ o A, (∀ h c', (∀ k', k' < 3 → ∀ i, i < 6 → c' k' i = if k ≤ k' ∧ k' < wn ∧ sdr (G x) (we k') n 0 = some i then c k' i + E x else c k' i) → mj_Vw h0 (wlk s b n wn (nI (lkF n wn we E G (x + 1))) ti (nI ct) tk kn sp hd hi er sh c' we K E G) h → ∀ o5 o6, mj_go sta (mj_Cl sta (d + 3)) m_X7_look T 119 [some (.ref 146), some (.ref b), some (.ref s), some (.int (nI A)), some (.int (nI x)), o5, o6] [] h) →
      mj_Vw h0 (wlk s b n wn (nI (lkF n wn we E G (x + 1))) ti (nI ct) tk kn sp hd hi er sh c we K E G) h → mj_go sta (mj_Cl sta (d + 3)) m_X7_look T 64 [some (.ref 146), some (.ref b), some (.ref s), some (.int (nI A)), some (.int (nI x)), some (.int (nI k)), o] [] h := by
    intro x hx hft j
    induction j with
    | zero =>
      intro k h c hk o A kk hv
      repeat (first | refine g_px rfl rfl rfl ?_ | refine g_get hv 7 rfl rfl rfl rfl ?_)
      refine g_ic rfl (fun cq => ?_) (fun cq => ?_)
      · exact kk h c (fun k' hk' i hi => by rw [if_neg (by omega)]) hv _ _
      · simp (disch := omega) only [mj_cp, k_6, k_7, k_8, k_9, k_10, k_12, k_15, k_16, k_18, k_20, k_24, k_25, k_26, k_27, k_28, k_32, k_36, k_48, k_57, k_59, k_63, k_74, k_75, k_84, k_90, k_97, k_99, k_100, k_122, k_200, k_255, k_420, k_448, k_720, k_800, k_999, k_bit, k_shl, fa_and, nI_add, bl_1, bl_0, bl_n1, bl_n0, bl_i1, nI_lt0, nI_0le, nI_eq0, nI_eqT, nI_leI, nI_ltI, nI_eq, Nat.not_le, Nat.not_lt, Bool.not_eq_true, Bool.not_eq_false, not_true_eq_false, not_false_eq_true, Decidable.not_not] at cq
        omega
    | succ j ih =>
      intro k h c hk o A kk hv
      have hk3 : k < 3 := by omega
      repeat (first | refine g_px rfl rfl rfl ?_ | refine g_get hv 7 rfl rfl rfl rfl ?_)
      refine g_ic rfl (fun cq => ?_) (fun cq => ?_)
      · simp (disch := omega) only [mj_cp, k_6, k_7, k_8, k_9, k_10, k_12, k_15, k_16, k_18, k_20, k_24, k_25, k_26, k_27, k_28, k_32, k_36, k_48, k_57, k_59, k_63, k_74, k_75, k_84, k_90, k_97, k_99, k_100, k_122, k_200, k_255, k_420, k_448, k_720, k_800, k_999, k_bit, k_shl, fa_and, nI_add, bl_1, bl_0, bl_n1, bl_n0, bl_i1, nI_lt0, nI_0le, nI_eq0, nI_eqT, nI_leI, nI_ltI, nI_eq, Nat.not_le, Nat.not_lt, Bool.not_eq_true, Bool.not_eq_false, not_true_eq_false, not_false_eq_true, Decidable.not_not] at cq
        omega
      · repeat (first | refine g_px rfl rfl rfl ?_ | refine g_get hv 7 rfl rfl rfl rfl ?_)
        refine g_nL hv 8 hk3 (by decide) rfl rfl ?_
        refine g_callV hv [5, 6] 5 rfl rfl rfl rfl rfl rfl rfl rfl (by simp) (s_sender sta (d + 1) s x (we k) n (nI ct) G hG hx (hwe k) hn) (fun v w' h hp hk2 hv => ?_)
        obtain ⟨rfl, rfl⟩ := hp
        have hv : mj_Vw h0 (wlk s b n wn (nI (lkF n wn we E G (x + 1))) ti (nI ct) tk kn sp hd hi er sh c we K E G) h := hv
        have hs6 : ∀ q, sdr (G x) (we k) n 0 = some q → q < 6 := fun q hq => by have := sdr_lt hq; omega
        refine g_run 2 rfl ?_
        refine g_if rfl (fun cq => ?_) (fun cq => ?_)
        · have e := (snd_nn hs6).mp cq
          refine g_run 2 rfl ?_
          have hnx := ih (k + 1) h c (by omega) (some (.int (snd (sdr (G x) (we k) n 0)))) A (fun h c' h1 hv => kk h c' (fun k' hk' i hi => by
            rw [h1 k' hk' i hi]
            by_cases ek : k' = k
            · subst ek
              rw [if_neg (by omega), if_neg (fun z => by rw [e] at z; cases z.2.2)]
            · have : (k + 1 ≤ k' ∧ k' < wn ∧ sdr (G x) (we k') n 0 = some i) ↔ (k ≤ k' ∧ k' < wn ∧ sdr (G x) (we k') n 0 = some i) := ⟨fun z => ⟨by have := z.1; omega, z.2⟩, fun z => ⟨by have := z.1; omega, z.2⟩⟩
              simp only [this]) hv) hv
          rw [nI_succ] at hnx
          exact hnx
        · have cq : ¬ snd (sdr (G x) (we k) n 0) < 0 := cq
          cases e : sdr (G x) (we k) n 0 with
          | none => rw [e] at cq; exact absurd (show snd none < 0 by decide) cq
          | some q =>
            have hq := hs6 q e
            repeat (first | refine g_px rfl rfl rfl ?_ | refine g_get hv 0 rfl rfl rfl rfl ?_)
            refine g_aald4 hv 1 rfl rfl (vp_in_nI hk3 (by decide)) ?_
            rw [rf3 hk3]
            refine g_run 2 rfl ?_
            refine g_n6 (k := q) hv (2 + k) hq rfl (wlk_at hk3) ?_
            refine g_run 1 rfl ?_
            refine g_get hv 5 rfl rfl rfl rfl ?_
            refine g_run 1 rfl ?_
            refine g_n7 hv 10 hx rfl rfl ?_
            refine g_run 1 rfl ?_
            rw [nI_add]
            refine g_nst hv (2 + k) hq rfl (wlk_at hk3) (fun h hv => ?_)
            rw [wlk_st hk3] at hv
            refine g_run 2 rfl ?_
            have hnx := ih (k + 1) h _ (by omega) (some (.int (nI q))) A (fun h c' h1 hv => kk h c' (fun k' hk' i hi => by
              rw [h1 k' hk' i hi]
              by_cases ek : k' = k
              · subst ek
                rw [if_neg (by omega), up_same]
                by_cases ei : i = q
                · subst ei
                  rw [up_same, if_pos ⟨Nat.le_refl _, by omega, e⟩]
                · rw [if_neg (fun z => by rw [e] at z; exact ei (Option.some.inj z.2.2).symm)]
                  exact if_neg ei
              · have : (k + 1 ≤ k' ∧ k' < wn ∧ sdr (G x) (we k') n 0 = some i) ↔ (k ≤ k' ∧ k' < wn ∧ sdr (G x) (we k') n 0 = some i) := ⟨fun z => ⟨by have := z.1; omega, z.2⟩, fun z => ⟨by have := z.1; omega, z.2⟩⟩
                rw [show va_up c k (va_up (c k) q (c k q + E x)) k' = c k' from if_neg ek]
                simp only [this]) hv) hv
            rw [nI_succ] at hnx
            exact hnx
  have outer : ∀ j x h o5 o6, x + j = ct → mj_Vw h0 (wlk s b n wn (nI (lkF n wn we E G x)) ti (nI ct) tk kn sp hd hi er sh (lkC n wn we E G x) we K E G) h → mj_go sta (mj_Cl sta (d + 3)) m_X7_look T 16 [some (.ref 146), some (.ref b), some (.ref s), some (.int (nI (lkA n wn we K G x))), some (.int (nI x)), o5, o6] [] h := by
    intro j
    induction j with
    | zero =>
      intro x h o5 o6 hx hv
      have hlx := hlF x (by omega)
      repeat (first | refine g_px rfl rfl rfl ?_ | refine g_get hv 5 rfl rfl rfl rfl ?_)
      refine g_ic rfl (fun cq => ?_) (fun cq => ?_)
      · have hx : x = ct := by omega
        subst hx
        repeat (first | refine g_px rfl rfl rfl ?_ | refine g_get hv 0 rfl rfl rfl rfl ?_)
        refine g_if rfl (fun cq => ?_) (fun cq => ?_)
        · have cq : nI (lkF n wn we E G x) ≤ nI 0 := cq
          simp (disch := omega) only [mj_cp, k_6, k_7, k_8, k_9, k_10, k_12, k_15, k_16, k_18, k_20, k_24, k_25, k_26, k_27, k_28, k_32, k_36, k_48, k_57, k_59, k_63, k_74, k_75, k_84, k_90, k_97, k_99, k_100, k_122, k_200, k_255, k_420, k_448, k_720, k_800, k_999, k_bit, k_shl, fa_and, nI_add, bl_1, bl_0, bl_n1, bl_n0, bl_i1, nI_lt0, nI_0le, nI_eq0, nI_eqT, nI_leI, nI_ltI, nI_eq, Nat.not_le, Nat.not_lt, Bool.not_eq_true, Bool.not_eq_false, not_true_eq_false, not_false_eq_true, Decidable.not_not] at cq
          repeat (first | refine g_px rfl rfl rfl ?_)
          refine g_put hv 0 rfl rfl rfl rfl rfl rfl (fun h hv => ?_)
          subst hT
          refine g_vret hv rfl rfl rfl ⟨rfl, ?_⟩
          rw [if_neg (by omega)]
          rfl
        · have cq : ¬ nI (lkF n wn we E G x) ≤ nI 0 := cq
          simp (disch := omega) only [mj_cp, k_6, k_7, k_8, k_9, k_10, k_12, k_15, k_16, k_18, k_20, k_24, k_25, k_26, k_27, k_28, k_32, k_36, k_48, k_57, k_59, k_63, k_74, k_75, k_84, k_90, k_97, k_99, k_100, k_122, k_200, k_255, k_420, k_448, k_720, k_800, k_999, k_bit, k_shl, fa_and, nI_add, bl_1, bl_0, bl_n1, bl_n0, bl_i1, nI_lt0, nI_0le, nI_eq0, nI_eqT, nI_leI, nI_ltI, nI_eq, Nat.not_le, Nat.not_lt, Bool.not_eq_true, Bool.not_eq_false, not_true_eq_false, not_false_eq_true, Decidable.not_not] at cq
          repeat (first | refine g_px rfl rfl rfl ?_)
          refine g_put hv 0 rfl rfl rfl rfl rfl rfl (fun h hv => ?_)
          subst hT
          refine g_vret hv rfl rfl rfl ⟨rfl, ?_⟩
          rw [if_pos (by omega)]
          rfl
      · simp (disch := omega) only [mj_cp, k_6, k_7, k_8, k_9, k_10, k_12, k_15, k_16, k_18, k_20, k_24, k_25, k_26, k_27, k_28, k_32, k_36, k_48, k_57, k_59, k_63, k_74, k_75, k_84, k_90, k_97, k_99, k_100, k_122, k_200, k_255, k_420, k_448, k_720, k_800, k_999, k_bit, k_shl, fa_and, nI_add, bl_1, bl_0, bl_n1, bl_n0, bl_i1, nI_lt0, nI_0le, nI_eq0, nI_eqT, nI_leI, nI_ltI, nI_eq, Nat.not_le, Nat.not_lt, Bool.not_eq_true, Bool.not_eq_false, not_true_eq_false, not_false_eq_true, Decidable.not_not] at cq
        omega
    | succ j ih =>
      intro x h o5 o6 hx hv
      have hx7 : x < 720 := by omega
      have hlA := lkA_lt (wn := wn) (we := we) (K := K) (G := G) hn x
      repeat (first | refine g_px rfl rfl rfl ?_ | refine g_get hv 5 rfl rfl rfl rfl ?_)
      refine g_ic rfl (fun cq => ?_) (fun cq => ?_)
      · simp (disch := omega) only [mj_cp, k_6, k_7, k_8, k_9, k_10, k_12, k_15, k_16, k_18, k_20, k_24, k_25, k_26, k_27, k_28, k_32, k_36, k_48, k_57, k_59, k_63, k_74, k_75, k_84, k_90, k_97, k_99, k_100, k_122, k_200, k_255, k_420, k_448, k_720, k_800, k_999, k_bit, k_shl, fa_and, nI_add, bl_1, bl_0, bl_n1, bl_n0, bl_i1, nI_lt0, nI_0le, nI_eq0, nI_eqT, nI_leI, nI_ltI, nI_eq, Nat.not_le, Nat.not_lt, Bool.not_eq_true, Bool.not_eq_false, not_true_eq_false, not_false_eq_true, Decidable.not_not] at cq
        omega
      · repeat (first | refine g_px rfl rfl rfl ?_)
        refine g_callS hv [5, 6, 7, 8] rfl rfl rfl rfl rfl rfl rfl (by simp) (s_fits sta d s b n wn x (nI ct) tk kn sp hd hi er sh we G hG hx7 hwn hn hwe) (fun v w' h hp hk2 hv => ?_)
        obtain ⟨rfl, rfl⟩ := hp
        have hv : mj_Vw h0 (wlk s b n wn (nI (lkF n wn we E G x)) ti (nI ct) tk kn sp hd hi er sh (lkC n wn we E G x) we K E G) h := hv
        refine g_if rfl (fun cq => ?_) (fun cq => ?_)
        · simp (disch := omega) only [mj_cp, k_6, k_7, k_8, k_9, k_10, k_12, k_15, k_16, k_18, k_20, k_24, k_25, k_26, k_27, k_28, k_32, k_36, k_48, k_57, k_59, k_63, k_74, k_75, k_84, k_90, k_97, k_99, k_100, k_122, k_200, k_255, k_420, k_448, k_720, k_800, k_999, k_bit, k_shl, fa_and, nI_add, bl_1, bl_0, bl_n1, bl_n0, bl_i1, nI_lt0, nI_0le, nI_eq0, nI_eqT, nI_leI, nI_ltI, nI_eq, Nat.not_le, Nat.not_lt, Bool.not_eq_true, Bool.not_eq_false, not_true_eq_false, not_false_eq_true, Decidable.not_not] at cq
          refine g_run 2 rfl ?_
          have e1 : lkF n wn we E G (x + 1) = lkF n wn we E G x := by unfold lkF; rw [fb_sm_succ, cq]; rfl
          have e2 : lkA n wn we K G (x + 1) = lkA n wn we K G x := by rw [lkA, cq]; rfl
          have e3 : lkC n wn we E G (x + 1) = lkC n wn we E G x := by
            funext k i
            unfold lkC
            rw [fb_sm_succ, cq]
            rfl
          have hnx := ih (x + 1) h o5 o6 (by omega) (by rw [e1, e3]; exact hv)
          rw [nI_succ, e2] at hnx
          exact hnx
        · simp (disch := omega) only [mj_cp, k_6, k_7, k_8, k_9, k_10, k_12, k_15, k_16, k_18, k_20, k_24, k_25, k_26, k_27, k_28, k_32, k_36, k_48, k_57, k_59, k_63, k_74, k_75, k_84, k_90, k_97, k_99, k_100, k_122, k_200, k_255, k_420, k_448, k_720, k_800, k_999, k_bit, k_shl, fa_and, nI_add, bl_1, bl_0, bl_n1, bl_n0, bl_i1, nI_lt0, nI_0le, nI_eq0, nI_eqT, nI_leI, nI_ltI, nI_eq, Nat.not_le, Nat.not_lt, Bool.not_eq_true, Bool.not_eq_false, not_true_eq_false, not_false_eq_true, Decidable.not_not] at cq
          have e1 : lkF n wn we E G (x + 1) = lkF n wn we E G x + E x := by unfold lkF; rw [fb_sm_succ, cq]; rfl
          have e2 : lkA n wn we K G (x + 1) = lkA n wn we K G x &&& K x := by rw [lkA, cq]; rfl
          repeat (first | refine g_px rfl rfl rfl ?_ | refine g_get hv 0 rfl rfl rfl rfl ?_ | refine g_get hv 5 rfl rfl rfl rfl ?_)
          refine g_n7 hv 10 hx7 rfl rfl ?_
          refine g_run 1 rfl ?_
          rw [nI_add, ← e1]
          refine g_put hv 0 rfl rfl rfl rfl rfl rfl (fun h hv => ?_)
          have hv : mj_Vw h0 (wlk s b n wn (nI (lkF n wn we E G (x + 1))) ti (nI ct) tk kn sp hd hi er sh (lkC n wn we E G x) we K E G) h := hv
          repeat (first | refine g_px rfl rfl rfl ?_ | refine g_get hv 0 rfl rfl rfl rfl ?_ | refine g_get hv 5 rfl rfl rfl rfl ?_)
          refine g_n7 hv 9 hx7 rfl rfl ?_
          refine g_run 4 rfl ?_
          rw [fa_and, ← e2]
          refine inner x hx7 cq wn 0 h _ (by omega) _ _ (fun h c' h1 hv o5 o6 => ?_) hv
          refine g_run 2 rfl ?_
          have hnx := ih (x + 1) h o5 o6 (by omega) (by
            rw [wlk_c (c := lkC n wn we E G (x + 1)) (c' := c') (fun k hk i hi => by
              rw [h1 k hk i hi]
              have es : lkC n wn we E G (x + 1) k i = lkC n wn we E G x k i + (if fts n we (G x) wn && decide (k < wn) && decide (sdr (G x) (we k) n 0 = some i) then E x else 0) := rfl
              rw [es, cq]
              by_cases z : k < wn ∧ sdr (G x) (we k) n 0 = some i
              · have r1 : (if 0 ≤ k ∧ k < wn ∧ sdr (G x) (we k) n 0 = some i then lkC n wn we E G x k i + E x else lkC n wn we E G x k i) = lkC n wn we E G x k i + E x := if_pos ⟨Nat.zero_le _, z⟩
                rw [r1]
                simp [z.1, z.2]
              · have r1 : (if 0 ≤ k ∧ k < wn ∧ sdr (G x) (we k) n 0 = some i then lkC n wn we E G x k i + E x else lkC n wn we E G x k i) = lkC n wn we E G x k i := if_neg (fun y => z y.2)
                rw [r1]
                have : (true && decide (k < wn) && decide (sdr (G x) (we k) n 0 = some i)) = false := by
                  simp only [Bool.true_and, Bool.and_eq_false_iff, decide_eq_false_iff_not]
                  by_cases z1 : k < wn
                  · right; exact fun y => z ⟨z1, y⟩
                  · left; exact z1
                rw [this]
                rfl)]
            exact hv)
          rw [nI_succ] at hnx
          exact hnx
  refine g_run 1 rfl ?_
  refine g_callV hv [0, 1, 2, 3, 4] 0 rfl rfl rfl rfl rfl rfl rfl rfl (by simp) (s_wclear sta (d + 2) fi ti c) (fun v w' h hp hk2 hv => ?_)
  obtain ⟨rfl, rfl⟩ := hp
  have hv : mj_Vw h0 (wlk s b n wn (nI (lkF n wn we E G 0)) ti (nI ct) tk kn sp hd hi er sh (lkC n wn we E G 0) we K E G) h := hv
  refine g_run 2 rfl ?_
  refine g_get hv 7 rfl rfl rfl rfl ?_
  refine g_run 3 rfl ?_
  rw [k_shl (show n < 31 by omega), show Int32.ofInt 1 = nI 1 from rfl, pk_sub (Nat.one_le_two_pow)]
  refine g_run 3 rfl ?_
  exact outer ct 0 h _ _ (by omega) hv
end Look
