/-! LowNumber: parts, agents -/
def gcl : Nat → Nat → Nat → Nat
  | 0, a, _ => a
  | f + 1, a, b => if b = 0 then a else gcl f b (a % b)
theorem mod_half {b r : Nat} (h0 : 0 < r) (h : r < b) : 2 * (b % r) < b := by
  have h1 := Nat.mod_lt b h0
  have h2 := Nat.div_add_mod b r
  have h3 : 1 ≤ b / r := Nat.div_pos (Nat.le_of_lt h) h0
  have h4 : r * 1 ≤ r * (b / r) := Nat.mul_le_mul_left r h3
  omega
theorem gcl_gcd : ∀ f a b, b < 2 ^ f → gcl (2 * f + 1) a b = Nat.gcd a b
  | 0, a, b, h => by
    have : b = 0 := by simpa using h
    subst this
    simp [gcl]
  | f + 1, a, b, h => by
    show gcl ((2 * f + 1) + 1 + 1) a b = Nat.gcd a b
    rw [gcl]
    by_cases hb : b = 0
    · rw [if_pos hb, hb, Nat.gcd_zero_right]
    · rw [if_neg hb, gcl]
      by_cases hr : a % b = 0
      · rw [if_pos hr, Nat.gcd_comm, Nat.gcd_rec, hr, Nat.gcd_zero_left]
      · rw [if_neg hr]
        have hlt := Nat.mod_lt a (Nat.pos_of_ne_zero hb)
        have hh := mod_half (Nat.pos_of_ne_zero hr) hlt
        rw [gcl_gcd f _ _ (by rw [Nat.pow_succ] at h; omega), Nat.gcd_comm (a % b), ← Nat.gcd_rec (a % b) b, ← Nat.gcd_rec b a, Nat.gcd_comm]
theorem gcl_200 {a b : Nat} (h : b < 2 ^ 63) : gcl 200 a b = Nat.gcd a b := by
  have key : ∀ f, gcl (f + 1) a b = gcl f a b ∨ True := fun _ => Or.inr trivial
  have h1 : ∀ f a b, b < 2 ^ f → gcl (2 * f + 2) a b = Nat.gcd a b := by
    intro f a b hb
    rw [show 2 * f + 2 = (2 * f + 1) + 1 from rfl, gcl]
    by_cases h0 : b = 0
    · rw [if_pos h0, h0, Nat.gcd_zero_right]
    · rw [if_neg h0, gcl_gcd f _ _ (Nat.lt_trans (Nat.mod_lt a (Nat.pos_of_ne_zero h0)) hb), Nat.gcd_comm b, ← Nat.gcd_rec, Nat.gcd_comm]
  have h2 := h1 99 a b (Nat.lt_of_lt_of_le h (Nat.pow_le_pow_right (by decide) (by decide)))
  exact h2
theorem s_common (sta : mj_S) (d a b : Nat) (ha : a < 2 ^ 63) (hb : b < 2 ^ 63) : mj_Sx sta (d + 1) 149 [(.long (lN a)), (.long (lN b))] [] (fun v w => v = some (.long (lN (Nat.gcd a b))) ∧ w = []) := by
  refine mj_Sx.mk m_X8_commonDivisor (by decide) n_X8_commonDivisor rfl (fun h0 hv => ?_)
  generalize hT : mj_rx m_X8_commonDivisor h0 _ _ = T
  have loop : ∀ f x u v o o2, x + f = 200 → gcl f u v = Nat.gcd a b → u < 2 ^ 63 → v < 2 ^ 63 → mj_go sta (mj_Cl sta d) m_X8_commonDivisor T 9 [some (.long (lN a)), none, some (.long (lN b)), none, some (.long (lN u)), none, some (.long (lN v)), none, some (.int (nI x)), o, o2] [] h0 := by
    intro f
    induction f with
    | zero =>
      intro x u v o o2 hx hg hu hv'
      repeat (first | refine g_px rfl rfl rfl ?_)
      refine g_ic rfl (fun cq => ?_) (fun cq => ?_)
      · repeat (first | refine g_px rfl rfl rfl ?_)
        subst hT
        refine g_lret hv rfl rfl rfl ⟨?_, rfl⟩
        rw [← hg]
        rfl
      · simp (disch := omega) only [mj_cp, k_6, k_7, k_8, k_9, k_10, k_12, k_15, k_16, k_18, k_20, k_24, k_25, k_26, k_27, k_28, k_32, k_36, k_48, k_57, k_59, k_63, k_74, k_75, k_84, k_90, k_97, k_99, k_100, k_122, k_200, k_255, k_420, k_448, k_720, k_800, k_999, k_bit, k_shl, fa_and, nI_add, bl_1, bl_0, bl_n1, bl_n0, bl_i1, nI_lt0, nI_0le, nI_eq0, nI_eqT, nI_leI, nI_ltI, nI_eq, Nat.not_le, Nat.not_lt, Bool.not_eq_true, Bool.not_eq_false, not_true_eq_false, not_false_eq_true, Decidable.not_not] at cq
        omega
    | succ f ih =>
      intro x u v o o2 hx hg hu hv'
      rw [gcl] at hg
      repeat (first | refine g_px rfl rfl rfl ?_)
      refine g_ic rfl (fun cq => ?_) (fun cq => ?_)
      · simp (disch := omega) only [mj_cp, k_6, k_7, k_8, k_9, k_10, k_12, k_15, k_16, k_18, k_20, k_24, k_25, k_26, k_27, k_28, k_32, k_36, k_48, k_57, k_59, k_63, k_74, k_75, k_84, k_90, k_97, k_99, k_100, k_122, k_200, k_255, k_420, k_448, k_720, k_800, k_999, k_bit, k_shl, fa_and, nI_add, bl_1, bl_0, bl_n1, bl_n0, bl_i1, nI_lt0, nI_0le, nI_eq0, nI_eqT, nI_leI, nI_ltI, nI_eq, Nat.not_le, Nat.not_lt, Bool.not_eq_true, Bool.not_eq_false, not_true_eq_false, not_false_eq_true, Decidable.not_not] at cq
        omega
      · repeat (first | refine g_px rfl rfl rfl ?_)
        refine g_if rfl (fun cq => ?_) (fun cq => ?_)
        · have cq : lg_cmp (lN v) (lN 0) = 0 := cq
          rw [lg_cmp_eq, pk_lEQ hv' (by decide)] at cq
          rw [if_pos cq] at hg
          repeat (first | refine g_px rfl rfl rfl ?_)
          subst hT
          refine g_lret hv rfl rfl rfl ⟨?_, rfl⟩
          rw [← hg]
        · have cq : ¬ lg_cmp (lN v) (lN 0) = 0 := cq
          rw [lg_cmp_eq, pk_lEQ hv' (by decide)] at cq
          rw [if_neg cq] at hg
          refine g_run 2 rfl ?_
          have hne : ¬ lN v = 0 := fun z => cq ((pk_lEQ hv' (by decide)).mp z)
          refine g_nx (pc' := 29) (lv' := [some (.long (lN a)), none, some (.long (lN b)), none, some (.long (lN u)), none, some (.long (lN v)), none, some (.int (nI x)), o, o2]) (st' := [.long (lN u - lN u / lN v * lN v)]) (h' := h0) rfl ?_ ?_
          · show (if lN v = 0 then none else some _) = _
            rw [if_neg hne]
            rfl
          · rw [pk_lRem hu (Nat.pos_of_ne_zero cq) hv']
            refine g_run 7 rfl ?_
            have hlt := Nat.mod_lt u (Nat.pos_of_ne_zero cq)
            have hnx := ih (x + 1) v (u % v) (some (.long (lN (u % v)))) none (by omega) hg hv' (by omega)
            rw [nI_succ] at hnx
            exact hnx
  refine g_run 6 rfl ?_
  exact loop 200 0 a b none none (by omega) (gcl_200 hb) ha hb
def pfr (u v : Nat) (lo : Bool) : Nat := if u = 0 ∨ v = 0 then (if lo then 1 else 0) else (if lo then v else u) / Nat.gcd u v
theorem s_part (sta : mj_S) (d u v : Nat) (tr : Int32) (dr sl lo : Bool) (a b : Nat) (hu : u < 2 ^ 63) (hv' : v < 2 ^ 63) : mj_Sx sta (d + 2) 148 [.ref 0, (.long (lN u)), (.long (lN v)), .int (bl lo)] [wob tr dr a b sl] (fun x w => x = some (.long (lN (pfr u v lo))) ∧ w = [wob 0 dr a b sl]) := by
  refine mj_Sx.mk m_X8_part (by decide) n_X8_part rfl (fun h0 hv => ?_)
  generalize hT : mj_rx m_X8_part h0 _ _ = T
  repeat (first | refine g_px rfl rfl rfl ?_)
  refine g_put hv 0 rfl rfl rfl rfl rfl rfl (fun h hv => ?_)
  have hv : mj_Vw h0 [wob 0 dr a b sl] h := hv
  have zero : (u = 0 ∨ v = 0) → mj_go sta (mj_Cl sta (d + 1)) m_X8_part T 17 [some (.ref 0), some (.long (lN u)), none, some (.long (lN v)), none, some (.int (bl lo)), none, none] [] h := by
    intro hz
    repeat (first | refine g_px rfl rfl rfl ?_)
    refine g_if rfl (fun cq => ?_) (fun cq => ?_)
    · simp (disch := omega) only [mj_cp, k_6, k_7, k_8, k_9, k_10, k_12, k_15, k_16, k_18, k_20, k_24, k_25, k_26, k_27, k_28, k_32, k_36, k_48, k_57, k_59, k_63, k_74, k_75, k_84, k_90, k_97, k_99, k_100, k_122, k_200, k_255, k_420, k_448, k_720, k_800, k_999, k_bit, k_shl, fa_and, nI_add, bl_1, bl_0, bl_n1, bl_n0, bl_i1, nI_lt0, nI_0le, nI_eq0, nI_eqT, nI_leI, nI_ltI, nI_eq, Nat.not_le, Nat.not_lt, Bool.not_eq_true, Bool.not_eq_false, not_true_eq_false, not_false_eq_true, Decidable.not_not] at cq
      repeat (first | refine g_px rfl rfl rfl ?_)
      subst hT
      refine g_lret hv rfl rfl rfl ⟨?_, rfl⟩
      rw [pfr, if_pos hz, cq]
      rfl
    · simp (disch := omega) only [mj_cp, k_6, k_7, k_8, k_9, k_10, k_12, k_15, k_16, k_18, k_20, k_24, k_25, k_26, k_27, k_28, k_32, k_36, k_48, k_57, k_59, k_63, k_74, k_75, k_84, k_90, k_97, k_99, k_100, k_122, k_200, k_255, k_420, k_448, k_720, k_800, k_999, k_bit, k_shl, fa_and, nI_add, bl_1, bl_0, bl_n1, bl_n0, bl_i1, nI_lt0, nI_0le, nI_eq0, nI_eqT, nI_leI, nI_ltI, nI_eq, Nat.not_le, Nat.not_lt, Bool.not_eq_true, Bool.not_eq_false, not_true_eq_false, not_false_eq_true, Decidable.not_not] at cq
      repeat (first | refine g_px rfl rfl rfl ?_)
      subst hT
      refine g_lret hv rfl rfl rfl ⟨?_, rfl⟩
      rw [pfr, if_pos hz, cq]
      rfl
  repeat (first | refine g_px rfl rfl rfl ?_)
  refine g_if rfl (fun cq => ?_) (fun cq => ?_)
  · have cq : lg_cmp (lN u) (lN 0) = 0 := cq
    rw [lg_cmp_eq, pk_lEQ hu (by decide)] at cq
    exact zero (Or.inl cq)
  · have cq : ¬ lg_cmp (lN u) (lN 0) = 0 := cq
    rw [lg_cmp_eq, pk_lEQ hu (by decide)] at cq
    have hu0 := cq
    repeat (first | refine g_px rfl rfl rfl ?_)
    refine g_if rfl (fun cq => ?_) (fun cq => ?_)
    · have cq : ¬ lg_cmp (lN v) (lN 0) = 0 := cq
      rw [lg_cmp_eq, pk_lEQ hv' (by decide)] at cq
      have hv0 := cq
      have hg0 := Nat.gcd_pos_of_pos_left v (Nat.pos_of_ne_zero hu0)
      have hgu := Nat.gcd_le_left v (Nat.pos_of_ne_zero hu0)
      repeat (first | refine g_px rfl rfl rfl ?_)
      refine g_callS hv [] rfl rfl rfl rfl rfl rfl rfl (by simp) (s_common sta d u v hu hv') (fun v w' h hp hk2 hv => ?_)
      obtain ⟨rfl, rfl⟩ := hp
      have hpe : pfr u v lo = (if lo then v else u) / Nat.gcd u v := by rw [pfr, if_neg (fun z => z.elim hu0 hv0)]
      have hne : ¬ lN (Nat.gcd u v) = 0 := fun z => by
        have := (pk_lEQ (a := Nat.gcd u v) (b := 0) (by omega) (by decide)).mp z
        omega
      generalize Nat.gcd u v = G at *
      repeat (first | refine g_px rfl rfl rfl ?_)
      refine g_if rfl (fun cq => ?_) (fun cq => ?_)
      · repeat (first | refine g_px rfl rfl rfl ?_)
        refine g_if rfl (fun cq => ?_) (fun cq => ?_)
        · simp (disch := omega) only [mj_cp, k_6, k_7, k_8, k_9, k_10, k_12, k_15, k_16, k_18, k_20, k_24, k_25, k_26, k_27, k_28, k_32, k_36, k_48, k_57, k_59, k_63, k_74, k_75, k_84, k_90, k_97, k_99, k_100, k_122, k_200, k_255, k_420, k_448, k_720, k_800, k_999, k_bit, k_shl, fa_and, nI_add, bl_1, bl_0, bl_n1, bl_n0, bl_i1, nI_lt0, nI_0le, nI_eq0, nI_eqT, nI_leI, nI_ltI, nI_eq, Nat.not_le, Nat.not_lt, Bool.not_eq_true, Bool.not_eq_false, not_true_eq_false, not_false_eq_true, Decidable.not_not] at cq
          subst cq
          repeat (first | refine g_px rfl rfl rfl ?_)
          refine g_nx (pc' := 69) (lv' := [some (.ref 0), some (.long (lN u)), none, some (.long (lN v)), none, some (.int (bl false)), some (.long (lN G)), none]) (st' := [.long (lN u / lN G)]) (h' := h) rfl ?_ ?_
          · show (if lN G = 0 then none else some _) = _
            rw [if_neg hne]
            rfl
          · rw [pk_lDiv hu hg0 (by omega)]
            subst hT
            exact g_lret hv rfl rfl rfl ⟨by rw [hpe]; rfl, rfl⟩
        · simp (disch := omega) only [mj_cp, k_6, k_7, k_8, k_9, k_10, k_12, k_15, k_16, k_18, k_20, k_24, k_25, k_26, k_27, k_28, k_32, k_36, k_48, k_57, k_59, k_63, k_74, k_75, k_84, k_90, k_97, k_99, k_100, k_122, k_200, k_255, k_420, k_448, k_720, k_800, k_999, k_bit, k_shl, fa_and, nI_add, bl_1, bl_0, bl_n1, bl_n0, bl_i1, nI_lt0, nI_0le, nI_eq0, nI_eqT, nI_leI, nI_ltI, nI_eq, Nat.not_le, Nat.not_lt, Bool.not_eq_true, Bool.not_eq_false, not_true_eq_false, not_false_eq_true, Decidable.not_not] at cq
          subst cq
          repeat (first | refine g_px rfl rfl rfl ?_)
          refine g_nx (pc' := 62) (lv' := [some (.ref 0), some (.long (lN u)), none, some (.long (lN v)), none, some (.int (bl true)), some (.long (lN G)), none]) (st' := [.long (lN v / lN G)]) (h' := h) rfl ?_ ?_
          · show (if lN G = 0 then none else some _) = _
            rw [if_neg hne]
            rfl
          · rw [pk_lDiv hv' hg0 (by omega)]
            repeat (first | refine g_px rfl rfl rfl ?_)
            subst hT
            exact g_lret hv rfl rfl rfl ⟨by rw [hpe]; rfl, rfl⟩
      · have cq : ¬ ¬ lg_cmp (lN G) (lN 0) = 0 := cq
        rw [lg_cmp_eq] at cq
        exact absurd (Decidable.not_not.mp cq) hne
    · have cq : ¬ ¬ lg_cmp (lN v) (lN 0) = 0 := cq
      rw [lg_cmp_eq, pk_lEQ hv' (by decide)] at cq
      exact zero (Or.inr (Decidable.not_not.mp cq))
theorem s_odds (sta : mj_S) (hF : stF sta) (d u : Nat) (tr : Int32) (dr sl lo : Bool) (a b : Nat) (D : Nat → Nat) (hn : D 1 ≤ 6) (hu : u < 2 ^ 63) : mj_Sx sta (d + 3) 147 [.ref 0, (.long (lN u)), .int (bl lo)] [wob tr dr a b sl, dhd a D] (fun x w => x = some (.long (lN (pfr u (fac (D 1)) lo))) ∧ w = [wob 0 dr a b sl, dhd a D]) := by
  refine mj_Sx.mk m_X8_odds (by decide) n_X8_odds rfl (fun h0 hv => ?_)
  generalize hT : mj_rx m_X8_odds h0 _ _ = T
  obtain ⟨F, hF1, hF2⟩ := hF
  have hf := fac_lt (D 1) (by omega)
  repeat (first | refine g_px rfl rfl rfl ?_ | refine g_get hv 0 rfl rfl rfl rfl ?_ | refine g_get hv 1 rfl rfl rfl rfl ?_)
  refine g_sald hv hF1 rfl (vp_in_nI (by omega) (by decide)) ?_
  rw [nI_clamp (by omega), hF2 _ (by omega)]
  repeat (first | refine g_px rfl rfl rfl ?_)
  rw [nI_l (by omega)]
  refine g_callV hv [0] 0 rfl rfl rfl rfl rfl rfl rfl rfl (by simp) (s_part sta d u (fac (D 1)) tr dr sl lo a b hu (by omega)) (fun v w' h hp hk2 hv => ?_)
  obtain ⟨rfl, rfl⟩ := hp
  subst hT
  exact g_lret hv rfl rfl rfl ⟨rfl, rfl⟩
theorem min_nI {a b : Nat} (ha : a < 2 ^ 31) (hb : b < 2 ^ 31) : (if nI a ≤ nI b then nI a else nI b) = nI (min a b) := by
  by_cases h : a ≤ b
  · rw [if_pos (nI_le h hb), Nat.min_eq_left h]
  · rw [if_neg (fun z => h ((nI_leI ha hb).mp z)), Nat.min_eq_right (by omega)]
theorem s_minN (sta : mj_S) (d a b : Nat) (ha : a < 2 ^ 31) (hb : b < 2 ^ 31) : mj_Sx sta (d + 1) 283 [(.int (nI a)), (.int (nI b))] [] (fun v w => v = some (.int (nI (min a b))) ∧ w = []) := by
  have := s_min sta d (nI a) (nI b)
  rw [min_nI ha hb] at this
  exact this
/-- what an agent gains -/
def gsl (mn o r : Nat) : Nat := min (if o = r then mn / 2 else if r < o then mn - min mn 3 else mn) 3
def gn (mn o r : Nat) : Int32 := (nI o - 1) * nI (gsl mn o r)
theorem s_gain (sta : mj_S) (d mn o r : Nat) (hm : mn < 100) (ho : o < 10) (hr : r < 10) : mj_Sx sta (d + 2) 111 [(.int (nI mn)), (.int (nI o)), (.int (nI r))] [] (fun v w => v = some (.int (gn mn o r)) ∧ w = []) := by
  refine mj_Sx.mk m_X8_gain (by decide) n_X8_gain rfl (fun h0 hv => ?_)
  generalize hT : mj_rx m_X8_gain h0 _ _ = T
  have fin : ∀ h l, mj_Vw h0 [] h → l < 100 → l = (if o = r then mn / 2 else if r < o then mn - min mn 3 else mn) → mj_go sta (mj_Cl sta (d + 1)) m_X8_gain T 27 [some (.int (nI mn)), some (.int (nI o)), some (.int (nI r)), some (.int (nI l))] [] h := by
    intro h l hv hl he
    repeat (first | refine g_px rfl rfl rfl ?_)
    refine g_callS hv [] rfl rfl rfl rfl rfl rfl rfl (by simp) (s_minN sta d l 3 (by omega) (by omega)) (fun v w' h hp hk2 hv => ?_)
    obtain ⟨rfl, rfl⟩ := hp
    repeat (first | refine g_px rfl rfl rfl ?_)
    subst hT
    refine g_iret hv rfl rfl rfl rfl ⟨?_, rfl⟩
    rw [gn, gsl, ← he]
    rfl
  repeat (first | refine g_px rfl rfl rfl ?_)
  refine g_ic rfl (fun cq => ?_) (fun cq => ?_)
  · simp (disch := omega) only [mj_cp, k_6, k_7, k_8, k_9, k_10, k_12, k_15, k_16, k_18, k_20, k_24, k_25, k_26, k_27, k_28, k_32, k_36, k_48, k_57, k_59, k_63, k_74, k_75, k_84, k_90, k_97, k_99, k_100, k_122, k_200, k_255, k_420, k_448, k_720, k_800, k_999, k_bit, k_shl, fa_and, nI_add, bl_1, bl_0, bl_n1, bl_n0, bl_i1, nI_lt0, nI_0le, nI_eq0, nI_eqT, nI_leI, nI_ltI, nI_eq, Nat.not_le, Nat.not_lt, Bool.not_eq_true, Bool.not_eq_false, not_true_eq_false, not_false_eq_true, Decidable.not_not] at cq
    repeat (first | refine g_px rfl rfl rfl ?_)
    refine g_ic rfl (fun cq => ?_) (fun cq => ?_)
    · simp (disch := omega) only [mj_cp, k_6, k_7, k_8, k_9, k_10, k_12, k_15, k_16, k_18, k_20, k_24, k_25, k_26, k_27, k_28, k_32, k_36, k_48, k_57, k_59, k_63, k_74, k_75, k_84, k_90, k_97, k_99, k_100, k_122, k_200, k_255, k_420, k_448, k_720, k_800, k_999, k_bit, k_shl, fa_and, nI_add, bl_1, bl_0, bl_n1, bl_n0, bl_i1, nI_lt0, nI_0le, nI_eq0, nI_eqT, nI_leI, nI_ltI, nI_eq, Nat.not_le, Nat.not_lt, Bool.not_eq_true, Bool.not_eq_false, not_true_eq_false, not_false_eq_true, Decidable.not_not] at cq
      exact fin h0 mn hv (by omega) (by rw [if_neg (by omega), if_neg (by omega)])
    · simp (disch := omega) only [mj_cp, k_6, k_7, k_8, k_9, k_10, k_12, k_15, k_16, k_18, k_20, k_24, k_25, k_26, k_27, k_28, k_32, k_36, k_48, k_57, k_59, k_63, k_74, k_75, k_84, k_90, k_97, k_99, k_100, k_122, k_200, k_255, k_420, k_448, k_720, k_800, k_999, k_bit, k_shl, fa_and, nI_add, bl_1, bl_0, bl_n1, bl_n0, bl_i1, nI_lt0, nI_0le, nI_eq0, nI_eqT, nI_leI, nI_ltI, nI_eq, Nat.not_le, Nat.not_lt, Bool.not_eq_true, Bool.not_eq_false, not_true_eq_false, not_false_eq_true, Decidable.not_not] at cq
      repeat (first | refine g_px rfl rfl rfl ?_)
      refine g_callS hv [] rfl rfl rfl rfl rfl rfl rfl (by simp) (s_minN sta d mn 3 (by omega) (by omega)) (fun v w' h hp hk2 hv => ?_)
      obtain ⟨rfl, rfl⟩ := hp
      refine g_run 2 rfl ?_
      rw [pk_sub (by omega)]
      exact fin h (mn - min mn 3) hv (by omega) (by rw [if_neg (by omega), if_pos (by omega)])
  · simp (disch := omega) only [mj_cp, k_6, k_7, k_8, k_9, k_10, k_12, k_15, k_16, k_18, k_20, k_24, k_25, k_26, k_27, k_28, k_32, k_36, k_48, k_57, k_59, k_63, k_74, k_75, k_84, k_90, k_97, k_99, k_100, k_122, k_200, k_255, k_420, k_448, k_720, k_800, k_999, k_bit, k_shl, fa_and, nI_add, bl_1, bl_0, bl_n1, bl_n0, bl_i1, nI_lt0, nI_0le, nI_eq0, nI_eqT, nI_leI, nI_ltI, nI_eq, Nat.not_le, Nat.not_lt, Bool.not_eq_true, Bool.not_eq_false, not_true_eq_false, not_false_eq_true, Decidable.not_not] at cq
    refine g_run 5 rfl ?_
    rw [show nI mn / Int32.ofInt 2 = nI (mn / 2) from pk_div (d := 2) (by omega) (by decide) (by decide)]
    exact fin h0 (mn / 2) hv (by omega) (by rw [if_pos (by omega)])
def bbr (mn o r : Nat) : Nat → Bool
  | 0 => true
  | k + 1 => bbr mn o r k && !decide (gn mn o r < gn mn k r)
theorem bbr_no {mn o r k : Nat} (h : gn mn o r < gn mn k r) : ∀ m, k < m → bbr mn o r m = false
  | 0, hm => by omega
  | m + 1, hm => by
    rw [bbr]
    by_cases e : k = m
    · subst e; rw [decide_eq_true h, Bool.not_true, Bool.and_false]
    · rw [bbr_no h m (by omega), Bool.false_and]
theorem s_bestReply (sta : mj_S) (d mn o r : Nat) (hm : mn < 100) (ho : o < 10) (hr : r < 10) : mj_Sx sta (d + 3) 110 [(.int (nI mn)), (.int (nI o)), (.int (nI r))] [] (fun v w => v = some (.int (bl (bbr mn o r 10))) ∧ w = []) := by
  refine mj_Sx.mk m_X8_isBestReply (by decide) n_X8_isBestReply rfl (fun h0 hv => ?_)
  generalize hT : mj_rx m_X8_isBestReply h0 _ _ = T
  have loop : ∀ j k h, k + j = 10 → bbr mn o r k = true → mj_Vw h0 [] h → mj_go sta (mj_Cl sta (d + 2)) m_X8_isBestReply T 10 [some (.int (nI mn)), some (.int (nI o)), some (.int (nI r)), some (.int (gn mn o r)), some (.int (nI k))] [] h := by
    intro j
    induction j with
    | zero =>
      intro k h hk hb hv
      have hk : k = 10 := by omega
      subst hk
      repeat (first | refine g_px rfl rfl rfl ?_)
      refine g_ic rfl (fun cq => ?_) (fun cq => ?_)
      · repeat (first | refine g_px rfl rfl rfl ?_)
        subst hT
        exact g_iret hv rfl rfl rfl rfl ⟨by rw [hb]; rfl, rfl⟩
      · simp (disch := omega) only [mj_cp, k_6, k_7, k_8, k_9, k_10, k_12, k_15, k_16, k_18, k_20, k_24, k_25, k_26, k_27, k_28, k_32, k_36, k_48, k_57, k_59, k_63, k_74, k_75, k_84, k_90, k_97, k_99, k_100, k_122, k_200, k_255, k_420, k_448, k_720, k_800, k_999, k_bit, k_shl, fa_and, nI_add, bl_1, bl_0, bl_n1, bl_n0, bl_i1, nI_lt0, nI_0le, nI_eq0, nI_eqT, nI_leI, nI_ltI, nI_eq, Nat.not_le, Nat.not_lt, Bool.not_eq_true, Bool.not_eq_false, not_true_eq_false, not_false_eq_true, Decidable.not_not] at cq
        omega
    | succ j ih =>
      intro k h hk hb hv
      repeat (first | refine g_px rfl rfl rfl ?_)
      refine g_ic rfl (fun cq => ?_) (fun cq => ?_)
      · simp (disch := omega) only [mj_cp, k_6, k_7, k_8, k_9, k_10, k_12, k_15, k_16, k_18, k_20, k_24, k_25, k_26, k_27, k_28, k_32, k_36, k_48, k_57, k_59, k_63, k_74, k_75, k_84, k_90, k_97, k_99, k_100, k_122, k_200, k_255, k_420, k_448, k_720, k_800, k_999, k_bit, k_shl, fa_and, nI_add, bl_1, bl_0, bl_n1, bl_n0, bl_i1, nI_lt0, nI_0le, nI_eq0, nI_eqT, nI_leI, nI_ltI, nI_eq, Nat.not_le, Nat.not_lt, Bool.not_eq_true, Bool.not_eq_false, not_true_eq_false, not_false_eq_true, Decidable.not_not] at cq
        omega
      · repeat (first | refine g_px rfl rfl rfl ?_)
        refine g_callS hv [] rfl rfl rfl rfl rfl rfl rfl (by simp) (s_gain sta d mn k r hm (by omega) hr) (fun v w' h hp hk2 hv => ?_)
        obtain ⟨rfl, rfl⟩ := hp
        repeat (first | refine g_px rfl rfl rfl ?_)
        refine g_ic rfl (fun cq => ?_) (fun cq => ?_)
        · have cq : gn mn k r ≤ gn mn o r := cq
          refine g_run 2 rfl ?_
          have hnx := ih (k + 1) h (by omega) (by rw [bbr, hb, decide_eq_false (Int32.not_lt.mpr cq)]; rfl) hv
          rw [nI_succ] at hnx
          exact hnx
        · have cq : ¬ gn mn k r ≤ gn mn o r := cq
          repeat (first | refine g_px rfl rfl rfl ?_)
          subst hT
          exact g_iret hv rfl rfl rfl rfl ⟨by rw [bbr_no (Int32.not_le.mp cq) 10 (by omega)]; rfl, rfl⟩
  repeat (first | refine g_px rfl rfl rfl ?_)
  refine g_callS hv [] rfl rfl rfl rfl rfl rfl rfl (by simp) (s_gain sta d mn o r hm ho hr) (fun v w' h hp hk2 hv => ?_)
  obtain ⟨rfl, rfl⟩ := hp
  refine g_run 3 rfl ?_
  exact loop 10 0 h (by omega) rfl hv
def rst (mn o r : Nat) : Bool := bbr mn o r 10 && bbr mn r o 10
theorem s_isRest (sta : mj_S) (d mn o r : Nat) (hm : mn < 100) (ho : o < 10) (hr : r < 10) : mj_Sx sta (d + 4) 109 [(.int (nI mn)), (.int (nI o)), (.int (nI r))] [] (fun v w => v = some (.int (bl (rst mn o r))) ∧ w = []) := by
  refine mj_Sx.mk m_X8_isRest (by decide) n_X8_isRest rfl (fun h0 hv => ?_)
  generalize hT : mj_rx m_X8_isRest h0 _ _ = T
  repeat (first | refine g_px rfl rfl rfl ?_)
  refine g_callS hv [] rfl rfl rfl rfl rfl rfl rfl (by simp) (s_bestReply sta d mn o r hm ho hr) (fun v w' h hp hk2 hv => ?_)
  obtain ⟨rfl, rfl⟩ := hp
  refine g_if rfl (fun cq => ?_) (fun cq => ?_)
  · simp (disch := omega) only [mj_cp, k_6, k_7, k_8, k_9, k_10, k_12, k_15, k_16, k_18, k_20, k_24, k_25, k_26, k_27, k_28, k_32, k_36, k_48, k_57, k_59, k_63, k_74, k_75, k_84, k_90, k_97, k_99, k_100, k_122, k_200, k_255, k_420, k_448, k_720, k_800, k_999, k_bit, k_shl, fa_and, nI_add, bl_1, bl_0, bl_n1, bl_n0, bl_i1, nI_lt0, nI_0le, nI_eq0, nI_eqT, nI_leI, nI_ltI, nI_eq, Nat.not_le, Nat.not_lt, Bool.not_eq_true, Bool.not_eq_false, not_true_eq_false, not_false_eq_true, Decidable.not_not] at cq
    repeat (first | refine g_px rfl rfl rfl ?_)
    subst hT
    exact g_iret hv rfl rfl rfl rfl ⟨by rw [rst, cq]; rfl, rfl⟩
  · simp (disch := omega) only [mj_cp, k_6, k_7, k_8, k_9, k_10, k_12, k_15, k_16, k_18, k_20, k_24, k_25, k_26, k_27, k_28, k_32, k_36, k_48, k_57, k_59, k_63, k_74, k_75, k_84, k_90, k_97, k_99, k_100, k_122, k_200, k_255, k_420, k_448, k_720, k_800, k_999, k_bit, k_shl, fa_and, nI_add, bl_1, bl_0, bl_n1, bl_n0, bl_i1, nI_lt0, nI_0le, nI_eq0, nI_eqT, nI_leI, nI_ltI, nI_eq, Nat.not_le, Nat.not_lt, Bool.not_eq_true, Bool.not_eq_false, not_true_eq_false, not_false_eq_true, Decidable.not_not] at cq
    have h1 := cq
    repeat (first | refine g_px rfl rfl rfl ?_)
    refine g_callS hv [] rfl rfl rfl rfl rfl rfl rfl (by simp) (s_bestReply sta d mn r o hm hr ho) (fun v w' h hp hk2 hv => ?_)
    obtain ⟨rfl, rfl⟩ := hp
    refine g_if rfl (fun cq => ?_) (fun cq => ?_)
    · simp (disch := omega) only [mj_cp, k_6, k_7, k_8, k_9, k_10, k_12, k_15, k_16, k_18, k_20, k_24, k_25, k_26, k_27, k_28, k_32, k_36, k_48, k_57, k_59, k_63, k_74, k_75, k_84, k_90, k_97, k_99, k_100, k_122, k_200, k_255, k_420, k_448, k_720, k_800, k_999, k_bit, k_shl, fa_and, nI_add, bl_1, bl_0, bl_n1, bl_n0, bl_i1, nI_lt0, nI_0le, nI_eq0, nI_eqT, nI_leI, nI_ltI, nI_eq, Nat.not_le, Nat.not_lt, Bool.not_eq_true, Bool.not_eq_false, not_true_eq_false, not_false_eq_true, Decidable.not_not] at cq
      repeat (first | refine g_px rfl rfl rfl ?_)
      subst hT
      exact g_iret hv rfl rfl rfl rfl ⟨by rw [rst, h1, cq]; rfl, rfl⟩
    · simp (disch := omega) only [mj_cp, k_6, k_7, k_8, k_9, k_10, k_12, k_15, k_16, k_18, k_20, k_24, k_25, k_26, k_27, k_28, k_32, k_36, k_48, k_57, k_59, k_63, k_74, k_75, k_84, k_90, k_97, k_99, k_100, k_122, k_200, k_255, k_420, k_448, k_720, k_800, k_999, k_bit, k_shl, fa_and, nI_add, bl_1, bl_0, bl_n1, bl_n0, bl_i1, nI_lt0, nI_0le, nI_eq0, nI_eqT, nI_leI, nI_ltI, nI_eq, Nat.not_le, Nat.not_lt, Bool.not_eq_true, Bool.not_eq_false, not_true_eq_false, not_false_eq_true, Decidable.not_not] at cq
      repeat (first | refine g_px rfl rfl rfl ?_)
      subst hT
      exact g_iret hv rfl rfl rfl rfl ⟨by rw [rst, h1, cq]; rfl, rfl⟩
