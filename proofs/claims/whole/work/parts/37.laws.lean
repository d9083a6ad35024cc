/-! LowNumber: toJoin, ifMarried, laws -/
/-- the best of those that may be, the first of like ones; what it costs -/
def pick (ok : Nat → Bool) (L : Nat → Nat) : Nat → Option Nat × Nat
  | 0 => (none, 0)
  | m + 1 => if ok m = true ∧ ((pick ok L m).1 = none ∨ L m < (pick ok L m).2) then (some m, L m) else pick ok L m
theorem pick_lt {ok : Nat → Bool} {L : Nat → Nat} {c : Nat} (hc : 0 < c) (hL : ∀ m, L m < c) : ∀ m, (pick ok L m).2 < c ∧ ∀ q, (pick ok L m).1 = some q → q < m
  | 0 => ⟨hc, fun q h => by cases h⟩
  | m + 1 => by
    have ih := pick_lt (ok := ok) hc hL m
    rw [pick]
    split
    · exact ⟨hL m, fun q h => by cases h; omega⟩
    · exact ⟨ih.1, fun q h => by have := ih.2 q h; omega⟩
section Join
variable (sta : mj_S) (d : Nat) (tr : Int32) (sl : Bool) (a b : Nat) (D : Nat → Nat) (DA : Nat → Nat → Nat) (N : Nat → Nat) (NA : Nat → Nat → Nat) (g : Nat → Option Nat) (X : CX)
def lsT (D : Nat → Nat) (DA : Nat → Nat → Nat) (lw : Nat) (sn C : Nat → Nat) (cl : Nat) : Nat := tot D DA lw sn C (fun T g => fb_sm (lsc cl T g (DA 1) (DA 3)) (D 1))
theorem lsT_lt {D : Nat → Nat} {DA : Nat → Nat → Nat} {lw cl : Nat} {sn C : Nat → Nat} (hn : D 1 ≤ 6) (hW : bd 1000 (DA 1)) (hA : bd 1000 (DA 3)) : lsT D DA lw sn C cl < 5000000 := by
  have := tot_le (D := D) (DA := DA) (lw := lw) (sn := sn) (C := C) (φ := fun T g => fb_sm (lsc cl T g (DA 1) (DA 3)) (D 1)) (c := 6000) hn (fun T g => lss_lt hW hA hn)
  unfold lsT
  omega
theorem s_toJoin (k : Nat) (hk : k < 2 ^ D 1) (hF : stF sta) (hD : okD D DA) (h1 : 1 ≤ D 1) (hN : okN N NA g) (hX : okX X) (hs : sl = false → csk D DA (N 0) (NA 0) (NA 1) X) :
    mj_Sx sta (d + 6) 89 [.ref 0, (.int (nI k))] (wod tr true a b sl D DA N NA g X) (fun v w => v = some (.int (snd (pick (fun m => !k.testBit m) (fun m => lsT D DA (N 0) (NA 0) (NA 1) (2 ^ m)) (D 1)).1)) ∧ ∃ sl' X', okX X' ∧ (sl' = false → csk D DA (N 0) (NA 0) (NA 1) X') ∧ w = wod 0 true a b sl' D DA N NA g X') := by
  refine mj_Sx.mk m_X8_toJoin (by decide) n_X8_toJoin rfl (fun h0 hv => ?_)
  generalize hT : mj_rx m_X8_toJoin h0 _ _ = T
  have hD2 := hD
  obtain ⟨d0, d1, d3, d4, d5, d6, d7, d8, d2, a0, a1, a2, a3, a4, a5⟩ := hD2
  have hW : bd 1000 (DA 1) := bd_le a1 (by decide)
  have hA : bd 1000 (DA 3) := bd_le a3 (by decide)
  have hp6 := p6 d1
  have loop : ∀ j m h o o2 sl X, m + j = D 1 → okX X → (sl = false → csk D DA (N 0) (NA 0) (NA 1) X) → mj_Vw h0 (wod tr true a b sl D DA N NA g X) h → mj_go sta (mj_Cl sta (d + 5)) m_X8_toJoin T 22 [some (.ref 0), some (.int (nI k)), some (.int (snd (pick (fun m => !k.testBit m) (fun m => lsT D DA (N 0) (NA 0) (NA 1) (2 ^ m)) m).1)), some (.long (lN ((pick (fun m => !k.testBit m) (fun m => lsT D DA (N 0) (NA 0) (NA 1) (2 ^ m)) m).2))), none, some (.int (nI m)), o, o2] [] h := by
    intro j
    induction j with
    | zero =>
      intro m h o o2 sl X hm hX hs hv
      repeat (first | refine g_px rfl rfl rfl ?_ | refine g_get hv 0 rfl rfl rfl rfl ?_ | refine g_get hv 1 rfl rfl rfl rfl ?_)
      refine g_ic rfl (fun cq => ?_) (fun cq => ?_)
      · have hm : m = D 1 := by omega
        subst hm
        repeat (first | refine g_px rfl rfl rfl ?_)
        refine g_callV hv [0] 0 rfl rfl rfl rfl rfl rfl rfl rfl (by decide) (s_answer' sta (d + 4) tr true sl a b _) (fun v w' h hp hk2 hv => ?_)
        obtain ⟨rfl, rfl⟩ := hp
        subst hT
        exact g_iret hv rfl rfl rfl rfl ⟨rfl, sl, X, hX, hs, rfl⟩
      · simp (disch := omega) only [mj_cp, k_6, k_7, k_8, k_9, k_10, k_12, k_15, k_16, k_18, k_20, k_24, k_25, k_26, k_27, k_28, k_32, k_36, k_48, k_57, k_59, k_63, k_74, k_75, k_84, k_90, k_97, k_99, k_100, k_122, k_200, k_255, k_420, k_448, k_720, k_800, k_999, k_bit, k_shl, fa_and, nI_add, bl_1, bl_0, bl_n1, bl_n0, bl_i1, nI_lt0, nI_0le, nI_eq0, nI_eqT, nI_leI, nI_ltI, nI_eq, Nat.not_le, Nat.not_lt, Bool.not_eq_true, Bool.not_eq_false, not_true_eq_false, not_false_eq_true, Decidable.not_not] at cq
        omega
    | succ j ih =>
      intro m h o o2 sl X hm hX hs hv
      have hpl := pick_lt (ok := fun m => !k.testBit m) (L := fun m => lsT D DA (N 0) (NA 0) (NA 1) (2 ^ m)) (c := 5000000) (by decide) (fun m => lsT_lt d1 hW hA) m
      have hll := lsT_lt (lw := N 0) (sn := NA 0) (C := NA 1) (cl := 2 ^ m) d1 hW hA
      repeat (first | refine g_px rfl rfl rfl ?_ | refine g_get hv 0 rfl rfl rfl rfl ?_ | refine g_get hv 1 rfl rfl rfl rfl ?_)
      refine g_ic rfl (fun cq => ?_) (fun cq => ?_)
      · simp (disch := omega) only [mj_cp, k_6, k_7, k_8, k_9, k_10, k_12, k_15, k_16, k_18, k_20, k_24, k_25, k_26, k_27, k_28, k_32, k_36, k_48, k_57, k_59, k_63, k_74, k_75, k_84, k_90, k_97, k_99, k_100, k_122, k_200, k_255, k_420, k_448, k_720, k_800, k_999, k_bit, k_shl, fa_and, nI_add, bl_1, bl_0, bl_n1, bl_n0, bl_i1, nI_lt0, nI_0le, nI_eq0, nI_eqT, nI_leI, nI_ltI, nI_eq, Nat.not_le, Nat.not_lt, Bool.not_eq_true, Bool.not_eq_false, not_true_eq_false, not_false_eq_true, Decidable.not_not] at cq
        omega
      · repeat (first | refine g_px rfl rfl rfl ?_)
        refine g_if rfl (fun cq => ?_) (fun cq => ?_)
        · simp (disch := omega) only [mj_cp, k_6, k_7, k_8, k_9, k_10, k_12, k_15, k_16, k_18, k_20, k_24, k_25, k_26, k_27, k_28, k_32, k_36, k_48, k_57, k_59, k_63, k_74, k_75, k_84, k_90, k_97, k_99, k_100, k_122, k_200, k_255, k_420, k_448, k_720, k_800, k_999, k_bit, k_shl, fa_and, nI_add, bl_1, bl_0, bl_n1, bl_n0, bl_i1, nI_lt0, nI_0le, nI_eq0, nI_eqT, nI_leI, nI_ltI, nI_eq, Nat.not_le, Nat.not_lt, Bool.not_eq_true, Bool.not_eq_false, not_true_eq_false, not_false_eq_true, Decidable.not_not] at cq
          have hnx := ih (m + 1) h o o2 sl X (by omega) hX hs hv
          rw [nI_succ, pick, if_neg (by simp [cq])] at hnx
          refine g_run 2 rfl ?_
          exact hnx
        · simp (disch := omega) only [mj_cp, k_6, k_7, k_8, k_9, k_10, k_12, k_15, k_16, k_18, k_20, k_24, k_25, k_26, k_27, k_28, k_32, k_36, k_48, k_57, k_59, k_63, k_74, k_75, k_84, k_90, k_97, k_99, k_100, k_122, k_200, k_255, k_420, k_448, k_720, k_800, k_999, k_bit, k_shl, fa_and, nI_add, bl_1, bl_0, bl_n1, bl_n0, bl_i1, nI_lt0, nI_0le, nI_eq0, nI_eqT, nI_leI, nI_ltI, nI_eq, Nat.not_le, Nat.not_lt, Bool.not_eq_true, Bool.not_eq_false, not_true_eq_false, not_false_eq_true, Decidable.not_not] at cq
          have hbit := cq
          repeat (first | refine g_px rfl rfl rfl ?_)
          refine g_callV hv [0, 1, 2, 3, 4, 5, 6, 7, 8, 9, 10, 11, 12, 13, 14, 15, 16, 17, 18, 19] 0 rfl rfl rfl rfl rfl rfl rfl rfl (by decide) (s_table sta d tr sl a b D DA N NA g X hF hD h1 hN hX hs) (fun v w' h hp hk2 hv => ?_)
          obtain ⟨rfl, ⟨⟨tb, sb, cl, mn⟩, r', g', ct, K, G, E⟩, hX', hc, rfl⟩ := hp
          have hmn : mn = nI (D 1) := hc.1
          subst hmn
          have hX2 := hX'
          obtain ⟨x1, x2, x3, x4, x5⟩ := hX2
          have hv : mj_Vw h0 (wod tr true a b false D DA N NA g ((tb, sb, cl, nI (D 1)), r', g', ct, K, G, E)) h := hv
          repeat (first | refine g_px rfl rfl rfl ?_ | refine g_get hv 0 rfl rfl rfl rfl ?_)
          rw [k_shl (show m < 31 by omega)]
          refine g_callV hv [13, 17, 18, 1, 3, 5, 19] 13 rfl rfl rfl rfl rfl rfl rfl rfl (by decide) (s_lossOf sta (d + 2) 130 a ct (D 1) (2 ^ m) (D 0) (nI (D 2)) (nI (D 3)) (nI (D 4)) (nI (D 5)) (nI (D 6)) (nI (D 7)) (nI (D 8)) K G E (DA 1) (DA 3) x3 x4 x5 x2 d1 hW hA) (fun v w' h hp hk2 hv => ?_)
          obtain ⟨rfl, rfl⟩ := hp
          have e : fb_sm (fun x => E x * fb_sm (lsc (2 ^ m) (K x) (G x) (DA 1) (DA 3)) (D 1)) ct = lsT D DA (N 0) (NA 0) (NA 1) (2 ^ m) := csk_sum ⟨h1, d1⟩ hc (fun T g => fb_sm (lsc (2 ^ m) T g (DA 1) (DA 3)) (D 1))
          rw [e]
          have hv : mj_Vw h0 (wod tr true a b false D DA N NA g ((tb, sb, cl, nI (D 1)), r', g', ct, K, G, E)) h := hv
          have hnx := ih (m + 1) h (some (.long (lN (lsT D DA (N 0) (NA 0) (NA 1) (2 ^ m))))) none false _ (by omega) hX' (fun _ => hc) hv
          rw [nI_succ, pick] at hnx
          repeat (first | refine g_px rfl rfl rfl ?_)
          refine g_ic rfl (fun cq => ?_) (fun cq => ?_)
          · have cq : snd (pick (fun m => !k.testBit m) (fun m => lsT D DA (N 0) (NA 0) (NA 1) (2 ^ m)) m).1 = (Int8.ofInt (-2)).toInt32 := cq
            rw [snd_n2 (fun q hq => by have := hpl.2 q hq; omega)] at cq
            rw [if_pos ⟨by simp [hbit], Or.inl cq⟩] at hnx
            refine g_run 6 rfl ?_
            exact hnx
          · have cq : ¬ snd (pick (fun m => !k.testBit m) (fun m => lsT D DA (N 0) (NA 0) (NA 1) (2 ^ m)) m).1 = (Int8.ofInt (-2)).toInt32 := cq
            rw [snd_n2 (fun q hq => by have := hpl.2 q hq; omega)] at cq
            have hno := cq
            repeat (first | refine g_px rfl rfl rfl ?_)
            refine g_if rfl (fun cq => ?_) (fun cq => ?_)
            · have cq : 0 ≤ lg_cmp (lN (lsT D DA (N 0) (NA 0) (NA 1) (2 ^ m))) (lN (pick (fun m => !k.testBit m) (fun m => lsT D DA (N 0) (NA 0) (NA 1) (2 ^ m)) m).2) := cq
              rw [lg_cmp_ge, pk_lLE (by omega) (by omega)] at cq
              rw [if_neg (fun z => z.2.elim hno (fun z => by omega))] at hnx
              refine g_run 2 rfl ?_
              exact hnx
            · have cq : ¬ 0 ≤ lg_cmp (lN (lsT D DA (N 0) (NA 0) (NA 1) (2 ^ m))) (lN (pick (fun m => !k.testBit m) (fun m => lsT D DA (N 0) (NA 0) (NA 1) (2 ^ m)) m).2) := cq
              rw [lg_cmp_ge, pk_lLE (by omega) (by omega)] at cq
              rw [if_pos ⟨by simp [hbit], Or.inr (by omega)⟩] at hnx
              refine g_run 6 rfl ?_
              exact hnx
  repeat (first | refine g_px rfl rfl rfl ?_)
  refine g_callV hv [0, 1] 0 rfl rfl rfl rfl rfl rfl rfl rfl (by decide) (s_isClub sta (d + 3) tr true sl a b D (nI k) d1) (fun v w' h hp hk2 hv => ?_)
  obtain ⟨rfl, rfl⟩ := hp
  rw [inR_k hk (by omega)]
  refine g_if rfl (fun cq => ?_) (fun cq => absurd (show ¬ bl true = 0 by decide) cq)
  refine g_run 6 rfl ?_
  exact loop (D 1) 0 h none none sl X (by omega) hX hs hv
abbrev wmr (tr : Int32) (dr : Bool) (a b : Nat) (sl : Bool) (D : Nat → Nat) (DA : Nat → Nat → Nat) (N : Nat → Nat) (NA : Nat → Nat → Nat) (g : Nat → Option Nat) (N' : Nat → Nat) (NA' : Nat → Nat → Nat) (g' : Nat → Option Nat) (X : CX) : mj_W := [wob tr dr a b sl] ++ dv a D DA ++ nv 19 N NA g ++ nv 24 N' NA' g' ++ cs7 137 X
theorem s_ifMarried (k : Nat) (hk : k < D 1) (lo : Bool) (N' : Nat → Nat) (NA' : Nat → Nat → Nat) (g' : Nat → Option Nat) (hF : stF sta) (hD : okD D DA) (h1 : 1 ≤ D 1) (hN : okN N NA g) (hX : okX X) :
    mj_Sx sta (d + 5) 91 [.ref 0, (.int (nI k)), .int (bl lo)] (wmr tr true a b sl D DA N NA g N' NA' g' X) (fun v w => v = some (.long (lN (pfr (lsT D DA (N 0) (va_up (NA 0) k 1) (NA 1) (2 ^ k)) (fac (D 1)) lo))) ∧ ∃ NA' X', okX X' ∧ w = wmr 0 true a b sl D DA N NA g N NA' g X') := by
  refine mj_Sx.mk m_X8_ifMarried (by decide) n_X8_ifMarried rfl (fun h0 hv => ?_)
  generalize hT : mj_rx m_X8_ifMarried h0 _ _ = T
  have hD2 := hD
  obtain ⟨d0, d1, d3, d4, d5, d6, d7, d8, d2, a0, a1, a2, a3, a4, a5⟩ := hD2
  have hW : bd 1000 (DA 1) := bd_le a1 (by decide)
  have hA : bd 1000 (DA 3) := bd_le a3 (by decide)
  obtain ⟨n0, n1, n3, b0, b1, b2, gk⟩ := hN
  repeat (first | refine g_px rfl rfl rfl ?_)
  refine g_callV hv [0, 1] 0 rfl rfl rfl rfl rfl rfl rfl rfl (by decide) (s_isMan sta (d + 3) tr true sl a b D (nI k) d1) (fun v w' h hp hk2 hv => ?_)
  obtain ⟨rfl, rfl⟩ := hp
  rw [inR_k hk (by omega)]
  refine g_if rfl (fun cq => ?_) (fun cq => absurd (show ¬ bl true = 0 by decide) cq)
  have hv : mj_Vw h0 (wmr tr true a b sl D DA N NA g N' NA' g' X) h := hv
  repeat (first | refine g_px rfl rfl rfl ?_ | refine g_get hv 0 rfl rfl rfl rfl ?_)
  refine g_callV hv [13, 14, 15, 16, 17, 8, 9, 10, 11, 12] 13 rfl rfl rfl rfl rfl rfl rfl rfl (by decide) (s_takeN sta (d + 3) 24 19 ((nI (N' 0), nI (N' 1), nI (N' 2), nI (N' 3)), NA' 0, NA' 1, NA' 2, g') ((nI (N 0), nI (N 1), nI (N 2), nI (N 3)), NA 0, NA 1, NA 2, g)) (fun v w' h hp hk2 hv => ?_)
  obtain ⟨rfl, rfl⟩ := hp
  have hv : mj_Vw h0 (wmr tr true a b sl D DA N NA g N NA g X) h := hv
  repeat (first | refine g_px rfl rfl rfl ?_ | refine g_get hv 0 rfl rfl rfl rfl ?_ | refine g_get hv 13 rfl rfl rfl rfl ?_)
  refine g_nst (y := 1) hv 14 (by omega) rfl rfl (fun h hv => ?_)
  have hv : mj_Vw h0 (wmr tr true a b sl D DA N NA g N (va_up NA 0 (va_up (NA 0) k 1)) g X) h := hv
  repeat (first | refine g_px rfl rfl rfl ?_ | refine g_get hv 0 rfl rfl rfl rfl ?_ | refine g_get hv 8 rfl rfl rfl rfl ?_)
  refine g_callV hv [18, 19, 20, 21, 22, 23, 24, 1, 2, 3, 4, 5, 6, 7, 13, 14, 15, 16, 17] 18 rfl rfl rfl rfl rfl rfl rfl rfl (by decide) (s_fillX sta d 137 a 24 (N 0) D DA N (va_up NA 0 (va_up (NA 0) k 1)) g X hF hD h1 (show bd 4 (va_up (NA 0) k 1) from fun i => by
    unfold va_up
    split
    · omega
    · exact b0 i) b1 hX n0) (fun v w' h hp hk hv => ?_)
  obtain ⟨rfl, ⟨⟨tb, sb, cl, mn⟩, r', g', ct, K, G, E⟩, hX', hc, rfl⟩ := hp
  have hc : csk D DA (N 0) (va_up (NA 0) k 1) (NA 1) ((tb, sb, cl, mn), r', g', ct, K, G, E) := hc
  have hmn : mn = nI (D 1) := hc.1
  subst hmn
  have hX2 := hX'
  obtain ⟨x1, x2, x3, x4, x5⟩ := hX2
  have hv : mj_Vw h0 (wmr tr true a b sl D DA N NA g N (va_up NA 0 (va_up (NA 0) k 1)) g ((tb, sb, cl, nI (D 1)), r', g', ct, K, G, E)) h := hv
  repeat (first | refine g_px rfl rfl rfl ?_ | refine g_get hv 0 rfl rfl rfl rfl ?_)
  rw [k_shl (show k < 31 by omega)]
  refine g_callV hv [18, 22, 23, 1, 3, 5, 24] 18 rfl rfl rfl rfl rfl rfl rfl rfl (by decide) (s_lossOf sta (d + 1) 137 a ct (D 1) (2 ^ k) (D 0) (nI (D 2)) (nI (D 3)) (nI (D 4)) (nI (D 5)) (nI (D 6)) (nI (D 7)) (nI (D 8)) K G E (DA 1) (DA 3) x3 x4 x5 x2 d1 hW hA) (fun v w' h hp hk2 hv => ?_)
  obtain ⟨rfl, rfl⟩ := hp
  have e : fb_sm (fun x => E x * fb_sm (lsc (2 ^ k) (K x) (G x) (DA 1) (DA 3)) (D 1)) ct = lsT D DA (N 0) (va_up (NA 0) k 1) (NA 1) (2 ^ k) := csk_sum ⟨h1, d1⟩ hc (fun T g => fb_sm (lsc (2 ^ k) T g (DA 1) (DA 3)) (D 1))
  rw [e]
  have hll := lsT_lt (lw := N 0) (sn := va_up (NA 0) k 1) (C := NA 1) (cl := 2 ^ k) d1 hW hA
  have hv : mj_Vw h0 (wmr tr true a b sl D DA N NA g N (va_up NA 0 (va_up (NA 0) k 1)) g ((tb, sb, cl, nI (D 1)), r', g', ct, K, G, E)) h := hv
  repeat (first | refine g_px rfl rfl rfl ?_)
  refine g_callV hv [0, 1] 0 rfl rfl rfl rfl rfl rfl rfl rfl (by decide) (s_odds sta hF (d + 1) (lsT D DA (N 0) (va_up (NA 0) k 1) (NA 1) (2 ^ k)) tr true sl lo a b D d1 (by omega)) (fun v w' h hp hk2 hv => ?_)
  obtain ⟨rfl, rfl⟩ := hp
  subst hT
  exact g_lret hv rfl rfl rfl ⟨rfl, va_up NA 0 (va_up (NA 0) k 1), _, hX', rfl⟩
end Join
/-- laws: what is known -/
def shT (D : Nat → Nat) (DA : Nat → Nat → Nat) (lw : Nat) (sn C : Nat → Nat) : Nat := tot D DA lw sn C (fun T _ => if decide (pop T < D 0) then 1 else 0)
def lwk (D : Nat → Nat) (DA : Nat → Nat → Nat) (sn C : Nat → Nat) (kn fi : Nat) (hm : Nat → Int64) : Prop := kn < 65536 ∧ fi < 65536 ∧ ∀ l, l < 16 → (kn.testBit l = true → hm l = lN (lsT D DA l sn C (2 ^ D 1 - 1)) ∧ fi.testBit l = decide (shT D DA l sn C = 0)) ∧ (kn.testBit l = false → fi.testBit l = false)
abbrev wln (tr : Int32) (dr : Bool) (a b : Nat) (sl : Bool) (D : Nat → Nat) (DA : Nat → Nat → Nat) (N : Nat → Nat) (NA : Nat → Nat → Nat) (g : Nat → Option Nat) (X : CX) (kn fi : Nat) (hm : Nat → Int64) : mj_W := [wob tr dr a b sl] ++ dv a D DA ++ nv 19 N NA g ++ cs7 137 X ++ wlw (nI kn) (nI fi) hm
theorem or16 {b k : Nat} (hb : b < 65536) (hk : k < 16) : b ||| 2 ^ k < 65536 := Nat.or_lt_two_pow (n := 16) hb (Nat.pow_lt_pow_right (by decide) hk)
section Learn
variable (sta : mj_S) (d : Nat) (tr : Int32) (sl : Bool) (a b : Nat) (D : Nat → Nat) (DA : Nat → Nat → Nat) (N : Nat → Nat) (NA : Nat → Nat → Nat) (g : Nat → Option Nat) (X : CX) (kn fi : Nat) (hm : Nat → Int64)
theorem s_learn (l : Nat) (hl : l < 16) (hF : stF sta) (hD : okD D DA) (h1 : 1 ≤ D 1) (hN : okN N NA g) (hX : okX X) (hk : lwk D DA (NA 0) (NA 1) kn fi hm) :
    mj_Sx sta (d + 5) 96 [.ref 0, (.int (nI l))] (wln tr true a b sl D DA N NA g X kn fi hm) (fun v w => v = none ∧ ∃ X' kn' fi' hm', okX X' ∧ lwk D DA (NA 0) (NA 1) kn' fi' hm' ∧ kn'.testBit l = true ∧ w = wln tr true a b sl D DA N NA g X' kn' fi' hm') := by
  refine mj_Sx.mk m_X8_learn (by decide) n_X8_learn rfl (fun h0 hv => ?_)
  generalize hT : mj_rx m_X8_learn h0 _ _ = T
  have hD2 := hD
  obtain ⟨d0, d1, d3, d4, d5, d6, d7, d8, d2, a0, a1, a2, a3, a4, a5⟩ := hD2
  have hW : bd 1000 (DA 1) := bd_le a1 (by decide)
  have hA : bd 1000 (DA 3) := bd_le a3 (by decide)
  obtain ⟨n0, n1, n3, b0, b1, b2, gk⟩ := hN
  obtain ⟨k1, k2, k3⟩ := id hk
  have hp6 := p6 d1
  repeat (first | refine g_px rfl rfl rfl ?_ | refine g_get hv 0 rfl rfl rfl rfl ?_ | refine g_get hv 20 rfl rfl rfl rfl ?_)
  refine g_if rfl (fun cq => ?_) (fun cq => ?_)
  · simp (disch := omega) only [mj_cp, k_6, k_7, k_8, k_9, k_10, k_12, k_15, k_16, k_18, k_20, k_24, k_25, k_26, k_27, k_28, k_32, k_36, k_48, k_57, k_59, k_63, k_74, k_75, k_84, k_90, k_97, k_99, k_100, k_122, k_200, k_255, k_420, k_448, k_720, k_800, k_999, k_bit, k_shl, fa_and, nI_add, bl_1, bl_0, bl_n1, bl_n0, bl_i1, nI_lt0, nI_0le, nI_eq0, nI_eqT, nI_leI, nI_ltI, nI_eq, Nat.not_le, Nat.not_lt, Bool.not_eq_true, Bool.not_eq_false, not_true_eq_false, not_false_eq_true, Decidable.not_not] at cq
    subst hT
    exact g_vret hv rfl rfl rfl ⟨rfl, X, kn, fi, hm, hX, hk, cq, rfl⟩
  · simp (disch := omega) only [mj_cp, k_6, k_7, k_8, k_9, k_10, k_12, k_15, k_16, k_18, k_20, k_24, k_25, k_26, k_27, k_28, k_32, k_36, k_48, k_57, k_59, k_63, k_74, k_75, k_84, k_90, k_97, k_99, k_100, k_122, k_200, k_255, k_420, k_448, k_720, k_800, k_999, k_bit, k_shl, fa_and, nI_add, bl_1, bl_0, bl_n1, bl_n0, bl_i1, nI_lt0, nI_0le, nI_eq0, nI_eqT, nI_leI, nI_ltI, nI_eq, Nat.not_le, Nat.not_lt, Bool.not_eq_true, Bool.not_eq_false, not_true_eq_false, not_false_eq_true, Decidable.not_not] at cq
    have hno := cq
    repeat (first | refine g_px rfl rfl rfl ?_ | refine g_get hv 0 rfl rfl rfl rfl ?_)
    refine g_callV hv [13, 14, 15, 16, 17, 18, 19, 1, 2, 3, 4, 5, 6, 7, 8, 9, 10, 11, 12] 13 rfl rfl rfl rfl rfl rfl rfl rfl (by decide) (s_fillX sta d 137 a 19 l D DA N NA g X hF hD h1 b0 b1 hX hl) (fun v w' h hp hk hv => ?_)
    obtain ⟨rfl, ⟨⟨tb, sb, cl, mn⟩, r', g', ct, K, G, E⟩, hX', hc, rfl⟩ := hp
    have hmn : mn = nI (D 1) := hc.1
    subst hmn
    have hX2 := hX'
    obtain ⟨x1, x2, x3, x4, x5⟩ := hX2
    have hv : mj_Vw h0 (wln tr true a b sl D DA N NA g ((tb, sb, cl, nI (D 1)), r', g', ct, K, G, E) kn fi hm) h := hv
    repeat (first | refine g_px rfl rfl rfl ?_ | refine g_get hv 0 rfl rfl rfl rfl ?_)
    refine g_callV hv [0, 1] 0 rfl rfl rfl rfl rfl rfl rfl rfl (by decide) (s_allMen sta (d + 3) tr true sl a b D d1) (fun v w' h hp hk2 hv => ?_)
    obtain ⟨rfl, rfl⟩ := hp
    have hv : mj_Vw h0 (wln tr true a b sl D DA N NA g ((tb, sb, cl, nI (D 1)), r', g', ct, K, G, E) kn fi hm) h := hv
    refine g_callV hv [13, 17, 18, 1, 3, 5, 19] 13 rfl rfl rfl rfl rfl rfl rfl rfl (by decide) (s_lossOf sta (d + 1) 137 a ct (D 1) (2 ^ D 1 - 1) (D 0) (nI (D 2)) (nI (D 3)) (nI (D 4)) (nI (D 5)) (nI (D 6)) (nI (D 7)) (nI (D 8)) K G E (DA 1) (DA 3) x3 x4 x5 x2 d1 hW hA) (fun v w' h hp hk2 hv => ?_)
    obtain ⟨rfl, rfl⟩ := hp
    have e : fb_sm (fun x => E x * fb_sm (lsc (2 ^ D 1 - 1) (K x) (G x) (DA 1) (DA 3)) (D 1)) ct = lsT D DA l (NA 0) (NA 1) (2 ^ D 1 - 1) := csk_sum ⟨h1, d1⟩ hc (fun T g => fb_sm (lsc (2 ^ D 1 - 1) T g (DA 1) (DA 3)) (D 1))
    rw [e]
    have hv : mj_Vw h0 (wln tr true a b sl D DA N NA g ((tb, sb, cl, nI (D 1)), r', g', ct, K, G, E) kn fi hm) h := hv
    repeat (first | refine g_px rfl rfl rfl ?_ | refine g_get hv 0 rfl rfl rfl rfl ?_)
    refine g_callV hv [13, 17, 18, 1, 3, 5, 19] 13 rfl rfl rfl rfl rfl rfl rfl rfl (by decide) (s_wUnfilled sta (d + 2) 137 a ct (D 1) (D 0) (nI (D 2)) (nI (D 3)) (nI (D 4)) (nI (D 5)) (nI (D 6)) (nI (D 7)) (nI (D 8)) K G E (DA 1) (DA 3) (by omega) x3 x5 x2) (fun v w' h hp hk2 hv => ?_)
    obtain ⟨rfl, rfl⟩ := hp
    have e2 : fb_sm (fun x => if decide (pop (K x) < D 0) then E x else 0) ct = shT D DA l (NA 0) (NA 1) := csk_if ⟨h1, d1⟩ hc (fun T _ => decide (pop T < D 0))
    rw [e2]
    have hb : shT D DA l (NA 0) (NA 1) ≤ 720 * 1 := tot_le d1 (fun T g => by split <;> omega)
    have hv : mj_Vw h0 (wln tr true a b sl D DA N NA g ((tb, sb, cl, nI (D 1)), r', g', ct, K, G, E) kn fi hm) h := hv
    have fin : ∀ B : Bool, B = decide (shT D DA l (NA 0) (NA 1) = 0) → mj_go sta (mj_Cl sta (d + 4)) m_X8_learn T 71 [some (.ref 0), some (.int (nI l))] [(.int (bl B)), (.long (lN (lsT D DA l (NA 0) (NA 1) (2 ^ D 1 - 1)))), (.int (nI l)), (.ref 144)] h := by
      intro B hB
      refine g_callV hv [20, 21] 20 rfl rfl rfl rfl rfl rfl rfl rfl (by decide) (s_lput sta (d + 3) l kn fi B hm (lN (lsT D DA l (NA 0) (NA 1) (2 ^ D 1 - 1))) hl) (fun v w' h hp hk2 hv => ?_)
      obtain ⟨rfl, rfl⟩ := hp
      subst hT
      refine g_vret hv rfl rfl rfl ⟨rfl, _, kn ||| 2 ^ l, if B then fi ||| 2 ^ l else fi, vp_updL hm l (lN (lsT D DA l (NA 0) (NA 1) (2 ^ D 1 - 1))), hX', ⟨or16 k1 hl, ?_, fun m hm' => ?_⟩, by rw [fb_bit_set]; simp, rfl⟩
      · split
        · exact or16 k2 hl
        · exact k2
      · have h3 := k3 m hm'
        by_cases em : m = l
        · subst em
          refine ⟨fun _ => ⟨pk_uLs, ?_⟩, fun z => by rw [fb_bit_set] at z; simp at z⟩
          rw [← hB]
          cases B with
          | true =>
            rw [if_pos rfl, fb_bit_set]
            simp
          | false =>
            rw [if_neg (by decide)]
            exact h3.2 hno
        · have e5 : (kn ||| 2 ^ l).testBit m = kn.testBit m := by rw [fb_bit_set]; simp [em]
          have e6 : (if B then fi ||| 2 ^ l else fi).testBit m = fi.testBit m := by
            split
            · rw [fb_bit_set]; simp [em]
            · rfl
          rw [e5, e6, pk_uLn em]
          exact h3
    repeat (first | refine g_px rfl rfl rfl ?_)
    refine g_if rfl (fun cq => ?_) (fun cq => ?_)
    · have cq : ¬ lg_cmp (lN (shT D DA l (NA 0) (NA 1))) (lN 0) = 0 := cq
      rw [lg_cmp_eq, pk_lEQ (by omega) (by decide)] at cq
      refine g_run 1 rfl ?_
      exact fin false (by rw [decide_eq_false cq])
    · have cq : ¬ ¬ lg_cmp (lN (shT D DA l (NA 0) (NA 1))) (lN 0) = 0 := cq
      rw [lg_cmp_eq, pk_lEQ (by omega) (by decide)] at cq
      refine g_run 2 rfl ?_
      exact fin true (by rw [decide_eq_true (Decidable.not_not.mp cq)])
end Learn
