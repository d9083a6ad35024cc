/-! LowNumber: man, spared, many, wouldGo; rows -/
section SW
variable {sta : mj_S} {Cl : mj_R} {M : mj_M} {T : Nat → mj_L → List Value → mj_H → Prop} {pc q len wp : Nat} {lv : mj_L} {r : List Value} {h : mj_H} {raw : Instr} {dflt lo hi off : Int} {offs : Array Int} {x : Int32}
theorem g_swd (he : mj_ent (mj_cd M) pc = some (q, .tableswitch dflt lo hi offs, len, raw, wp)) (hx : x.toInt < lo ∨ hi < x.toInt) (k : mj_go sta Cl M T (mj_tg q dflt) lv r h) : mj_go sta Cl M T pc lv (.int x :: r) h := by
  refine g_nx he ?_ k
  simp only [mj_nx]
  rw [if_pos hx]
theorem g_swk (he : mj_ent (mj_cd M) pc = some (q, .tableswitch dflt lo hi offs, len, raw, wp)) (hx : ¬ (x.toInt < lo ∨ hi < x.toInt)) (ho : offs[(x.toInt - lo).toNat]? = some off) (k : mj_go sta Cl M T (mj_tg q off) lv r h) : mj_go sta Cl M T pc lv (.int x :: r) h := by
  refine g_nx he ?_ k
  simp only [mj_nx]
  rw [if_neg hx, ho]
end SW
theorem inR_out {n : Nat} {m : Int32} (hn : n < 2 ^ 31) (h : inR n m = false) : m.toInt < 0 ∨ (n : Int) - 1 < m.toInt := by
  by_cases h0 : m < 0
  · left
    rw [Int32.lt_iff_toInt_lt] at h0
    simpa using h0
  · obtain ⟨k, hk, rfl⟩ := nI_of h0
    right
    rw [inR_nI hk hn, decide_eq_false_iff_not] at h
    rw [nI_toInt hk]
    omega
abbrev wmn (tr : Int32) (dr : Bool) (a b : Nat) (sl : Bool) (D : Nat → Nat) (DA : Nat → Nat → Nat) (N : Nat → Nat) (NA : Nat → Nat → Nat) (g : Nat → Option Nat) : mj_W := [wob tr dr a b sl] ++ dv a D DA ++ nv 19 N NA g
def manA (DA : Nat → Nat → Nat) (N : Nat → Nat) (NA : Nat → Nat → Nat) (k : Nat) : Nat → Int32
  | 0 => nI (NA 0 k)
  | 1 => nI (DA 1 k)
  | 2 => nI (NA 1 k)
  | 3 => nI (DA 3 k)
  | 4 => nI (DA 4 k)
  | _ => bl ((N 0).testBit (NA 0 k))
section Man
variable (sta : mj_S) (d : Nat) (tr : Int32) (sl : Bool) (a b : Nat) (D : Nat → Nat) (DA : Nat → Nat → Nat) (N : Nat → Nat) (NA : Nat → Nat → Nat) (g : Nat → Option Nat)
theorem s_man (k y : Nat) (hk : k < D 1) (hy : y < 6) (hD : okD D DA) (hN : okN N NA g) : mj_Sx sta (d + 2) 72 [.ref 0, (.int (nI k)), (.int (nI y))] (wmn tr true a b sl D DA N NA g) (fun v w => v = some (.int (manA DA N NA k y)) ∧ w = wmn 0 true a b sl D DA N NA g) := by
  refine mj_Sx.mk m_X8_man (by decide) n_X8_man rfl (fun h0 hv => ?_)
  generalize hT : mj_rx m_X8_man h0 _ _ = T
  have hD2 := hD
  obtain ⟨d0, d1, d3, d4, d5, d6, d7, d8, d2, a0, a1, a2, a3, a4, a5⟩ := hD2
  obtain ⟨n0, n1, n3, b0, b1, b2, gk⟩ := hN
  have hk6 : k < 6 := by omega
  repeat (first | refine g_px rfl rfl rfl ?_)
  refine g_callV hv [0, 1] 0 rfl rfl rfl rfl rfl rfl rfl rfl (by decide) (s_isMan sta d tr true sl a b D (nI k) d1) (fun v w' h hp hk2 hv => ?_)
  obtain ⟨rfl, rfl⟩ := hp
  rw [inR_k hk (by omega)]
  refine g_if rfl (fun cq => ?_) (fun cq => absurd (show ¬ bl true = 0 by decide) cq)
  have hv : mj_Vw h0 (wmn tr true a b sl D DA N NA g) h := hv
  refine g_run 1 rfl ?_
  have hy6 : y = 0 ∨ y = 1 ∨ y = 2 ∨ y = 3 ∨ y = 4 ∨ y = 5 := by omega
  rcases hy6 with rfl | rfl | rfl | rfl | rfl | rfl
  · refine g_swk (off := 37) rfl (by decide) (by decide) ?_
    repeat (first | refine g_px rfl rfl rfl ?_ | refine g_get hv 0 rfl rfl rfl rfl ?_ | refine g_get hv 8 rfl rfl rfl rfl ?_)
    refine g_n6 hv 9 hk6 rfl rfl ?_
    refine g_callV hv [0] 0 rfl rfl rfl rfl rfl rfl rfl rfl (by decide) (s_answer' sta d tr true sl a b _) (fun v w' h hp hk2 hv => ?_)
    obtain ⟨rfl, rfl⟩ := hp
    subst hT
    exact g_iret hv rfl rfl rfl rfl ⟨rfl, rfl⟩
  · refine g_swk (off := 51) rfl (by decide) (by decide) ?_
    repeat (first | refine g_px rfl rfl rfl ?_ | refine g_get hv 0 rfl rfl rfl rfl ?_ | refine g_get hv 1 rfl rfl rfl rfl ?_)
    refine g_n6 hv 3 hk6 rfl rfl ?_
    refine g_callV hv [0] 0 rfl rfl rfl rfl rfl rfl rfl rfl (by decide) (s_answer' sta d tr true sl a b _) (fun v w' h hp hk2 hv => ?_)
    obtain ⟨rfl, rfl⟩ := hp
    subst hT
    exact g_iret hv rfl rfl rfl rfl ⟨rfl, rfl⟩
  · refine g_swk (off := 65) rfl (by decide) (by decide) ?_
    repeat (first | refine g_px rfl rfl rfl ?_ | refine g_get hv 0 rfl rfl rfl rfl ?_ | refine g_get hv 8 rfl rfl rfl rfl ?_)
    refine g_n6 hv 10 hk6 rfl rfl ?_
    refine g_callV hv [0] 0 rfl rfl rfl rfl rfl rfl rfl rfl (by decide) (s_answer' sta d tr true sl a b _) (fun v w' h hp hk2 hv => ?_)
    obtain ⟨rfl, rfl⟩ := hp
    subst hT
    exact g_iret hv rfl rfl rfl rfl ⟨rfl, rfl⟩
  · refine g_swk (off := 79) rfl (by decide) (by decide) ?_
    repeat (first | refine g_px rfl rfl rfl ?_ | refine g_get hv 0 rfl rfl rfl rfl ?_ | refine g_get hv 1 rfl rfl rfl rfl ?_)
    refine g_n6 hv 5 hk6 rfl rfl ?_
    refine g_callV hv [0] 0 rfl rfl rfl rfl rfl rfl rfl rfl (by decide) (s_answer' sta d tr true sl a b _) (fun v w' h hp hk2 hv => ?_)
    obtain ⟨rfl, rfl⟩ := hp
    subst hT
    exact g_iret hv rfl rfl rfl rfl ⟨rfl, rfl⟩
  · refine g_swk (off := 93) rfl (by decide) (by decide) ?_
    repeat (first | refine g_px rfl rfl rfl ?_ | refine g_get hv 0 rfl rfl rfl rfl ?_ | refine g_get hv 1 rfl rfl rfl rfl ?_)
    refine g_n6 hv 6 hk6 rfl rfl ?_
    refine g_callV hv [0] 0 rfl rfl rfl rfl rfl rfl rfl rfl (by decide) (s_answer' sta d tr true sl a b _) (fun v w' h hp hk2 hv => ?_)
    obtain ⟨rfl, rfl⟩ := hp
    subst hT
    exact g_iret hv rfl rfl rfl rfl ⟨rfl, rfl⟩
  · refine g_swk (off := 107) rfl (by decide) (by decide) ?_
    repeat (first | refine g_px rfl rfl rfl ?_ | refine g_get hv 0 rfl rfl rfl rfl ?_ | refine g_get hv 8 rfl rfl rfl rfl ?_)
    refine g_n6 hv 9 hk6 rfl rfl ?_
    have hsk := b0 k
    refine g_run 3 rfl ?_
    rw [k_bit (by omega) (by omega)]
    refine g_callV hv [0] 0 rfl rfl rfl rfl rfl rfl rfl rfl (by decide) (s_answer' sta d tr true sl a b _) (fun v w' h hp hk2 hv => ?_)
    obtain ⟨rfl, rfl⟩ := hp
    subst hT
    exact g_iret hv rfl rfl rfl rfl ⟨rfl, rfl⟩
theorem s_man_y (k : Nat) (y : Int32) (hk : k < D 1) (hy : inR 6 y = false) (hn : D 1 ≤ 6) : mj_Sx sta (d + 2) 72 [.ref 0, (.int (nI k)), .int y] [wob tr true a b sl, dhd a D] (fun v w => v = some (.int (-1)) ∧ w = [wob 1 true a b sl, dhd a D]) := by
  refine mj_Sx.mk m_X8_man (by decide) n_X8_man rfl (fun h0 hv => ?_)
  generalize hT : mj_rx m_X8_man h0 _ _ = T
  repeat (first | refine g_px rfl rfl rfl ?_)
  refine g_callV hv [0, 1] 0 rfl rfl rfl rfl rfl rfl rfl rfl (by simp) (s_isMan sta d tr true sl a b D (nI k) hn) (fun v w' h hp hk2 hv => ?_)
  obtain ⟨rfl, rfl⟩ := hp
  rw [inR_k hk (by omega)]
  refine g_if rfl (fun cq => ?_) (fun cq => absurd (show ¬ bl true = 0 by decide) cq)
  refine g_run 1 rfl ?_
  refine g_swd rfl (inR_out (by decide) hy) ?_
  repeat (first | refine g_px rfl rfl rfl ?_)
  refine g_callV hv [0] 0 rfl rfl rfl rfl rfl rfl rfl rfl (by simp) (s_refuse' sta d tr true sl a b _) (fun v w' h hp hk2 hv => ?_)
  obtain ⟨rfl, rfl⟩ := hp
  subst hT
  exact g_iret hv rfl rfl rfl rfl ⟨rfl, rfl⟩
theorem s_spared : mj_Sx sta (d + 2) 73 [.ref 0] (wmn tr true a b sl D DA N NA g) (fun v w => v = some (.int (nI (N 0))) ∧ w = wmn 0 true a b sl D DA N NA g) := by
  refine mj_Sx.mk m_X8_spared (by decide) n_X8_spared rfl (fun h0 hv => ?_)
  generalize hT : mj_rx m_X8_spared h0 _ _ = T
  repeat (first | refine g_px rfl rfl rfl ?_ | refine g_get hv 0 rfl rfl rfl rfl ?_)
  refine g_if rfl (fun cq => absurd cq (show ¬ bl true = 0 by decide)) (fun cq => ?_)
  repeat (first | refine g_px rfl rfl rfl ?_ | refine g_get hv 0 rfl rfl rfl rfl ?_ | refine g_get hv 8 rfl rfl rfl rfl ?_)
  refine g_callV hv [0] 0 rfl rfl rfl rfl rfl rfl rfl rfl (by decide) (s_answer' sta d tr true sl a b _) (fun v w' h hp hk2 hv => ?_)
  obtain ⟨rfl, rfl⟩ := hp
  repeat (first | refine g_px rfl rfl rfl ?_)
  subst hT
  exact g_iret hv rfl rfl rfl rfl ⟨rfl, rfl⟩
theorem s_many (y : Nat) (hy : y < 4) (hD : okD D DA) (hN : okN N NA g) : mj_Sx sta (d + 2) 74 [.ref 0, (.int (nI y))] (wmn tr true a b sl D DA N NA g) (fun v w => v = some (.int (nI (fb_ct (fun m => decide (NA 0 m = y)) (D 1)))) ∧ w = wmn 0 true a b sl D DA N NA g) := by
  refine mj_Sx.mk m_X8_many (by decide) n_X8_many rfl (fun h0 hv => ?_)
  generalize hT : mj_rx m_X8_many h0 _ _ = T
  have d1 := hD.2.1
  have b0 := hN.2.2.2.1
  have loop : ∀ j m h, m + j = D 1 → mj_Vw h0 (wmn tr true a b sl D DA N NA g) h → mj_go sta (mj_Cl sta (d + 1)) m_X8_many T 30 [some (.ref 0), some (.int (nI y)), some (.int (nI (fb_ct (fun m => decide (NA 0 m = y)) m))), some (.int (nI m))] [] h := by
    intro j
    induction j with
    | zero =>
      intro m h hm hv
      repeat (first | refine g_px rfl rfl rfl ?_ | refine g_get hv 0 rfl rfl rfl rfl ?_ | refine g_get hv 1 rfl rfl rfl rfl ?_)
      refine g_ic rfl (fun cq => ?_) (fun cq => ?_)
      · have hm : m = D 1 := by omega
        subst hm
        repeat (first | refine g_px rfl rfl rfl ?_)
        refine g_callV hv [0] 0 rfl rfl rfl rfl rfl rfl rfl rfl (by decide) (s_answer' sta d tr true sl a b _) (fun v w' h hp hk2 hv => ?_)
        obtain ⟨rfl, rfl⟩ := hp
        subst hT
        exact g_iret hv rfl rfl rfl rfl ⟨rfl, rfl⟩
      · simp (disch := omega) only [mj_cp, k_6, k_7, k_8, k_9, k_10, k_12, k_15, k_16, k_18, k_20, k_24, k_25, k_26, k_27, k_28, k_32, k_36, k_48, k_57, k_59, k_63, k_74, k_75, k_84, k_90, k_97, k_99, k_100, k_122, k_200, k_255, k_420, k_448, k_720, k_800, k_999, k_bit, k_shl, fa_and, nI_add, bl_1, bl_0, bl_n1, bl_n0, bl_i1, nI_lt0, nI_0le, nI_eq0, nI_eqT, nI_leI, nI_ltI, nI_eq, Nat.not_le, Nat.not_lt, Bool.not_eq_true, Bool.not_eq_false, not_true_eq_false, not_false_eq_true, Decidable.not_not] at cq
        omega
    | succ j ih =>
      intro m h hm hv
      have hb := b0 m
      have hnx := ih (m + 1) h (by omega) hv
      rw [nI_succ, fb_ct_succ] at hnx
      repeat (first | refine g_px rfl rfl rfl ?_ | refine g_get hv 0 rfl rfl rfl rfl ?_ | refine g_get hv 1 rfl rfl rfl rfl ?_)
      refine g_ic rfl (fun cq => ?_) (fun cq => ?_)
      · simp (disch := omega) only [mj_cp, k_6, k_7, k_8, k_9, k_10, k_12, k_15, k_16, k_18, k_20, k_24, k_25, k_26, k_27, k_28, k_32, k_36, k_48, k_57, k_59, k_63, k_74, k_75, k_84, k_90, k_97, k_99, k_100, k_122, k_200, k_255, k_420, k_448, k_720, k_800, k_999, k_bit, k_shl, fa_and, nI_add, bl_1, bl_0, bl_n1, bl_n0, bl_i1, nI_lt0, nI_0le, nI_eq0, nI_eqT, nI_leI, nI_ltI, nI_eq, Nat.not_le, Nat.not_lt, Bool.not_eq_true, Bool.not_eq_false, not_true_eq_false, not_false_eq_true, Decidable.not_not] at cq
        omega
      · repeat (first | refine g_px rfl rfl rfl ?_ | refine g_get hv 0 rfl rfl rfl rfl ?_ | refine g_get hv 8 rfl rfl rfl rfl ?_)
        refine g_n6 hv 9 (by omega) rfl rfl ?_
        refine g_run 1 rfl ?_
        refine g_ic rfl (fun cq => ?_) (fun cq => ?_)
        · simp (disch := omega) only [mj_cp, k_6, k_7, k_8, k_9, k_10, k_12, k_15, k_16, k_18, k_20, k_24, k_25, k_26, k_27, k_28, k_32, k_36, k_48, k_57, k_59, k_63, k_74, k_75, k_84, k_90, k_97, k_99, k_100, k_122, k_200, k_255, k_420, k_448, k_720, k_800, k_999, k_bit, k_shl, fa_and, nI_add, bl_1, bl_0, bl_n1, bl_n0, bl_i1, nI_lt0, nI_0le, nI_eq0, nI_eqT, nI_leI, nI_ltI, nI_eq, Nat.not_le, Nat.not_lt, Bool.not_eq_true, Bool.not_eq_false, not_true_eq_false, not_false_eq_true, Decidable.not_not] at cq
          rw [decide_eq_false cq, if_neg (by decide), Nat.add_zero] at hnx
          refine g_run 2 rfl ?_
          exact hnx
        · simp (disch := omega) only [mj_cp, k_6, k_7, k_8, k_9, k_10, k_12, k_15, k_16, k_18, k_20, k_24, k_25, k_26, k_27, k_28, k_32, k_36, k_48, k_57, k_59, k_63, k_74, k_75, k_84, k_90, k_97, k_99, k_100, k_122, k_200, k_255, k_420, k_448, k_720, k_800, k_999, k_bit, k_shl, fa_and, nI_add, bl_1, bl_0, bl_n1, bl_n0, bl_i1, nI_lt0, nI_0le, nI_eq0, nI_eqT, nI_leI, nI_ltI, nI_eq, Nat.not_le, Nat.not_lt, Bool.not_eq_true, Bool.not_eq_false, not_true_eq_false, not_false_eq_true, Decidable.not_not] at cq
          rw [decide_eq_true cq, if_pos rfl, nI_succ] at hnx
          refine g_run 3 rfl ?_
          exact hnx
  repeat (first | refine g_px rfl rfl rfl ?_ | refine g_get hv 0 rfl rfl rfl rfl ?_)
  refine g_if rfl (fun cq => ?_) (fun cq => absurd (show ¬ bl true = 0 by decide) cq)
  repeat (first | refine g_px rfl rfl rfl ?_)
  refine g_callS hv [] rfl rfl rfl rfl rfl rfl rfl (by simp) (s_isSort sta d (nI y)) (fun v w' h hp hk2 hv => ?_)
  obtain ⟨rfl, rfl⟩ := hp
  rw [inR_k hy (by decide)]
  refine g_if rfl (fun cq => ?_) (fun cq => absurd (show ¬ bl true = 0 by decide) cq)
  refine g_run 4 rfl ?_
  exact loop (D 1) 0 h (by omega) hv
theorem s_wouldGo (k : Nat) (tb sb cl : Int32) (hk : k < D 1) (hD : okD D DA) (hN : okN N NA g) : mj_Sx sta (d + 3) 75 [.ref 0, (.int (nI k))] (wmn tr true a b sl D DA N NA g ++ [(127, .inr (4, lob 127 tb sb cl))]) (fun v w => v = some (.int (snd (chn (okn (2 ^ k) (NA 0) (DA 3) (NA 1 k) (DA 1 k)) (DA 3) (D 1)))) ∧ w = wmn 0 true a b sl D DA N NA g ++ [(127, .inr (4, lob 127 tb sb cl))]) := by
  refine mj_Sx.mk m_X8_wouldGo (by decide) n_X8_wouldGo rfl (fun h0 hv => ?_)
  generalize hT : mj_rx m_X8_wouldGo h0 _ _ = T
  have hD2 := hD
  obtain ⟨d0, d1, d3, d4, d5, d6, d7, d8, d2, a0, a1, a2, a3, a4, a5⟩ := hD2
  obtain ⟨n0, n1, n3, b0, b1, b2, gk⟩ := hN
  have hk6 : k < 6 := by omega
  repeat (first | refine g_px rfl rfl rfl ?_)
  refine g_callV hv [0, 1] 0 rfl rfl rfl rfl rfl rfl rfl rfl (by decide) (s_isMan sta (d + 1) tr true sl a b D (nI k) d1) (fun v w' h hp hk2 hv => ?_)
  obtain ⟨rfl, rfl⟩ := hp
  rw [inR_k hk (by omega)]
  refine g_if rfl (fun cq => ?_) (fun cq => absurd (show ¬ bl true = 0 by decide) cq)
  have hv : mj_Vw h0 (wmn tr true a b sl D DA N NA g ++ [(127, .inr (4, lob 127 tb sb cl))]) h := hv
  repeat (first | refine g_px rfl rfl rfl ?_ | refine g_get hv 0 rfl rfl rfl rfl ?_)
  rw [k_shl (show k < 31 by omega)]
  refine g_callV hv [1, 8, 3, 5, 9, 10] 13 rfl rfl rfl rfl rfl rfl rfl rfl (by decide) (s_cheapest sta d 127 a 19 (D 1) k (2 ^ k) (nI (D 0)) (nI (D 2)) (nI (D 3)) (nI (D 4)) (nI (D 5)) (nI (D 6)) (nI (D 7)) (nI (D 8)) (nI (N 0)) (nI (N 1)) (nI (N 2)) (nI (N 3)) (DA 1) (DA 3) (NA 0) (NA 1) d1 hk6 (Nat.pow_lt_pow_right (by decide) hk6) (bd_le a1 (by decide)) (bd_le a3 (by decide)) b0 (bd_le b1 (by decide))) (fun v w' h hp hk2 hv => ?_)
  obtain ⟨rfl, rfl⟩ := hp
  have hv : mj_Vw h0 (wmn tr true a b sl D DA N NA g ++ [(127, .inr (4, lob 127 tb sb cl))]) h := hv
  refine g_callV hv [0] 0 rfl rfl rfl rfl rfl rfl rfl rfl (by decide) (s_answer' sta (d + 1) tr true sl a b _) (fun v w' h hp hk2 hv => ?_)
  obtain ⟨rfl, rfl⟩ := hp
  subst hT
  exact g_iret hv rfl rfl rfl rfl ⟨rfl, rfl⟩
end Man
