/-! hold, led, size, what is told -/
theorem rns_pay {n T : Nat} {r sn W A C : Nat → Nat} : ∀ i m q, (rns n T r sn W A C i).2 m = some q → A q ≤ C m ∧ q < n ∧ T.testBit q = false ∧ T.testBit m = true ∧ (rns n T r sn W A C i).1.testBit q = true
  | 0, m, q, h => by cases h
  | i + 1, m, q, h => by
    rw [rns] at h ⊢
    split at h
    · rename_i ht
      rw [if_pos ht]
      dsimp only at h ⊢
      unfold va_up at h
      cases hc : chn (okn (T ||| (rns n T r sn W A C i).1) sn A (C (r i)) (W (r i))) A n with
      | none =>
        rw [hc] at h
        dsimp only
        split at h
        · cases h
        · exact rns_pay i m q h
      | some p =>
        rw [hc] at h
        dsimp only
        split at h
        · rename_i e
          cases h
          subst e
          obtain ⟨c1, c2⟩ := chn_ok hc
          simp only [okn, Bool.and_eq_true, decide_eq_true_eq, Nat.testBit_or, Bool.not_eq_true', Bool.or_eq_false_iff] at c2
          refine ⟨c2.2.2.1, c1, c2.1.1, ht, ?_⟩
          rw [fb_bit_set]
          simp
        · obtain ⟨b1, b2, b3, b4, b5⟩ := rns_pay i m q h
          refine ⟨b1, b2, b3, b4, ?_⟩
          rw [fb_bit_set, b5]
          rfl
    · rename_i ht
      rw [if_neg ht]
      exact rns_pay i m q h
theorem qG_pay {D : Nat → Nat} {DA : Nat → Nat → Nat} {lw : Nat} {sn C r : Nat → Nat} {m q : Nat} (h : qG D DA lw sn C r m = some q) : DA 3 q ≤ C m ∧ q < D 1 ∧ (qT D DA lw sn r).testBit q = false ∧ (qT D DA lw sn r).testBit m = true := by
  have := rns_pay _ m q h
  exact ⟨this.1, this.2.1, this.2.2.1, this.2.2.2.1⟩
def cpy (C A : Nat → Nat) (g : Nat → Option Nat) (m : Nat) : Nat := match g m with
  | none => C m
  | some q => C m - A q
theorem mix_same {α : Type} {k : Nat} {f f' : Nat → α} (h : f' k = f k) : mix (k + 1) f f' = mix k f f' := by
  funext x
  unfold mix
  by_cases h1 : x < k
  · rw [if_pos h1, if_pos (by omega)]
  · by_cases h2 : x = k
    · subst h2; rw [if_pos (by omega), if_neg (by omega), h]
    · rw [if_neg (by omega), if_neg (by omega)]
theorem mix_at {α : Type} {k : Nat} {f f' : Nat → α} : mix k f f' k = f k := if_neg (by omega)
def hld (n T s : Nat) (r C2 : Nat → Nat) (G : Nat → Option Nat) (H : HN) : HN := (va_up (va_up (va_up H.1 1 s) 2 (H.1 2 + 1)) 3 T, va_up (va_up H.2.1 1 (mix n (H.2.1 1) C2)) 2 (mix n (H.2.1 2) r), mix n H.2.2 G)
abbrev wah (tr : Int32) (dr : Bool) (a b : Nat) (sl : Bool) (D : Nat → Nat) (DA : Nat → Nat → Nat) (kn fi tb sb cl : Int32) (g2 : Nat → Option Nat) (r : Nat → Nat) (rg pa : Nat → Option Nat) (x ac im : Nat) (R P : Nat → HN) (H : HN) : mj_W := ([wob tr dr a b sl, lwh kn fi] ++ dv a D DA ++ [(127, .inr (4, lob 127 tb sb cl)), (128, sq g2), (129, an r)] ++ nvH 19 H ++ kh rg pa x ac im) ++ kt R P
section Hold
variable (sta : mj_S) (d : Nat) (tr : Int32) (sl : Bool) (a b : Nat) (D : Nat → Nat) (DA : Nat → Nat → Nat) (kn fi : Int32) (rg pa : Nat → Option Nat) (x ac im : Nat) (R P : Nat → HN) (H : HN)
theorem s_hold (tb sb cl : Int32) (g2 : Nat → Option Nat) (r : Nat → Nat) (hr : bd 6 r) (hD : okD D DA) (hN : okN H.1 H.2.1 H.2.2) (hx : x < 16) (ha : ac ≤ 16) (hK : okK rg pa) :
    mj_Sx sta (d + 5) 119 [.ref 0] (wah tr true a b sl D DA kn fi tb sb cl g2 r rg pa x ac im R P H) (fun v w => ∃ tb sb cl g2 r', bd 6 r' ∧ (∀ i, i < D 1 → r' i = dR (D 1) (H.1 1) i) ∧ v = some (.int (nI (gng (qT D DA (H.1 0) (H.2.1 0) (dR (D 1) (H.1 1))) (mix (D 1) H.2.2 (qG D DA (H.1 0) (H.2.1 0) (H.2.1 1) (dR (D 1) (H.1 1)))) 6))) ∧ w = wah 0 true a b true D DA 0 0 tb sb cl g2 r' rg pa ((x + 1) % 16) (min (ac + 1) 16) im (va_up R x H) P (hld (D 1) (qT D DA (H.1 0) (H.2.1 0) (dR (D 1) (H.1 1))) (dS (D 1) (H.1 1)) r' (cpy (H.2.1 1) (DA 3) (qG D DA (H.1 0) (H.2.1 0) (H.2.1 1) (dR (D 1) (H.1 1)))) (qG D DA (H.1 0) (H.2.1 0) (H.2.1 1) (dR (D 1) (H.1 1))) H)) := by
  refine mj_Sx.mk m_X8_hold (by decide) n_X8_hold rfl (fun h0 hv => ?_)
  generalize hT : mj_rx m_X8_hold h0 _ _ = T
  have hD2 := hD
  obtain ⟨d0, d1, d3, d4, d5, d6, d7, d8, d2, a0, a1, a2, a3, a4, a5⟩ := hD2
  have hN2 := hN
  obtain ⟨n0, n1, n3, b0, b1, b2, gk⟩ := hN2
  repeat (first | refine g_px rfl rfl rfl ?_ | refine g_get hv 0 rfl rfl rfl rfl ?_)
  refine g_if rfl (fun cq => ?_) (fun cq => absurd (show ¬ bl true = 0 by decide) cq)
  repeat (first | refine g_px rfl rfl rfl ?_ | refine g_get hv 0 rfl rfl rfl rfl ?_)
  have hv : mj_Vw h0 (([wob tr true a b sl, lwh kn fi] ++ dv a D DA ++ [(127, .inr (4, lob 127 tb sb cl)), (128, sq g2), (129, an r)]) ++ kn3 H rg pa x ac im R P) _ := hv
  refine g_callVs hv 17 rfl rfl rfl rfl rfl rfl (s_keepK sta (d + 2) x ac im rg pa R P H hx ha hK) (fun v w' h hp hk2 hv => ?_)
  obtain ⟨rfl, rfl⟩ := hp
  have hv : mj_Vw h0 (wah tr true a b sl D DA kn fi tb sb cl g2 r rg pa ((x + 1) % 16) (min (ac + 1) 16) im (va_up R x H) P H) h := hv
  generalize hx' : (x + 1) % 16 = x' at *
  generalize hac : min (ac + 1) 16 = ac' at *
  generalize hR : va_up R x H = R' at *
  repeat (first | refine g_px rfl rfl rfl ?_ | refine g_get hv 0 rfl rfl rfl rfl ?_ | refine g_get hv 12 rfl rfl rfl rfl ?_)
  refine g_callVt hv [0, 2, 3, 4, 5, 6, 7, 8, 12, 13, 14, 15, 16, 9, 10, 11] 0 rfl rfl rfl rfl rfl rfl rfl rfl (by decide) (s_levyByDraws sta d tr sl a b D DA H.1 H.2.1 H.2.2 (H.1 1) (by omega) tb sb cl g2 r hD hN hr) (fun v w' h hp hk2 hv => ?_)
  obtain ⟨rfl, cl', r', hr', hro, hT6, hS6, rfl⟩ := hp
  have hpay := fun m q => qG_pay (D := D) (DA := DA) (lw := H.1 0) (sn := H.2.1 0) (C := H.2.1 1) (r := dR (D 1) (H.1 1)) (m := m) (q := q)
  have hgo := qG_ok (D := D) (DA := DA) (lw := H.1 0) (sn := H.2.1 0) (C := H.2.1 1) (r := dR (D 1) (H.1 1)) d1
  generalize hqT : qT D DA (H.1 0) (H.2.1 0) (dR (D 1) (H.1 1)) = T' at *
  generalize hqS : qS D DA (H.1 0) (H.2.1 0) (H.2.1 1) (dR (D 1) (H.1 1)) = S' at *
  generalize hqG : qG D DA (H.1 0) (H.2.1 0) (H.2.1 1) (dR (D 1) (H.1 1)) = G at *
  generalize hsd : dS (D 1) (H.1 1) = s' at *
  have hv : mj_Vw h0 (wah tr true a b sl D DA kn fi (nI T') (nI S') cl' G r' rg pa x' ac' im R' P H) h := hv
  refine g_put hv 12 rfl rfl rfl rfl rfl rfl (fun h hv => ?_)
  have hv : mj_Vw h0 (wah tr true a b sl D DA kn fi (nI T') (nI S') cl' G r' rg pa x' ac' im R' P (va_up H.1 1 s', H.2.1, H.2.2)) h := hv
  repeat (first | refine g_px rfl rfl rfl ?_ | refine g_get hv 0 rfl rfl rfl rfl ?_ | refine g_get hv 12 rfl rfl rfl rfl ?_)
  rw [show nI ((va_up H.1 1 s', H.2.1, H.2.2).1 2) + Int32.ofInt 1 = nI (H.1 2 + 1) from (nI_succ _).symm]
  refine g_put hv 12 rfl rfl rfl rfl rfl rfl (fun h hv => ?_)
  have hv : mj_Vw h0 (wah tr true a b sl D DA kn fi (nI T') (nI S') cl' G r' rg pa x' ac' im R' P (va_up (va_up H.1 1 s') 2 (H.1 2 + 1), H.2.1, H.2.2)) h := hv
  repeat (first | refine g_px rfl rfl rfl ?_ | refine g_get hv 0 rfl rfl rfl rfl ?_ | refine g_get hv 9 rfl rfl rfl rfl ?_)
  refine g_put hv 12 rfl rfl rfl rfl rfl rfl (fun h hv => ?_)
  have hv : mj_Vw h0 (wah tr true a b sl D DA kn fi (nI T') (nI S') cl' G r' rg pa x' ac' im R' P (hld 0 T' s' r' (cpy (H.2.1 1) (DA 3) G) G H)) h := hv
  have hgm : ∀ m q, T'.testBit m = true → mix (D 1) H.2.2 G m = some q → q < 6 := by
    intro m q _ e
    unfold mix at e
    split at e
    · exact hgo m q e
    · exact gk m q e
  have loop : ∀ j k h, k + j = D 1 → mj_Vw h0 (wah tr true a b sl D DA kn fi (nI T') (nI S') cl' G r' rg pa x' ac' im R' P (hld k T' s' r' (cpy (H.2.1 1) (DA 3) G) G H)) h → mj_go sta (mj_Cl sta (d + 4)) m_X8_hold T 71 [some (.ref 0), some (.int (nI k))] [] h := by
    intro j
    induction j with
    | zero =>
      intro k h hk hv
      have hk : k = D 1 := by omega
      subst hk
      repeat (first | refine g_px rfl rfl rfl ?_ | refine g_get hv 0 rfl rfl rfl rfl ?_ | refine g_get hv 2 rfl rfl rfl rfl ?_)
      refine g_ic rfl (fun cq => ?_) (fun cq => ?_)
      · repeat (first | refine g_px rfl rfl rfl ?_)
        refine g_callVt hv [0, 1] 0 rfl rfl rfl rfl rfl rfl rfl rfl (by decide) (s_changed sta (d + 2) tr true sl a b kn fi) (fun v w' h hp hk2 hv => ?_)
        obtain ⟨rfl, rfl⟩ := hp
        have hv : mj_Vw h0 (wah tr true a b true D DA 0 0 (nI T') (nI S') cl' G r' rg pa x' ac' im R' P (hld (D 1) T' s' r' (cpy (H.2.1 1) (DA 3) G) G H)) h := hv
        repeat (first | refine g_px rfl rfl rfl ?_ | refine g_get hv 0 rfl rfl rfl rfl ?_ | refine g_get hv 12 rfl rfl rfl rfl ?_)
        refine g_callSt hv [16] rfl rfl rfl rfl rfl rfl rfl (by decide) (s_goers sta (d + 3) 23 T' (mix (D 1) H.2.2 G) hT6 hgm) (fun v w' h hp hk2 hv => ?_)
        obtain ⟨rfl, rfl⟩ := hp
        have hv : mj_Vw h0 (wah tr true a b true D DA 0 0 (nI T') (nI S') cl' G r' rg pa x' ac' im R' P (hld (D 1) T' s' r' (cpy (H.2.1 1) (DA 3) G) G H)) h := hv
        refine g_callVt hv [0] 0 rfl rfl rfl rfl rfl rfl rfl rfl (by decide) (s_answer' sta (d + 3) tr true true a b _) (fun v w' h hp hk2 hv => ?_)
        obtain ⟨rfl, rfl⟩ := hp
        subst hT
        exact g_iret hv rfl rfl rfl rfl ⟨_, _, _, _, r', hr', hro, rfl, rfl⟩
      · simp (disch := omega) only [mj_cp, k_6, k_7, k_8, k_9, k_10, k_12, k_15, k_16, k_18, k_20, k_24, k_25, k_26, k_27, k_28, k_32, k_36, k_48, k_57, k_59, k_63, k_74, k_75, k_84, k_90, k_97, k_99, k_100, k_122, k_200, k_255, k_420, k_448, k_720, k_800, k_999, k_bit, k_shl, fa_and, nI_add, bl_1, bl_0, bl_n1, bl_n0, bl_i1, nI_lt0, nI_0le, nI_eq0, nI_eqT, nI_leI, nI_ltI, nI_eq, Nat.not_le, Nat.not_lt, Bool.not_eq_true, Bool.not_eq_false, not_true_eq_false, not_false_eq_true, Decidable.not_not] at cq
        omega
    | succ j ih =>
      intro k h hk hv
      have hk6 : k < 6 := by omega
      have hCk := b1 k
      repeat (first | refine g_px rfl rfl rfl ?_ | refine g_get hv 0 rfl rfl rfl rfl ?_ | refine g_get hv 2 rfl rfl rfl rfl ?_)
      refine g_ic rfl (fun cq => ?_) (fun cq => ?_)
      · simp (disch := omega) only [mj_cp, k_6, k_7, k_8, k_9, k_10, k_12, k_15, k_16, k_18, k_20, k_24, k_25, k_26, k_27, k_28, k_32, k_36, k_48, k_57, k_59, k_63, k_74, k_75, k_84, k_90, k_97, k_99, k_100, k_122, k_200, k_255, k_420, k_448, k_720, k_800, k_999, k_bit, k_shl, fa_and, nI_add, bl_1, bl_0, bl_n1, bl_n0, bl_i1, nI_lt0, nI_0le, nI_eq0, nI_eqT, nI_leI, nI_ltI, nI_eq, Nat.not_le, Nat.not_lt, Bool.not_eq_true, Bool.not_eq_false, not_true_eq_false, not_false_eq_true, Decidable.not_not] at cq
        omega
      · repeat (first | refine g_px rfl rfl rfl ?_ | refine g_get hv 0 rfl rfl rfl rfl ?_ | refine g_get hv 12 rfl rfl rfl rfl ?_)
        refine g_n6 hv 11 hk6 rfl rfl ?_
        refine g_nst hv 15 hk6 rfl rfl (fun h hv => ?_)
        repeat (first | refine g_px rfl rfl rfl ?_ | refine g_get hv 0 rfl rfl rfl rfl ?_ | refine g_get hv 12 rfl rfl rfl rfl ?_ | refine g_get hv 9 rfl rfl rfl rfl ?_)
        refine g_s6 hv 10 hk6 rfl rfl ?_
        refine g_sst hv 16 hk6 rfl rfl (fun h hv => ?_)
        have hv : mj_Vw h0 (wah tr true a b sl D DA kn fi (nI T') (nI S') cl' G r' rg pa x' ac' im R' P (va_up (va_up (va_up H.1 1 s') 2 (H.1 2 + 1)) 3 T', va_up (va_up H.2.1 1 (mix k (H.2.1 1) (cpy (H.2.1 1) (DA 3) G))) 2 (va_up (mix k (H.2.1 2) r') k (r' k)), va_up (mix k H.2.2 G) k (G k))) h := hv
        rw [mix_up, mix_up] at hv
        repeat (first | refine g_px rfl rfl rfl ?_ | refine g_get hv 0 rfl rfl rfl rfl ?_ | refine g_get hv 9 rfl rfl rfl rfl ?_)
        refine g_s6 hv 10 hk6 rfl rfl ?_
        have next : ∀ h, mj_Vw h0 (wah tr true a b sl D DA kn fi (nI T') (nI S') cl' G r' rg pa x' ac' im R' P (hld (k + 1) T' s' r' (cpy (H.2.1 1) (DA 3) G) G H)) h → mj_go sta (mj_Cl sta (d + 4)) m_X8_hold T 156 [some (.ref 0), some (.int (nI k))] [] h := by
          intro h hv
          refine g_run 2 rfl ?_
          have hnx := ih (k + 1) h (by omega) hv
          rw [nI_succ] at hnx
          exact hnx
        cases e : G k with
        | none =>
          refine g_if rfl (fun cq => ?_) (fun cq => absurd (cpT (by decide)) cq)
          refine next h ?_
          unfold hld
          rw [mix_same (f := H.2.1 1) (f' := cpy (H.2.1 1) (DA 3) G) (show cpy (H.2.1 1) (DA 3) G k = H.2.1 1 k by rw [cpy, e])]
          exact hv
        | some q =>
          have hq := hgo k q e
          have hle := hpay k q e
          refine g_if rfl (fun cq => absurd cq (nI_pos (by omega))) (fun cq => ?_)
          repeat (first | refine g_px rfl rfl rfl ?_ | refine g_get hv 0 rfl rfl rfl rfl ?_ | refine g_get hv 12 rfl rfl rfl rfl ?_)
          refine g_n6 hv 14 hk6 rfl rfl ?_
          repeat (first | refine g_px rfl rfl rfl ?_ | refine g_get hv 0 rfl rfl rfl rfl ?_ | refine g_get hv 2 rfl rfl rfl rfl ?_ | refine g_get hv 9 rfl rfl rfl rfl ?_)
          refine g_s6 hv 10 hk6 rfl rfl ?_
          rw [e]
          refine g_n6 hv 6 hq rfl rfl ?_
          refine g_run 1 rfl ?_
          dsimp only
          rw [show va_up (va_up H.2.1 1 (mix k (H.2.1 1) (cpy (H.2.1 1) (DA 3) G))) 2 (mix (k + 1) (H.2.1 2) r') 1 k = H.2.1 1 k from mix_at, show nI (H.2.1 1 k) - nI (DA 3 q) = nI (H.2.1 1 k - DA 3 q) from pk_sub hle.1]
          refine g_nst hv 14 hk6 rfl rfl (fun h hv => ?_)
          refine next h ?_
          have hv : mj_Vw h0 (wah tr true a b sl D DA kn fi (nI T') (nI S') cl' G r' rg pa x' ac' im R' P (va_up (va_up (va_up H.1 1 s') 2 (H.1 2 + 1)) 3 T', va_up (va_up H.2.1 1 (va_up (mix k (H.2.1 1) (cpy (H.2.1 1) (DA 3) G)) k (H.2.1 1 k - DA 3 q))) 2 (mix (k + 1) (H.2.1 2) r'), mix (k + 1) H.2.2 G)) h := hv
          rw [show H.2.1 1 k - DA 3 q = cpy (H.2.1 1) (DA 3) G k by rw [cpy, e], mix_up] at hv
          exact hv
  refine g_run 2 rfl ?_
  refine loop (D 1) 0 h (by omega) hv
end Hold
/-- the i-th who goes -/
def ldr (Z : Nat) (i : Int32) : Nat → Nat → Nat → Option Nat
  | 0, _, _ => none
  | j + 1, m, c => if Z.testBit m then (if nI c = i then some m else ldr Z i j (m + 1) (c + 1)) else ldr Z i j (m + 1) c
section Led
variable (sta : mj_S) (d : Nat) (tr : Int32) (dr sl : Bool) (a b : Nat) (H : HN)
def gnZ (dr : Bool) (H : HN) : Nat := if dr then gng (H.1 3) H.2.2 6 else 0
theorem gnZ_lt (hN : okN H.1 H.2.1 H.2.2) : gnZ dr H < 64 := by
  unfold gnZ
  split
  · exact gng_lt (fun m q _ e => hN.2.2.2.2.2.2 m q e) 6 (by decide)
  · decide
theorem l_led {h0 : mj_H} {T : Nat → mj_L → List Value → mj_H → Prop} (i : Int32) (hN : okN H.1 H.2.1 H.2.2) (hv : mj_Vw h0 ([wob tr dr a b sl] ++ nvH 19 H) h0)
    (k1 : ∀ m h lv, mj_Vw h0 ([wob tr dr a b sl] ++ nvH 19 H) h → ldr (gnZ dr H) i 6 0 0 = some m → mj_go sta (mj_Cl sta (d + 1)) m_X8_led T 58 lv [(.int (nI m))] h)
    (k2 : ∀ h lv, mj_Vw h0 ([wob tr dr a b sl] ++ nvH 19 H) h → ldr (gnZ dr H) i 6 0 0 = none → mj_go sta (mj_Cl sta (d + 1)) m_X8_led T 68 lv [] h) :
    mj_go sta (mj_Cl sta (d + 1)) m_X8_led T 0 [some (.ref 0), some (.int i), none, none, none] [] h0 := by
  have hZ := gnZ_lt dr H hN
  generalize hL : ldr (gnZ dr H) i 6 0 0 = L at k1 k2
  have loop : ∀ j m c h, m + j = 6 → c ≤ m → L = ldr (gnZ dr H) i j m c → mj_Vw h0 ([wob tr dr a b sl] ++ nvH 19 H) h → mj_go sta (mj_Cl sta (d + 1)) m_X8_led T 34 [some (.ref 0), some (.int i), some (.int (nI (gnZ dr H))), some (.int (nI c)), some (.int (nI m))] [] h := by
    intro j
    induction j with
    | zero =>
      intro m c h hm hc he hv
      repeat (first | refine g_px rfl rfl rfl ?_)
      refine g_ic rfl (fun cq => ?_) (fun cq => ?_)
      · exact k2 h _ hv he
      · simp (disch := omega) only [mj_cp, k_6, k_7, k_8, k_9, k_10, k_12, k_15, k_16, k_18, k_20, k_24, k_25, k_26, k_27, k_28, k_32, k_36, k_48, k_57, k_59, k_63, k_74, k_75, k_84, k_90, k_97, k_99, k_100, k_122, k_200, k_255, k_420, k_448, k_720, k_800, k_999, k_bit, k_shl, fa_and, nI_add, bl_1, bl_0, bl_n1, bl_n0, bl_i1, nI_lt0, nI_0le, nI_eq0, nI_eqT, nI_leI, nI_ltI, nI_eq, Nat.not_le, Nat.not_lt, Bool.not_eq_true, Bool.not_eq_false, not_true_eq_false, not_false_eq_true, Decidable.not_not] at cq
        omega
    | succ j ih =>
      intro m c h hm hc he hv
      rw [ldr] at he
      repeat (first | refine g_px rfl rfl rfl ?_)
      refine g_ic rfl (fun cq => ?_) (fun cq => ?_)
      · simp (disch := omega) only [mj_cp, k_6, k_7, k_8, k_9, k_10, k_12, k_15, k_16, k_18, k_20, k_24, k_25, k_26, k_27, k_28, k_32, k_36, k_48, k_57, k_59, k_63, k_74, k_75, k_84, k_90, k_97, k_99, k_100, k_122, k_200, k_255, k_420, k_448, k_720, k_800, k_999, k_bit, k_shl, fa_and, nI_add, bl_1, bl_0, bl_n1, bl_n0, bl_i1, nI_lt0, nI_0le, nI_eq0, nI_eqT, nI_leI, nI_ltI, nI_eq, Nat.not_le, Nat.not_lt, Bool.not_eq_true, Bool.not_eq_false, not_true_eq_false, not_false_eq_true, Decidable.not_not] at cq
        omega
      · repeat (first | refine g_px rfl rfl rfl ?_)
        rw [k_bit (show gnZ dr H < 2 ^ 31 by omega) (show m < 32 by omega)]
        refine g_ic rfl (fun cq => ?_) (fun cq => ?_)
        · simp (disch := omega) only [mj_cp, k_6, k_7, k_8, k_9, k_10, k_12, k_15, k_16, k_18, k_20, k_24, k_25, k_26, k_27, k_28, k_32, k_36, k_48, k_57, k_59, k_63, k_74, k_75, k_84, k_90, k_97, k_99, k_100, k_122, k_200, k_255, k_420, k_448, k_720, k_800, k_999, k_bit, k_shl, fa_and, nI_add, bl_1, bl_0, bl_n1, bl_n0, bl_i1, nI_lt0, nI_0le, nI_eq0, nI_eqT, nI_leI, nI_ltI, nI_eq, Nat.not_le, Nat.not_lt, Bool.not_eq_true, Bool.not_eq_false, not_true_eq_false, not_false_eq_true, Decidable.not_not] at cq
          rw [cq] at he
          refine g_run 2 rfl ?_
          have hnx := ih (m + 1) c h (by omega) (by omega) he hv
          rw [nI_succ] at hnx
          exact hnx
        · simp (disch := omega) only [mj_cp, k_6, k_7, k_8, k_9, k_10, k_12, k_15, k_16, k_18, k_20, k_24, k_25, k_26, k_27, k_28, k_32, k_36, k_48, k_57, k_59, k_63, k_74, k_75, k_84, k_90, k_97, k_99, k_100, k_122, k_200, k_255, k_420, k_448, k_720, k_800, k_999, k_bit, k_shl, fa_and, nI_add, bl_1, bl_0, bl_n1, bl_n0, bl_i1, nI_lt0, nI_0le, nI_eq0, nI_eqT, nI_leI, nI_ltI, nI_eq, Nat.not_le, Nat.not_lt, Bool.not_eq_true, Bool.not_eq_false, not_true_eq_false, not_false_eq_true, Decidable.not_not] at cq
          rw [if_pos cq] at he
          repeat (first | refine g_px rfl rfl rfl ?_)
          refine g_ic rfl (fun cq => ?_) (fun cq => ?_)
          · have cq : ¬ nI c = i := cq
            rw [if_neg cq] at he
            refine g_run 3 rfl ?_
            have hnx := ih (m + 1) (c + 1) h (by omega) (by omega) he hv
            rw [nI_succ, nI_succ] at hnx
            exact hnx
          · have cq : ¬ ¬ nI c = i := cq
            rw [if_pos (Decidable.not_not.mp cq)] at he
            refine g_run 1 rfl ?_
            exact k1 m h _ hv he
  repeat (first | refine g_px rfl rfl rfl ?_ | refine g_get hv 0 rfl rfl rfl rfl ?_)
  cases dr with
  | false =>
    refine g_if rfl (fun cq => ?_) (fun cq => absurd rfl cq)
    refine g_run 6 rfl ?_
    exact loop 6 0 0 h0 (by omega) (by omega) hL.symm hv
  | true =>
    refine g_if rfl (fun cq => absurd cq (cpF (by decide))) (fun cq => ?_)
    repeat (first | refine g_px rfl rfl rfl ?_ | refine g_get hv 0 rfl rfl rfl rfl ?_ | refine g_get hv 1 rfl rfl rfl rfl ?_)
    refine g_callS hv [5] rfl rfl rfl rfl rfl rfl rfl (by decide) (s_goers sta d 23 (H.1 3) H.2.2 hN.2.2.1 (fun m q _ e => hN.2.2.2.2.2.2 m q e)) (fun v w' h hp hk2 hv => ?_)
    obtain ⟨rfl, rfl⟩ := hp
    have hv : mj_Vw h0 ([wob tr true a b sl] ++ nvH 19 H) h := hv
    refine g_run 6 rfl ?_
    exact loop 6 0 0 h (by omega) (by omega) hL.symm hv
theorem s_led (i : Int32) (m : Nat) (hN : okN H.1 H.2.1 H.2.2) (hm : ldr (gnZ dr H) i 6 0 0 = some m) : mj_Sx sta (d + 2) 128 [.ref 0, .int i] ([wob tr dr a b sl] ++ nvH 19 H) (fun v w => v = some (.int (nI m)) ∧ w = [wob tr dr a b sl] ++ nvH 19 H) := by
  refine mj_Sx.mk m_X8_led (by decide) n_X8_led rfl (fun h0 hv => ?_)
  generalize hT : mj_rx m_X8_led h0 _ _ = T
  refine l_led sta d tr dr sl a b H i hN hv (fun m' h lv hv e => ?_) (fun h lv hv e => ?_)
  · rw [hm] at e
    cases e
    subst hT
    exact g_iret hv rfl rfl rfl rfl ⟨rfl, rfl⟩
  · rw [hm] at e
    cases e
end Led
abbrev tob (Tp : Nat → Int32) : List Value := [.ref 2, .int (Tp 1), .int (Tp 2), .int (Tp 3), .int (Tp 4), .int (Tp 5), .int (Tp 6), .int (Tp 7), .int (Tp 8), .int (Tp 9), .ref 3, .ref 4]
abbrev thd (Tp : Nat → Int32) : Nat × va_E := (1, .inr (6, tob Tp))
section Told
variable (sta : mj_S) (d : Nat) (tr : Int32) (dr sl : Bool) (a b : Nat) (Tp : Nat → Int32)
theorem s_trouble : mj_Sx sta (d + 1) 131 [.ref 0] [wob tr dr a b sl] (fun v w => v = some (.int tr) ∧ w = [wob tr dr a b sl]) := by
  refine mj_Sx.mk m_X8_trouble (by decide) n_X8_trouble rfl (fun h0 hv => ?_)
  generalize hT : mj_rx m_X8_trouble h0 _ _ = T
  repeat (first | refine g_px rfl rfl rfl ?_ | refine g_get hv 0 rfl rfl rfl rfl ?_)
  subst hT
  exact g_iret hv rfl rfl rfl rfl ⟨rfl, rfl⟩
theorem s_fault : mj_Sx sta (d + 1) 70 [.ref 0] [wob tr dr a b sl, thd Tp] (fun v w => v = some (.int (Tp 2)) ∧ w = [wob tr dr a b sl, thd Tp]) := by
  refine mj_Sx.mk m_X8_fault (by decide) n_X8_fault rfl (fun h0 hv => ?_)
  generalize hT : mj_rx m_X8_fault h0 _ _ = T
  repeat (first | refine g_px rfl rfl rfl ?_ | refine g_get hv 0 rfl rfl rfl rfl ?_ | refine g_get hv 1 rfl rfl rfl rfl ?_)
  subst hT
  exact g_iret hv rfl rfl rfl rfl ⟨rfl, rfl⟩
theorem s_where : mj_Sx sta (d + 1) 71 [.ref 0] [wob tr dr a b sl, thd Tp] (fun v w => v = some (.int (if tr = 4 then Tp 3 else -1)) ∧ w = [wob tr dr a b sl, thd Tp]) := by
  refine mj_Sx.mk m_X8_where (by decide) n_X8_where rfl (fun h0 hv => ?_)
  generalize hT : mj_rx m_X8_where h0 _ _ = T
  repeat (first | refine g_px rfl rfl rfl ?_ | refine g_get hv 0 rfl rfl rfl rfl ?_ | refine g_get hv 1 rfl rfl rfl rfl ?_)
  refine g_ic rfl (fun cq => ?_) (fun cq => ?_)
  · have cq : ¬ tr = 4 := cq
    repeat (first | refine g_px rfl rfl rfl ?_)
    subst hT
    refine g_iret hv rfl rfl rfl rfl ?_
    exact ⟨by rw [if_neg cq]; rfl, rfl⟩
  · have cq : ¬ ¬ tr = 4 := cq
    repeat (first | refine g_px rfl rfl rfl ?_ | refine g_get hv 0 rfl rfl rfl rfl ?_ | refine g_get hv 1 rfl rfl rfl rfl ?_)
    subst hT
    refine g_iret hv rfl rfl rfl rfl ?_
    exact ⟨by rw [if_pos (Decidable.not_not.mp cq)], rfl⟩
theorem s_size9 : mj_Sx sta (d + 1) 129 [.ref 0, .int 9] [wob tr dr a b sl, thd Tp] (fun v w => v = some (.int (Tp 1)) ∧ w = [wob tr dr a b sl, thd Tp]) := by
  refine mj_Sx.mk m_X8_size (by decide) n_X8_size rfl (fun h0 hv => ?_)
  generalize hT : mj_rx m_X8_size h0 _ _ = T
  repeat (first | refine g_px rfl rfl rfl ?_)
  refine g_ic rfl (fun cq => absurd rfl cq) (fun cq => ?_)
  repeat (first | refine g_px rfl rfl rfl ?_ | refine g_get hv 0 rfl rfl rfl rfl ?_ | refine g_get hv 1 rfl rfl rfl rfl ?_)
  subst hT
  exact g_iret hv rfl rfl rfl rfl ⟨rfl, rfl⟩
theorem s_size_no (y : Int32) (h9 : ¬ y = 9) (hno : inR 9 y = false) : mj_Sx sta (d + 1) 129 [.ref 0, .int y] [] (fun v w => v = some (.int (-1)) ∧ w = []) := by
  refine mj_Sx.mk m_X8_size (by decide) n_X8_size rfl (fun h0 hv => ?_)
  generalize hT : mj_rx m_X8_size h0 _ _ = T
  repeat (first | refine g_px rfl rfl rfl ?_)
  refine g_ic rfl (fun cq => ?_) (fun cq => absurd h9 cq)
  repeat (first | refine g_px rfl rfl rfl ?_)
  refine g_if rfl (fun cq => ?_) (fun cq => ?_)
  · repeat (first | refine g_px rfl rfl rfl ?_)
    subst hT
    exact g_iret hv rfl rfl rfl rfl ⟨rfl, rfl⟩
  · have cq : ¬ y < 0 := cq
    repeat (first | refine g_px rfl rfl rfl ?_)
    refine g_ic rfl (fun cq2 => ?_) (fun cq2 => ?_)
    · have cq2 : y ≤ 9 := cq2
      unfold inR at hno
      rw [decide_eq_true (Int32.not_lt.mp cq), Bool.true_and] at hno
      have h3 : y < 9 := fa_le_ne cq2 h9
      exact absurd h3 (of_decide_eq_false hno)
    · repeat (first | refine g_px rfl rfl rfl ?_)
      subst hT
      exact g_iret hv rfl rfl rfl rfl ⟨rfl, rfl⟩
theorem s_size_u (y : Nat) (hy : y < 9) : mj_Sx sta (d + 1) 129 [.ref 0, (.int (nI y))] [wob tr false a b sl] (fun v w => v = some (.int 0) ∧ w = [wob tr false a b sl]) := by
  refine mj_Sx.mk m_X8_size (by decide) n_X8_size rfl (fun h0 hv => ?_)
  generalize hT : mj_rx m_X8_size h0 _ _ = T
  repeat (first | refine g_px rfl rfl rfl ?_)
  refine g_ic rfl (fun cq => ?_) (fun cq => absurd (fun z => by have := (nI_eq (a := y) (b := 9) (by omega) (by decide)).mp z; omega) cq)
  repeat (first | refine g_px rfl rfl rfl ?_)
  refine g_if rfl (fun cq => absurd cq (nI_pos (by omega))) (fun cq => ?_)
  repeat (first | refine g_px rfl rfl rfl ?_)
  refine g_ic rfl (fun cq => ?_) (fun cq => absurd (nI_le (a := y) (b := 9) (by omega) (by decide)) cq)
  repeat (first | refine g_px rfl rfl rfl ?_ | refine g_get hv 0 rfl rfl rfl rfl ?_)
  refine g_if rfl (fun cq => ?_) (fun cq => absurd rfl cq)
  repeat (first | refine g_px rfl rfl rfl ?_)
  subst hT
  exact g_iret hv rfl rfl rfl rfl ⟨rfl, rfl⟩
def sizA (D N : Nat → Nat) (ac im : Nat) : Nat → Nat
  | 0 => D 0
  | 1 => D 1
  | 2 => D 2
  | 3 => D 4
  | 4 => D 8
  | 5 => N 2
  | 6 => N 1
  | 7 => ac
  | _ => im
theorem s_sizeOf (y : Nat) (hy : y < 9) (D N : Nat → Nat) (nx : Int32) (ac im : Nat) (h4 : D 4 ≤ 1) : mj_Sx sta (d + 1) 130 [.ref 0, (.int (nI y))] [wob tr dr a b sl, dhd a D, nhd 19 N, (29, .inr (2, kob nx (nI ac) (nI im)))] (fun v w => v = some (.int (nI (sizA D N ac im y))) ∧ w = [wob tr dr a b sl, dhd a D, nhd 19 N, (29, .inr (2, kob nx (nI ac) (nI im)))]) := by
  refine mj_Sx.mk m_X8_sizeOfDraft (by decide) n_X8_sizeOfDraft rfl (fun h0 hv => ?_)
  generalize hT : mj_rx m_X8_sizeOfDraft h0 _ _ = T
  refine g_run 1 rfl ?_
  have hy9 : y = 0 ∨ y = 1 ∨ y = 2 ∨ y = 3 ∨ y = 4 ∨ y = 5 ∨ y = 6 ∨ y = 7 ∨ y = 8 := by omega
  rcases hy9 with rfl | rfl | rfl | rfl | rfl | rfl | rfl | rfl | rfl
  · refine g_swk (off := 47) rfl (by decide) (by decide) ?_
    repeat (first | refine g_px rfl rfl rfl ?_ | refine g_get hv 0 rfl rfl rfl rfl ?_ | refine g_get hv 1 rfl rfl rfl rfl ?_)
    subst hT
    exact g_iret hv rfl rfl rfl rfl ⟨rfl, rfl⟩
  · refine g_swk (off := 55) rfl (by decide) (by decide) ?_
    repeat (first | refine g_px rfl rfl rfl ?_ | refine g_get hv 0 rfl rfl rfl rfl ?_ | refine g_get hv 1 rfl rfl rfl rfl ?_)
    subst hT
    exact g_iret hv rfl rfl rfl rfl ⟨rfl, rfl⟩
  · refine g_swk (off := 63) rfl (by decide) (by decide) ?_
    repeat (first | refine g_px rfl rfl rfl ?_ | refine g_get hv 0 rfl rfl rfl rfl ?_ | refine g_get hv 1 rfl rfl rfl rfl ?_)
    subst hT
    exact g_iret hv rfl rfl rfl rfl ⟨rfl, rfl⟩
  · refine g_swk (off := 71) rfl (by decide) (by decide) ?_
    repeat (first | refine g_px rfl rfl rfl ?_ | refine g_get hv 0 rfl rfl rfl rfl ?_ | refine g_get hv 1 rfl rfl rfl rfl ?_)
    refine g_if rfl (fun cq => ?_) (fun cq => ?_)
    · have cq : nI (D 4) = 0 := cq
      rw [nI_eq0 (by omega)] at cq
      repeat (first | refine g_px rfl rfl rfl ?_)
      subst hT
      refine g_iret hv rfl rfl rfl rfl ?_
      exact ⟨by rw [sizA, cq]; rfl, rfl⟩
    · have cq : ¬ nI (D 4) = 0 := cq
      rw [nI_eq0 (by omega)] at cq
      repeat (first | refine g_px rfl rfl rfl ?_)
      subst hT
      refine g_iret hv rfl rfl rfl rfl ?_
      exact ⟨by rw [sizA, show D 4 = 1 by omega]; rfl, rfl⟩
  · refine g_swk (off := 87) rfl (by decide) (by decide) ?_
    repeat (first | refine g_px rfl rfl rfl ?_ | refine g_get hv 0 rfl rfl rfl rfl ?_ | refine g_get hv 1 rfl rfl rfl rfl ?_)
    subst hT
    exact g_iret hv rfl rfl rfl rfl ⟨rfl, rfl⟩
  · refine g_swk (off := 95) rfl (by decide) (by decide) ?_
    repeat (first | refine g_px rfl rfl rfl ?_ | refine g_get hv 0 rfl rfl rfl rfl ?_ | refine g_get hv 2 rfl rfl rfl rfl ?_)
    subst hT
    exact g_iret hv rfl rfl rfl rfl ⟨rfl, rfl⟩
  · refine g_swk (off := 103) rfl (by decide) (by decide) ?_
    repeat (first | refine g_px rfl rfl rfl ?_ | refine g_get hv 0 rfl rfl rfl rfl ?_ | refine g_get hv 2 rfl rfl rfl rfl ?_)
    subst hT
    exact g_iret hv rfl rfl rfl rfl ⟨rfl, rfl⟩
  · refine g_swk (off := 111) rfl (by decide) (by decide) ?_
    repeat (first | refine g_px rfl rfl rfl ?_ | refine g_get hv 0 rfl rfl rfl rfl ?_ | refine g_get hv 3 rfl rfl rfl rfl ?_)
    subst hT
    exact g_iret hv rfl rfl rfl rfl ⟨rfl, rfl⟩
  · refine g_swd rfl (by decide) ?_
    repeat (first | refine g_px rfl rfl rfl ?_ | refine g_get hv 0 rfl rfl rfl rfl ?_ | refine g_get hv 3 rfl rfl rfl rfl ?_)
    subst hT
    exact g_iret hv rfl rfl rfl rfl ⟨rfl, rfl⟩
theorem s_size (y : Nat) (hy : y < 9) (D N : Nat → Nat) (nx : Int32) (ac im : Nat) (h4 : D 4 ≤ 1) : mj_Sx sta (d + 2) 129 [.ref 0, (.int (nI y))] [wob tr true a b sl, dhd a D, nhd 19 N, (29, .inr (2, kob nx (nI ac) (nI im)))] (fun v w => v = some (.int (nI (sizA D N ac im y))) ∧ w = [wob tr true a b sl, dhd a D, nhd 19 N, (29, .inr (2, kob nx (nI ac) (nI im)))]) := by
  refine mj_Sx.mk m_X8_size (by decide) n_X8_size rfl (fun h0 hv => ?_)
  generalize hT : mj_rx m_X8_size h0 _ _ = T
  repeat (first | refine g_px rfl rfl rfl ?_)
  refine g_ic rfl (fun cq => ?_) (fun cq => absurd (fun z => by have := (nI_eq (a := y) (b := 9) (by omega) (by decide)).mp z; omega) cq)
  repeat (first | refine g_px rfl rfl rfl ?_)
  refine g_if rfl (fun cq => absurd cq (nI_pos (by omega))) (fun cq => ?_)
  repeat (first | refine g_px rfl rfl rfl ?_)
  refine g_ic rfl (fun cq => ?_) (fun cq => absurd (nI_le (a := y) (b := 9) (by omega) (by decide)) cq)
  repeat (first | refine g_px rfl rfl rfl ?_ | refine g_get hv 0 rfl rfl rfl rfl ?_)
  refine g_if rfl (fun cq => absurd cq (cpF (by decide))) (fun cq => ?_)
  repeat (first | refine g_px rfl rfl rfl ?_)
  refine g_callV hv [0, 1, 2, 3] 0 rfl rfl rfl rfl rfl rfl rfl rfl (by simp) (s_sizeOf sta d tr true sl a b y hy D N nx ac im h4) (fun v w' h hp hk2 hv => ?_)
  obtain ⟨rfl, rfl⟩ := hp
  repeat (first | refine g_px rfl rfl rfl ?_)
  subst hT
  exact g_iret hv rfl rfl rfl rfl ⟨rfl, rfl⟩
end Told
