/-! acts -/
abbrev lwh (kn fi : Int32) : Nat × va_E := (144, .inr (3, [.int kn, .int fi, .ref 145]))
abbrev wac (tr : Int32) (dr : Bool) (a b : Nat) (sl : Bool) (D : Nat → Nat) (DA : Nat → Nat → Nat) (kn fi : Int32) (rg pa : Nat → Option Nat) (x ac im : Nat) (R P : Nat → HN) (H : HN) : mj_W := ([wob tr dr a b sl, lwh kn fi] ++ dv a D DA ++ nvH 19 H ++ kh rg pa x ac im) ++ kt R P
section Acts
variable (sta : mj_S) (d : Nat) (tr : Int32) (sl : Bool) (a b : Nat) (D : Nat → Nat) (DA : Nat → Nat → Nat) (kn fi : Int32) (rg pa : Nat → Option Nat) (x ac im : Nat) (R P : Nat → HN) (H : HN)
theorem s_marry (k : Nat) (hk : k < D 1) (hne : ¬ H.2.1 0 k = 1) (hD : okD D DA) (hN : okN H.1 H.2.1 H.2.2) (hx : x < 16) (ha : ac ≤ 16) (hK : okK rg pa) : mj_Sx sta (d + 3) 117 [.ref 0, (.int (nI k))] (wac tr true a b sl D DA kn fi rg pa x ac im R P H) (fun v w => v = some (.int (bl true)) ∧ w = wac 0 true a b true D DA 0 0 rg pa ((x + 1) % 16) (min (ac + 1) 16) im (va_up R x H) P (H.1, va_up H.2.1 0 (va_up (H.2.1 0) k 1), H.2.2)) := by
  refine mj_Sx.mk m_X8_marry (by decide) n_X8_marry rfl (fun h0 hv => ?_)
  generalize hT : mj_rx m_X8_marry h0 _ _ = T
  have d1 := hD.2.1
  have hk6 : k < 6 := by omega
  have hs4 := hN.2.2.2.1 k
  repeat (first | refine g_px rfl rfl rfl ?_)
  refine g_callVt hv [0, 2] 0 rfl rfl rfl rfl rfl rfl rfl rfl (by decide) (s_isMan sta (d + 1) tr true sl a b D (nI k) d1) (fun v w' h hp hk2 hv => ?_)
  obtain ⟨rfl, rfl⟩ := hp
  rw [inR_k hk (by omega)]
  refine g_if rfl (fun cq => ?_) (fun cq => absurd (show ¬ bl true = 0 by decide) cq)
  have hv : mj_Vw h0 (wac tr true a b sl D DA kn fi rg pa x ac im R P H) h := hv
  repeat (first | refine g_px rfl rfl rfl ?_ | refine g_get hv 0 rfl rfl rfl rfl ?_ | refine g_get hv 9 rfl rfl rfl rfl ?_)
  refine g_n6 hv 10 hk6 rfl rfl ?_
  repeat (first | refine g_px rfl rfl rfl ?_)
  refine g_ic rfl (fun cq => ?_) (fun cq => absurd (fun z => hne ((nI_eq (b := 1) (by omega) (by decide)).mp z)) cq)
  repeat (first | refine g_px rfl rfl rfl ?_ | refine g_get hv 0 rfl rfl rfl rfl ?_)
  have hv : mj_Vw h0 (([wob tr true a b sl, lwh kn fi] ++ dv a D DA) ++ kn3 H rg pa x ac im R P) _ := hv
  refine g_callVs hv 14 rfl rfl rfl rfl rfl rfl (s_keepK sta d x ac im rg pa R P H hx ha hK) (fun v w' h hp hk2 hv => ?_)
  obtain ⟨rfl, rfl⟩ := hp
  have hv : mj_Vw h0 (wac tr true a b sl D DA kn fi rg pa ((x + 1) % 16) (min (ac + 1) 16) im (va_up R x H) P H) h := hv
  repeat (first | refine g_px rfl rfl rfl ?_ | refine g_get hv 0 rfl rfl rfl rfl ?_ | refine g_get hv 9 rfl rfl rfl rfl ?_)
  refine g_nst (y := 1) hv 10 hk6 rfl rfl (fun h hv => ?_)
  have hv : mj_Vw h0 (wac tr true a b sl D DA kn fi rg pa ((x + 1) % 16) (min (ac + 1) 16) im (va_up R x H) P (H.1, va_up H.2.1 0 (va_up (H.2.1 0) k 1), H.2.2)) h := hv
  repeat (first | refine g_px rfl rfl rfl ?_)
  refine g_callVt hv [0, 1] 0 rfl rfl rfl rfl rfl rfl rfl rfl (by decide) (s_changed sta d tr true sl a b kn fi) (fun v w' h hp hk2 hv => ?_)
  obtain ⟨rfl, rfl⟩ := hp
  repeat (first | refine g_px rfl rfl rfl ?_)
  refine g_callVt hv [0] 0 rfl rfl rfl rfl rfl rfl rfl rfl (by decide) (s_grant sta (d + 1) tr true true a b) (fun v w' h hp hk2 hv => ?_)
  obtain ⟨rfl, rfl⟩ := hp
  subst hT
  exact g_iret hv rfl rfl rfl rfl ⟨rfl, rfl⟩
theorem s_marry_5 (k : Nat) (hk : k < D 1) (he : H.2.1 0 k = 1) (hn : D 1 ≤ 6) : mj_Sx sta (d + 2) 117 [.ref 0, (.int (nI k))] ([wob tr true a b sl, dhd a D] ++ nvH 19 H) (fun v w => v = some (.int (bl false)) ∧ w = [wob 5 true a b sl, dhd a D] ++ nvH 19 H) := by
  refine mj_Sx.mk m_X8_marry (by decide) n_X8_marry rfl (fun h0 hv => ?_)
  generalize hT : mj_rx m_X8_marry h0 _ _ = T
  have hk6 : k < 6 := by omega
  repeat (first | refine g_px rfl rfl rfl ?_)
  refine g_callV hv [0, 1] 0 rfl rfl rfl rfl rfl rfl rfl rfl (by decide) (s_isMan sta d tr true sl a b D (nI k) hn) (fun v w' h hp hk2 hv => ?_)
  obtain ⟨rfl, rfl⟩ := hp
  rw [inR_k hk (by omega)]
  refine g_if rfl (fun cq => ?_) (fun cq => absurd (show ¬ bl true = 0 by decide) cq)
  have hv : mj_Vw h0 ([wob tr true a b sl, dhd a D] ++ nvH 19 H) h := hv
  repeat (first | refine g_px rfl rfl rfl ?_ | refine g_get hv 0 rfl rfl rfl rfl ?_ | refine g_get hv 2 rfl rfl rfl rfl ?_)
  refine g_n6 hv 3 hk6 rfl rfl ?_
  repeat (first | refine g_px rfl rfl rfl ?_)
  refine g_ic rfl (fun cq => absurd (show nI (H.2.1 0 k) = 1 by rw [he]; rfl) cq) (fun cq => ?_)
  repeat (first | refine g_px rfl rfl rfl ?_)
  refine g_callV hv [0] 0 rfl rfl rfl rfl rfl rfl rfl rfl (by decide) (s_deny sta d tr true sl a b _) (fun v w' h hp hk2 hv => ?_)
  obtain ⟨rfl, rfl⟩ := hp
  subst hT
  exact g_iret hv rfl rfl rfl rfl ⟨rfl, rfl⟩
theorem xor16 {b k : Nat} (hb : b < 16) (hk : k < 4) : b ^^^ 2 ^ k < 16 := by
  have : ∀ b, b < 16 → ∀ k, k < 4 → b ^^^ 2 ^ k < 16 := by decide +kernel
  exact this b hb k hk
theorem s_spare (k : Nat) (is : Bool) (hk : k < 4) (hne : ¬ (H.1 0).testBit k = is) (hN : okN H.1 H.2.1 H.2.2) (hx : x < 16) (ha : ac ≤ 16) (hK : okK rg pa) : mj_Sx sta (d + 3) 118 [.ref 0, (.int (nI k)), .int (bl is)] (wac tr true a b sl D DA kn fi rg pa x ac im R P H) (fun v w => v = some (.int (bl true)) ∧ w = wac 0 true a b true D DA 0 0 rg pa ((x + 1) % 16) (min (ac + 1) 16) im (va_up R x H) P (va_up H.1 0 (H.1 0 ^^^ 2 ^ k), H.2.1, H.2.2)) := by
  refine mj_Sx.mk m_X8_spare (by decide) n_X8_spare rfl (fun h0 hv => ?_)
  generalize hT : mj_rx m_X8_spare h0 _ _ = T
  have h16 := hN.1
  repeat (first | refine g_px rfl rfl rfl ?_ | refine g_get hv 0 rfl rfl rfl rfl ?_)
  refine g_if rfl (fun cq => ?_) (fun cq => absurd (show ¬ bl true = 0 by decide) cq)
  repeat (first | refine g_px rfl rfl rfl ?_)
  refine g_callSt hv [] rfl rfl rfl rfl rfl rfl rfl (by decide) (s_isSort sta (d + 1) (nI k)) (fun v w' h hp hk2 hv => ?_)
  obtain ⟨rfl, rfl⟩ := hp
  rw [inR_k hk (by decide)]
  refine g_if rfl (fun cq => ?_) (fun cq => absurd (show ¬ bl true = 0 by decide) cq)
  have hv : mj_Vw h0 (wac tr true a b sl D DA kn fi rg pa x ac im R P H) h := hv
  repeat (first | refine g_px rfl rfl rfl ?_ | refine g_get hv 0 rfl rfl rfl rfl ?_ | refine g_get hv 9 rfl rfl rfl rfl ?_)
  rw [k_bit (show H.1 0 < 2 ^ 31 by omega) (show k < 32 by omega)]
  have fin : mj_go sta (mj_Cl sta (d + 2)) m_X8_spare T 46 [some (.ref 0), some (.int (nI k)), some (.int (bl is))] [(.int (bl is)), (.int (bl ((H.1 0).testBit k)))] h := by
    refine g_ic rfl (fun cq => ?_) (fun cq => absurd (fun z => hne (by revert z; cases (H.1 0).testBit k <;> cases is <;> decide)) cq)
    repeat (first | refine g_px rfl rfl rfl ?_ | refine g_get hv 0 rfl rfl rfl rfl ?_)
    have hv : mj_Vw h0 (([wob tr true a b sl, lwh kn fi] ++ dv a D DA) ++ kn3 H rg pa x ac im R P) _ := hv
    refine g_callVs hv 14 rfl rfl rfl rfl rfl rfl (s_keepK sta d x ac im rg pa R P H hx ha hK) (fun v w' h hp hk2 hv => ?_)
    obtain ⟨rfl, rfl⟩ := hp
    have hv : mj_Vw h0 (wac tr true a b sl D DA kn fi rg pa ((x + 1) % 16) (min (ac + 1) 16) im (va_up R x H) P H) h := hv
    repeat (first | refine g_px rfl rfl rfl ?_ | refine g_get hv 0 rfl rfl rfl rfl ?_ | refine g_get hv 9 rfl rfl rfl rfl ?_)
    rw [k_shl (show k < 31 by omega), fb_xorI]
    refine g_put hv 9 rfl rfl rfl rfl rfl rfl (fun h hv => ?_)
    have hv : mj_Vw h0 (wac tr true a b sl D DA kn fi rg pa ((x + 1) % 16) (min (ac + 1) 16) im (va_up R x H) P (va_up H.1 0 (H.1 0 ^^^ 2 ^ k), H.2.1, H.2.2)) h := hv
    repeat (first | refine g_px rfl rfl rfl ?_)
    refine g_callVt hv [0, 1] 0 rfl rfl rfl rfl rfl rfl rfl rfl (by decide) (s_changed sta d tr true sl a b kn fi) (fun v w' h hp hk2 hv => ?_)
    obtain ⟨rfl, rfl⟩ := hp
    repeat (first | refine g_px rfl rfl rfl ?_)
    refine g_callVt hv [0] 0 rfl rfl rfl rfl rfl rfl rfl rfl (by decide) (s_grant sta (d + 1) tr true true a b) (fun v w' h hp hk2 hv => ?_)
    obtain ⟨rfl, rfl⟩ := hp
    subst hT
    exact g_iret hv rfl rfl rfl rfl ⟨rfl, rfl⟩
  cases is with
  | true =>
    refine g_if rfl (fun cq => absurd cq (cpF (by decide))) (fun cq => ?_)
    refine g_run 2 rfl ?_
    exact fin
  | false =>
    refine g_if rfl (fun cq => ?_) (fun cq => absurd rfl cq)
    refine g_run 1 rfl ?_
    exact fin
theorem s_spare_5 (k : Nat) (is : Bool) (hk : k < 4) (he : (H.1 0).testBit k = is) (h16 : H.1 0 < 16) : mj_Sx sta (d + 2) 118 [.ref 0, (.int (nI k)), .int (bl is)] ([wob tr true a b sl] ++ nvH 19 H) (fun v w => v = some (.int (bl false)) ∧ w = [wob 5 true a b sl] ++ nvH 19 H) := by
  refine mj_Sx.mk m_X8_spare (by decide) n_X8_spare rfl (fun h0 hv => ?_)
  generalize hT : mj_rx m_X8_spare h0 _ _ = T
  repeat (first | refine g_px rfl rfl rfl ?_ | refine g_get hv 0 rfl rfl rfl rfl ?_)
  refine g_if rfl (fun cq => ?_) (fun cq => absurd (show ¬ bl true = 0 by decide) cq)
  repeat (first | refine g_px rfl rfl rfl ?_)
  refine g_callS hv [] rfl rfl rfl rfl rfl rfl rfl (by decide) (s_isSort sta d (nI k)) (fun v w' h hp hk2 hv => ?_)
  obtain ⟨rfl, rfl⟩ := hp
  rw [inR_k hk (by decide)]
  refine g_if rfl (fun cq => ?_) (fun cq => absurd (show ¬ bl true = 0 by decide) cq)
  have hv : mj_Vw h0 ([wob tr true a b sl] ++ nvH 19 H) h := hv
  repeat (first | refine g_px rfl rfl rfl ?_ | refine g_get hv 0 rfl rfl rfl rfl ?_ | refine g_get hv 1 rfl rfl rfl rfl ?_)
  rw [k_bit (show H.1 0 < 2 ^ 31 by omega) (show k < 32 by omega), he]
  have fin : mj_go sta (mj_Cl sta (d + 1)) m_X8_spare T 46 [some (.ref 0), some (.int (nI k)), some (.int (bl is))] [(.int (bl is)), (.int (bl is))] h := by
    refine g_ic rfl (fun cq => absurd rfl cq) (fun cq => ?_)
    repeat (first | refine g_px rfl rfl rfl ?_)
    refine g_callV hv [0] 0 rfl rfl rfl rfl rfl rfl rfl rfl (by decide) (s_deny sta d tr true sl a b _) (fun v w' h hp hk2 hv => ?_)
    obtain ⟨rfl, rfl⟩ := hp
    subst hT
    exact g_iret hv rfl rfl rfl rfl ⟨rfl, rfl⟩
  cases is with
  | true =>
    refine g_if rfl (fun cq => absurd cq (cpF (by decide))) (fun cq => ?_)
    refine g_run 2 rfl ?_
    exact fin
  | false =>
    refine g_if rfl (fun cq => ?_) (fun cq => absurd rfl cq)
    refine g_run 1 rfl ?_
    exact fin
theorem s_senderOf (m : Nat) (hm : m < 6) (hn : D 1 ≤ 6) (hg : gok H.2.2) : mj_Sx sta (d + 1) 122 [.ref 0, (.int (nI m))] ([wob tr true a b sl, dhd a D] ++ nvH 19 H) (fun v w => v = some (.int (snd (sdr H.2.2 m (D 1) 0))) ∧ w = [wob tr true a b sl, dhd a D] ++ nvH 19 H) := by
  refine mj_Sx.mk m_X8_senderOf (by decide) n_X8_senderOf rfl (fun h0 hv => ?_)
  generalize hT : mj_rx m_X8_senderOf h0 _ _ = T
  have loop : ∀ j y, y + j = D 1 → sdr H.2.2 m (D 1) 0 = sdr H.2.2 m j y → mj_go sta (mj_Cl sta d) m_X8_senderOf T 2 [some (.ref 0), some (.int (nI m)), some (.int (nI y))] [] h0 := by
    intro j
    induction j with
    | zero =>
      intro y hy he
      repeat (first | refine g_px rfl rfl rfl ?_ | refine g_get hv 0 rfl rfl rfl rfl ?_ | refine g_get hv 1 rfl rfl rfl rfl ?_)
      refine g_ic rfl (fun cq => ?_) (fun cq => ?_)
      · repeat (first | refine g_px rfl rfl rfl ?_)
        subst hT
        refine g_iret hv rfl rfl rfl rfl ?_
        exact ⟨by rw [he]; rfl, rfl⟩
      · simp (disch := omega) only [mj_cp, k_6, k_7, k_8, k_9, k_10, k_12, k_15, k_16, k_18, k_20, k_24, k_25, k_26, k_27, k_28, k_32, k_36, k_48, k_57, k_59, k_63, k_74, k_75, k_84, k_90, k_97, k_99, k_100, k_122, k_200, k_255, k_420, k_448, k_720, k_800, k_999, k_bit, k_shl, fa_and, nI_add, bl_1, bl_0, bl_n1, bl_n0, bl_i1, nI_lt0, nI_0le, nI_eq0, nI_eqT, nI_leI, nI_ltI, nI_eq, Nat.not_le, Nat.not_lt, Bool.not_eq_true, Bool.not_eq_false, not_true_eq_false, not_false_eq_true, Decidable.not_not] at cq
        omega
    | succ j ih =>
      intro y hy he
      rw [sdr] at he
      repeat (first | refine g_px rfl rfl rfl ?_ | refine g_get hv 0 rfl rfl rfl rfl ?_ | refine g_get hv 1 rfl rfl rfl rfl ?_)
      refine g_ic rfl (fun cq => ?_) (fun cq => ?_)
      · simp (disch := omega) only [mj_cp, k_6, k_7, k_8, k_9, k_10, k_12, k_15, k_16, k_18, k_20, k_24, k_25, k_26, k_27, k_28, k_32, k_36, k_48, k_57, k_59, k_63, k_74, k_75, k_84, k_90, k_97, k_99, k_100, k_122, k_200, k_255, k_420, k_448, k_720, k_800, k_999, k_bit, k_shl, fa_and, nI_add, bl_1, bl_0, bl_n1, bl_n0, bl_i1, nI_lt0, nI_0le, nI_eq0, nI_eqT, nI_leI, nI_ltI, nI_eq, Nat.not_le, Nat.not_lt, Bool.not_eq_true, Bool.not_eq_false, not_true_eq_false, not_false_eq_true, Decidable.not_not] at cq
        omega
      · repeat (first | refine g_px rfl rfl rfl ?_ | refine g_get hv 0 rfl rfl rfl rfl ?_ | refine g_get hv 2 rfl rfl rfl rfl ?_)
        refine g_s6 hv 6 (k := y) (by omega) rfl rfl ?_
        repeat (first | refine g_px rfl rfl rfl ?_)
        have hse : snd (H.2.2 y) = nI m ↔ H.2.2 y = some m := by
          cases e : H.2.2 y with
          | none =>
            have : ∀ m, m < 6 → ¬ (-2 : Int32) = nI m := by decide +kernel
            exact ⟨fun z => absurd z (this m hm), fun z => by cases z⟩
          | some q => exact ⟨fun z => by rw [(nI_eq (by have := hg y q e; omega) (by omega)).mp z], fun z => by cases z; rfl⟩
        refine g_ic rfl (fun cq => ?_) (fun cq => ?_)
        · have cq : ¬ snd (H.2.2 y) = nI m := cq
          rw [if_neg (fun z => cq (hse.mpr z))] at he
          refine g_run 2 rfl ?_
          have hnx := ih (y + 1) (by omega) he
          rw [nI_succ] at hnx
          exact hnx
        · have cq : ¬ ¬ snd (H.2.2 y) = nI m := cq
          rw [if_pos (hse.mp (Decidable.not_not.mp cq))] at he
          repeat (first | refine g_px rfl rfl rfl ?_)
          subst hT
          refine g_iret hv rfl rfl rfl rfl ?_
          exact ⟨by rw [he]; rfl, rfl⟩
  refine g_run 2 rfl ?_
  exact loop (D 1) 0 (by omega) rfl
theorem sdr_at {g : Nat → Option Nat} {m : Nat} : ∀ {j k q : Nat}, sdr g m j k = some q → k ≤ q ∧ q < k + j ∧ g q = some m
  | 0, k, q, h => by cases h
  | j + 1, k, q, h => by
    rw [sdr] at h
    split at h
    · rename_i e; cases h; exact ⟨by omega, by omega, e⟩
    · have := sdr_at h; exact ⟨by omega, by omega, this.2.2⟩
theorem s_desert (k q : Nat) (hk : k < D 1) (hq : sdr H.2.2 k (D 1) 0 = some q) (hD : okD D DA) (hN : okN H.1 H.2.1 H.2.2) (hx : x < 16) (ha : ac ≤ 16) (hK : okK rg pa) : mj_Sx sta (d + 3) 120 [.ref 0, (.int (nI k))] (wac tr true a b sl D DA kn fi rg pa x ac im R P H) (fun v w => v = some (.int (nI q)) ∧ w = wac 0 true a b sl D DA kn fi rg pa ((x + 1) % 16) (min (ac + 1) 16) im (va_up R x H) P (H.1, H.2.1, va_up H.2.2 q none)) := by
  refine mj_Sx.mk m_X8_desert (by decide) n_X8_desert rfl (fun h0 hv => ?_)
  generalize hT : mj_rx m_X8_desert h0 _ _ = T
  have d1 := hD.2.1
  have hk6 : k < 6 := by omega
  have hq6 : q < 6 := by have := sdr_at hq; omega
  repeat (first | refine g_px rfl rfl rfl ?_)
  refine g_callVt hv [0, 2] 0 rfl rfl rfl rfl rfl rfl rfl rfl (by decide) (s_isMan sta (d + 1) tr true sl a b D (nI k) d1) (fun v w' h hp hk2 hv => ?_)
  obtain ⟨rfl, rfl⟩ := hp
  rw [inR_k hk (by omega)]
  refine g_if rfl (fun cq => ?_) (fun cq => absurd (show ¬ bl true = 0 by decide) cq)
  have hv : mj_Vw h0 (wac tr true a b sl D DA kn fi rg pa x ac im R P H) h := hv
  repeat (first | refine g_px rfl rfl rfl ?_)
  refine g_callVt hv [0, 2, 9, 10, 11, 12, 13] 0 rfl rfl rfl rfl rfl rfl rfl rfl (by decide) (s_senderOf sta (d + 1) tr sl a b D H k hk6 d1 hN.2.2.2.2.2.2) (fun v w' h hp hk2 hv => ?_)
  obtain ⟨rfl, rfl⟩ := hp
  rw [hq]
  have hv : mj_Vw h0 (wac tr true a b sl D DA kn fi rg pa x ac im R P H) h := hv
  repeat (first | refine g_px rfl rfl rfl ?_)
  refine g_if rfl (fun cq => ?_) (fun cq => absurd (nI_pos' (n := q) (by omega)) cq)
  repeat (first | refine g_px rfl rfl rfl ?_ | refine g_get hv 0 rfl rfl rfl rfl ?_)
  have hv : mj_Vw h0 (([wob tr true a b sl, lwh kn fi] ++ dv a D DA) ++ kn3 H rg pa x ac im R P) _ := hv
  refine g_callVs hv 14 rfl rfl rfl rfl rfl rfl (s_keepK sta d x ac im rg pa R P H hx ha hK) (fun v w' h hp hk2 hv => ?_)
  obtain ⟨rfl, rfl⟩ := hp
  have hv : mj_Vw h0 (wac tr true a b sl D DA kn fi rg pa ((x + 1) % 16) (min (ac + 1) 16) im (va_up R x H) P H) h := hv
  repeat (first | refine g_px rfl rfl rfl ?_ | refine g_get hv 0 rfl rfl rfl rfl ?_ | refine g_get hv 9 rfl rfl rfl rfl ?_)
  refine g_sst (o := none) hv 13 hq6 rfl rfl (fun h hv => ?_)
  have hv : mj_Vw h0 (wac tr true a b sl D DA kn fi rg pa ((x + 1) % 16) (min (ac + 1) 16) im (va_up R x H) P (H.1, H.2.1, va_up H.2.2 q none)) h := hv
  repeat (first | refine g_px rfl rfl rfl ?_)
  refine g_callVt hv [0] 0 rfl rfl rfl rfl rfl rfl rfl rfl (by decide) (s_answer' sta (d + 1) tr true sl a b _) (fun v w' h hp hk2 hv => ?_)
  obtain ⟨rfl, rfl⟩ := hp
  subst hT
  exact g_iret hv rfl rfl rfl rfl ⟨rfl, rfl⟩
theorem s_desert_5 (k : Nat) (hk : k < D 1) (hq : sdr H.2.2 k (D 1) 0 = none) (hn : D 1 ≤ 6) (hg : gok H.2.2) : mj_Sx sta (d + 2) 120 [.ref 0, (.int (nI k))] ([wob tr true a b sl, dhd a D] ++ nvH 19 H) (fun v w => v = some (.int (-1)) ∧ w = [wob 5 true a b sl, dhd a D] ++ nvH 19 H) := by
  refine mj_Sx.mk m_X8_desert (by decide) n_X8_desert rfl (fun h0 hv => ?_)
  generalize hT : mj_rx m_X8_desert h0 _ _ = T
  have hk6 : k < 6 := by omega
  repeat (first | refine g_px rfl rfl rfl ?_)
  refine g_callV hv [0, 1] 0 rfl rfl rfl rfl rfl rfl rfl rfl (by decide) (s_isMan sta d tr true sl a b D (nI k) hn) (fun v w' h hp hk2 hv => ?_)
  obtain ⟨rfl, rfl⟩ := hp
  rw [inR_k hk (by omega)]
  refine g_if rfl (fun cq => ?_) (fun cq => absurd (show ¬ bl true = 0 by decide) cq)
  have hv : mj_Vw h0 ([wob tr true a b sl, dhd a D] ++ nvH 19 H) h := hv
  repeat (first | refine g_px rfl rfl rfl ?_)
  refine g_callV hv [0, 1, 2, 3, 4, 5, 6] 0 rfl rfl rfl rfl rfl rfl rfl rfl (by decide) (s_senderOf sta d tr sl a b D H k hk6 hn hg) (fun v w' h hp hk2 hv => ?_)
  obtain ⟨rfl, rfl⟩ := hp
  rw [hq]
  have hv : mj_Vw h0 ([wob tr true a b sl, dhd a D] ++ nvH 19 H) h := hv
  repeat (first | refine g_px rfl rfl rfl ?_)
  refine g_if rfl (fun cq => absurd cq (cpF (by decide))) (fun cq => ?_)
  repeat (first | refine g_px rfl rfl rfl ?_)
  refine g_callV hv [0] 0 rfl rfl rfl rfl rfl rfl rfl rfl (by decide) (s_refuse' sta d tr true sl a b _) (fun v w' h hp hk2 hv => ?_)
  obtain ⟨rfl, rfl⟩ := hp
  subst hT
  exact g_iret hv rfl rfl rfl rfl ⟨rfl, rfl⟩
/-- what becomes of a man -/
def fte (n T : Nat) (g : Nat → Option Nat) (m : Nat) : Nat := if T.testBit m then (if (g m).isNone then 1 else 2) else (if (sdr g m n 0).isNone then 0 else 3)
theorem s_fate (k : Nat) (hk : k < D 1) (hn : D 1 ≤ 6) (hN : okN H.1 H.2.1 H.2.2) : mj_Sx sta (d + 2) 121 [.ref 0, (.int (nI k))] ([wob tr true a b sl, dhd a D] ++ nvH 19 H) (fun v w => v = some (.int (nI (fte (D 1) (H.1 3) H.2.2 k))) ∧ w = [wob 0 true a b sl, dhd a D] ++ nvH 19 H) := by
  refine mj_Sx.mk m_X8_fate (by decide) n_X8_fate rfl (fun h0 hv => ?_)
  generalize hT : mj_rx m_X8_fate h0 _ _ = T
  have hk6 : k < 6 := by omega
  have h3 := hN.2.2.1
  have hg := hN.2.2.2.2.2.2
  repeat (first | refine g_px rfl rfl rfl ?_)
  refine g_callV hv [0, 1] 0 rfl rfl rfl rfl rfl rfl rfl rfl (by decide) (s_isMan sta d tr true sl a b D (nI k) hn) (fun v w' h hp hk2 hv => ?_)
  obtain ⟨rfl, rfl⟩ := hp
  rw [inR_k hk (by omega)]
  refine g_if rfl (fun cq => ?_) (fun cq => absurd (show ¬ bl true = 0 by decide) cq)
  have hv : mj_Vw h0 ([wob tr true a b sl, dhd a D] ++ nvH 19 H) h := hv
  repeat (first | refine g_px rfl rfl rfl ?_ | refine g_get hv 0 rfl rfl rfl rfl ?_ | refine g_get hv 2 rfl rfl rfl rfl ?_)
  rw [k_bit (show H.1 3 < 2 ^ 31 by omega) (show k < 32 by omega)]
  refine g_ic rfl (fun cq => ?_) (fun cq => ?_)
  · simp (disch := omega) only [mj_cp, k_6, k_7, k_8, k_9, k_10, k_12, k_15, k_16, k_18, k_20, k_24, k_25, k_26, k_27, k_28, k_32, k_36, k_48, k_57, k_59, k_63, k_74, k_75, k_84, k_90, k_97, k_99, k_100, k_122, k_200, k_255, k_420, k_448, k_720, k_800, k_999, k_bit, k_shl, fa_and, nI_add, bl_1, bl_0, bl_n1, bl_n0, bl_i1, nI_lt0, nI_0le, nI_eq0, nI_eqT, nI_leI, nI_ltI, nI_eq, Nat.not_le, Nat.not_lt, Bool.not_eq_true, Bool.not_eq_false, not_true_eq_false, not_false_eq_true, Decidable.not_not] at cq
    have hb := cq
    repeat (first | refine g_px rfl rfl rfl ?_)
    refine g_callV hv [0, 1, 2, 3, 4, 5, 6] 0 rfl rfl rfl rfl rfl rfl rfl rfl (by decide) (s_senderOf sta d tr sl a b D H k hk6 hn hg) (fun v w' h hp hk2 hv => ?_)
    obtain ⟨rfl, rfl⟩ := hp
    have hv : mj_Vw h0 ([wob tr true a b sl, dhd a D] ++ nvH 19 H) h := hv
    cases e : sdr H.2.2 k (D 1) 0 with
    | none =>
      refine g_if rfl (fun cq => absurd cq (cpF (by decide))) (fun cq => ?_)
      repeat (first | refine g_px rfl rfl rfl ?_)
      refine g_callV hv [0] 0 rfl rfl rfl rfl rfl rfl rfl rfl (by decide) (s_answer' sta d tr true sl a b _) (fun v w' h hp hk2 hv => ?_)
      obtain ⟨rfl, rfl⟩ := hp
      subst hT
      refine g_iret hv rfl rfl rfl rfl ?_
      exact ⟨by rw [fte, hb, e]; rfl, rfl⟩
    | some q =>
      have hq6 : q < 6 := by have := sdr_at e; omega
      refine g_if rfl (fun cq => ?_) (fun cq => absurd (nI_pos' (n := q) (by omega)) cq)
      repeat (first | refine g_px rfl rfl rfl ?_)
      refine g_callV hv [0] 0 rfl rfl rfl rfl rfl rfl rfl rfl (by decide) (s_answer' sta d tr true sl a b _) (fun v w' h hp hk2 hv => ?_)
      obtain ⟨rfl, rfl⟩ := hp
      subst hT
      refine g_iret hv rfl rfl rfl rfl ?_
      exact ⟨by rw [fte, hb, e]; rfl, rfl⟩
  · simp (disch := omega) only [mj_cp, k_6, k_7, k_8, k_9, k_10, k_12, k_15, k_16, k_18, k_20, k_24, k_25, k_26, k_27, k_28, k_32, k_36, k_48, k_57, k_59, k_63, k_74, k_75, k_84, k_90, k_97, k_99, k_100, k_122, k_200, k_255, k_420, k_448, k_720, k_800, k_999, k_bit, k_shl, fa_and, nI_add, bl_1, bl_0, bl_n1, bl_n0, bl_i1, nI_lt0, nI_0le, nI_eq0, nI_eqT, nI_leI, nI_ltI, nI_eq, Nat.not_le, Nat.not_lt, Bool.not_eq_true, Bool.not_eq_false, not_true_eq_false, not_false_eq_true, Decidable.not_not] at cq
    have hb := cq
    repeat (first | refine g_px rfl rfl rfl ?_ | refine g_get hv 0 rfl rfl rfl rfl ?_ | refine g_get hv 2 rfl rfl rfl rfl ?_)
    refine g_s6 hv 6 hk6 rfl rfl ?_
    cases e : H.2.2 k with
    | none =>
      refine g_if rfl (fun cq => absurd cq (cpF (by decide))) (fun cq => ?_)
      repeat (first | refine g_px rfl rfl rfl ?_)
      refine g_callV hv [0] 0 rfl rfl rfl rfl rfl rfl rfl rfl (by decide) (s_answer' sta d tr true sl a b _) (fun v w' h hp hk2 hv => ?_)
      obtain ⟨rfl, rfl⟩ := hp
      subst hT
      refine g_iret hv rfl rfl rfl rfl ?_
      exact ⟨by rw [fte, hb, e]; rfl, rfl⟩
    | some q =>
      have hq6 : q < 6 := hg k q e
      refine g_if rfl (fun cq => ?_) (fun cq => absurd (nI_pos' (n := q) (by omega)) cq)
      repeat (first | refine g_px rfl rfl rfl ?_)
      refine g_callV hv [0] 0 rfl rfl rfl rfl rfl rfl rfl rfl (by decide) (s_answer' sta d tr true sl a b _) (fun v w' h hp hk2 hv => ?_)
      obtain ⟨rfl, rfl⟩ := hp
      subst hT
      refine g_iret hv rfl rfl rfl rfl ?_
      exact ⟨by rw [fte, hb, e]; rfl, rfl⟩
theorem s_lot_0 (k : Nat) (hk : k < D 1) (h0' : H.1 2 = 0) (hn : D 1 ≤ 6) : mj_Sx sta (d + 2) 123 [.ref 0, (.int (nI k))] ([wob tr true a b sl, dhd a D] ++ nvH 19 H) (fun v w => v = some (.int (-1)) ∧ w = [wob 1 true a b sl, dhd a D] ++ nvH 19 H) := by
  refine mj_Sx.mk m_X8_lot (by decide) n_X8_lot rfl (fun h0 hv => ?_)
  generalize hT : mj_rx m_X8_lot h0 _ _ = T
  repeat (first | refine g_px rfl rfl rfl ?_)
  refine g_callV hv [0, 1] 0 rfl rfl rfl rfl rfl rfl rfl rfl (by decide) (s_isMan sta d tr true sl a b D (nI k) hn) (fun v w' h hp hk2 hv => ?_)
  obtain ⟨rfl, rfl⟩ := hp
  rw [inR_k hk (by omega)]
  refine g_if rfl (fun cq => absurd cq (show ¬ bl true = 0 by decide)) (fun cq => ?_)
  have hv : mj_Vw h0 ([wob tr true a b sl, dhd a D] ++ nvH 19 H) h := hv
  repeat (first | refine g_px rfl rfl rfl ?_ | refine g_get hv 0 rfl rfl rfl rfl ?_ | refine g_get hv 2 rfl rfl rfl rfl ?_)
  rw [h0']
  refine g_if rfl (fun cq => absurd rfl cq) (fun cq => ?_)
  repeat (first | refine g_px rfl rfl rfl ?_)
  refine g_callV hv [0] 0 rfl rfl rfl rfl rfl rfl rfl rfl (by decide) (s_refuse' sta d tr true sl a b _) (fun v w' h hp hk2 hv => ?_)
  obtain ⟨rfl, rfl⟩ := hp
  subst hT
  exact g_iret hv rfl rfl rfl rfl ⟨rfl, rfl⟩
theorem s_lot (k : Nat) (hk : k < D 1) (h0' : 0 < H.1 2) (h2' : H.1 2 < 2 ^ 31) (hn : D 1 ≤ 6) : mj_Sx sta (d + 2) 123 [.ref 0, (.int (nI k))] ([wob tr true a b sl, dhd a D] ++ nvH 19 H) (fun v w => v = some (.int (nI (H.2.1 2 k))) ∧ w = [wob 0 true a b sl, dhd a D] ++ nvH 19 H) := by
  refine mj_Sx.mk m_X8_lot (by decide) n_X8_lot rfl (fun h0 hv => ?_)
  generalize hT : mj_rx m_X8_lot h0 _ _ = T
  repeat (first | refine g_px rfl rfl rfl ?_)
  refine g_callV hv [0, 1] 0 rfl rfl rfl rfl rfl rfl rfl rfl (by decide) (s_isMan sta d tr true sl a b D (nI k) hn) (fun v w' h hp hk2 hv => ?_)
  obtain ⟨rfl, rfl⟩ := hp
  rw [inR_k hk (by omega)]
  refine g_if rfl (fun cq => absurd cq (show ¬ bl true = 0 by decide)) (fun cq => ?_)
  have hv : mj_Vw h0 ([wob tr true a b sl, dhd a D] ++ nvH 19 H) h := hv
  repeat (first | refine g_px rfl rfl rfl ?_ | refine g_get hv 0 rfl rfl rfl rfl ?_ | refine g_get hv 2 rfl rfl rfl rfl ?_)
  refine g_if rfl (fun cq => ?_) (fun cq => absurd (nI_ne0 (n := H.1 2) h0' h2') cq)
  repeat (first | refine g_px rfl rfl rfl ?_ | refine g_get hv 0 rfl rfl rfl rfl ?_ | refine g_get hv 2 rfl rfl rfl rfl ?_)
  refine g_n6 hv 5 (k := k) (by omega) rfl rfl ?_
  refine g_callV hv [0] 0 rfl rfl rfl rfl rfl rfl rfl rfl (by decide) (s_answer' sta d tr true sl a b _) (fun v w' h hp hk2 hv => ?_)
  obtain ⟨rfl, rfl⟩ := hp
  subst hT
  exact g_iret hv rfl rfl rfl rfl ⟨rfl, rfl⟩
theorem s_seed (k : Nat) (hk : k < 65537) : mj_Sx sta (d + 2) 124 [.ref 0, (.int (nI k))] ([wob tr true a b sl] ++ nvH 19 H) (fun v w => v = some (.int (bl true)) ∧ w = [wob 0 true a b sl] ++ nvH 19 (va_up H.1 1 k, H.2.1, H.2.2)) := by
  refine mj_Sx.mk m_X8_seed (by decide) n_X8_seed rfl (fun h0 hv => ?_)
  generalize hT : mj_rx m_X8_seed h0 _ _ = T
  repeat (first | refine g_px rfl rfl rfl ?_ | refine g_get hv 0 rfl rfl rfl rfl ?_)
  refine g_if rfl (fun cq => ?_) (fun cq => absurd (show ¬ bl true = 0 by decide) cq)
  repeat (first | refine g_px rfl rfl rfl ?_)
  refine g_callS hv [] rfl rfl rfl rfl rfl rfl rfl (by decide) (s_isSeed sta d (nI k)) (fun v w' h hp hk2 hv => ?_)
  obtain ⟨rfl, rfl⟩ := hp
  rw [inR_k hk (by decide)]
  refine g_if rfl (fun cq => ?_) (fun cq => absurd (show ¬ bl true = 0 by decide) cq)
  have hv : mj_Vw h0 ([wob tr true a b sl] ++ nvH 19 H) h := hv
  repeat (first | refine g_px rfl rfl rfl ?_ | refine g_get hv 0 rfl rfl rfl rfl ?_)
  refine g_put hv 1 rfl rfl rfl rfl rfl rfl (fun h hv => ?_)
  repeat (first | refine g_px rfl rfl rfl ?_)
  refine g_callV hv [0] 0 rfl rfl rfl rfl rfl rfl rfl rfl (by decide) (s_grant sta d tr true sl a b) (fun v w' h hp hk2 hv => ?_)
  obtain ⟨rfl, rfl⟩ := hp
  subst hT
  exact g_iret hv rfl rfl rfl rfl ⟨rfl, rfl⟩
theorem s_undo (dr : Bool) (hx : x < 16) (ha : ac < 16) (hK : okK rg pa) : mj_Sx sta (d + 3) 125 [.ref 0] (wac tr dr a b sl D DA kn fi rg pa x (ac + 1) im R P H) (fun v w => v = some (.int (bl true)) ∧ w = wac 0 dr a b true D DA 0 0 rg pa ((x + 15) % 16) ac im R P (R ((x + 15) % 16))) := by
  refine mj_Sx.mk m_X8_undo (by decide) n_X8_undo rfl (fun h0 hv => ?_)
  generalize hT : mj_rx m_X8_undo h0 _ _ = T
  repeat (first | refine g_px rfl rfl rfl ?_ | refine g_get hv 0 rfl rfl rfl rfl ?_)
  have hv : mj_Vw h0 (([wob tr dr a b sl, lwh kn fi] ++ dv a D DA) ++ kn3 H rg pa x (ac + 1) im R P) _ := hv
  refine g_callVs hv 14 rfl rfl rfl rfl rfl rfl (s_takeBackK sta d x ac im rg pa R P H hx ha hK) (fun v w' h hp hk2 hv => ?_)
  obtain ⟨rfl, rfl⟩ := hp
  refine g_if rfl (fun cq => ?_) (fun cq => absurd (show ¬ (1 : Int32) = 0 by decide) cq)
  have hv : mj_Vw h0 (wac tr dr a b sl D DA kn fi rg pa ((x + 15) % 16) ac im R P (R ((x + 15) % 16))) h := hv
  repeat (first | refine g_px rfl rfl rfl ?_)
  refine g_callVt hv [0, 1] 0 rfl rfl rfl rfl rfl rfl rfl rfl (by decide) (s_changed sta d tr dr sl a b kn fi) (fun v w' h hp hk2 hv => ?_)
  obtain ⟨rfl, rfl⟩ := hp
  repeat (first | refine g_px rfl rfl rfl ?_)
  refine g_callVt hv [0] 0 rfl rfl rfl rfl rfl rfl rfl rfl (by decide) (s_grant sta (d + 1) tr dr true a b) (fun v w' h hp hk2 hv => ?_)
  obtain ⟨rfl, rfl⟩ := hp
  subst hT
  exact g_iret hv rfl rfl rfl rfl ⟨rfl, rfl⟩
theorem s_undo_6 (dr : Bool) (nx im' : Int32) : mj_Sx sta (d + 2) 125 [.ref 0] [wob tr dr a b sl, (29, .inr (2, kob nx 0 im'))] (fun v w => v = some (.int (bl false)) ∧ w = [wob 6 dr a b sl, (29, .inr (2, kob nx 0 im'))]) := by
  refine mj_Sx.mk m_X8_undo (by decide) n_X8_undo rfl (fun h0 hv => ?_)
  generalize hT : mj_rx m_X8_undo h0 _ _ = T
  repeat (first | refine g_px rfl rfl rfl ?_ | refine g_get hv 0 rfl rfl rfl rfl ?_)
  refine g_callV hv [1] 1 rfl rfl rfl rfl rfl rfl rfl rfl (by decide) (s_takeBack0 sta d nx im' 19) (fun v w' h hp hk2 hv => ?_)
  obtain ⟨rfl, rfl⟩ := hp
  refine g_if rfl (fun cq => absurd rfl cq) (fun cq => ?_)
  repeat (first | refine g_px rfl rfl rfl ?_)
  refine g_callV hv [0] 0 rfl rfl rfl rfl rfl rfl rfl rfl (by decide) (s_deny sta d tr dr sl a b _) (fun v w' h hp hk2 hv => ?_)
  obtain ⟨rfl, rfl⟩ := hp
  subst hT
  exact g_iret hv rfl rfl rfl rfl ⟨rfl, rfl⟩
theorem s_image (hi : im < 3) (hK : okK rg pa) : mj_Sx sta (d + 3) 126 [.ref 0] (wac tr true a b sl D DA kn fi rg pa x ac im R P H) (fun v w => v = some (.int (nI im)) ∧ w = wac 0 true a b sl D DA kn fi rg pa x ac (im + 1) R (va_up P im H) H) := by
  refine mj_Sx.mk m_X8_image (by decide) n_X8_image rfl (fun h0 hv => ?_)
  generalize hT : mj_rx m_X8_image h0 _ _ = T
  repeat (first | refine g_px rfl rfl rfl ?_ | refine g_get hv 0 rfl rfl rfl rfl ?_)
  refine g_if rfl (fun cq => ?_) (fun cq => absurd (show ¬ bl true = 0 by decide) cq)
  repeat (first | refine g_px rfl rfl rfl ?_ | refine g_get hv 0 rfl rfl rfl rfl ?_)
  have hv : mj_Vw h0 (([wob tr true a b sl, lwh kn fi] ++ dv a D DA) ++ kn3 H rg pa x ac im R P) _ := hv
  refine g_callVs hv 14 rfl rfl rfl rfl rfl rfl (s_paintK sta d x ac im rg pa R P H hi hK) (fun v w' h hp hk2 hv => ?_)
  obtain ⟨rfl, rfl⟩ := hp
  have hv : mj_Vw h0 (wac tr true a b sl D DA kn fi rg pa x ac (im + 1) R (va_up P im H) H) h := hv
  repeat (first | refine g_px rfl rfl rfl ?_)
  refine g_if rfl (fun cq => ?_) (fun cq => absurd (nI_pos' (n := im) (by omega)) cq)
  repeat (first | refine g_px rfl rfl rfl ?_)
  refine g_callVt hv [0] 0 rfl rfl rfl rfl rfl rfl rfl rfl (by decide) (s_answer' sta (d + 1) tr true sl a b _) (fun v w' h hp hk2 hv => ?_)
  obtain ⟨rfl, rfl⟩ := hp
  subst hT
  exact g_iret hv rfl rfl rfl rfl ⟨rfl, rfl⟩
theorem s_image_3 (nx ac' : Int32) : mj_Sx sta (d + 2) 126 [.ref 0] [wob tr true a b sl, (29, .inr (2, kob nx ac' 3))] (fun v w => v = some (.int (-1)) ∧ w = [wob 3 true a b sl, (29, .inr (2, kob nx ac' 3))]) := by
  refine mj_Sx.mk m_X8_image (by decide) n_X8_image rfl (fun h0 hv => ?_)
  generalize hT : mj_rx m_X8_image h0 _ _ = T
  repeat (first | refine g_px rfl rfl rfl ?_ | refine g_get hv 0 rfl rfl rfl rfl ?_)
  refine g_if rfl (fun cq => ?_) (fun cq => absurd (show ¬ bl true = 0 by decide) cq)
  repeat (first | refine g_px rfl rfl rfl ?_ | refine g_get hv 0 rfl rfl rfl rfl ?_)
  refine g_callV hv [1] 1 rfl rfl rfl rfl rfl rfl rfl rfl (by decide) (s_paint3 sta d nx ac' 19) (fun v w' h hp hk2 hv => ?_)
  obtain ⟨rfl, rfl⟩ := hp
  repeat (first | refine g_px rfl rfl rfl ?_)
  refine g_if rfl (fun cq => absurd cq (cpF (by decide))) (fun cq => ?_)
  repeat (first | refine g_px rfl rfl rfl ?_)
  refine g_callV hv [0] 0 rfl rfl rfl rfl rfl rfl rfl rfl (by decide) (s_refuse' sta d tr true sl a b _) (fun v w' h hp hk2 hv => ?_)
  obtain ⟨rfl, rfl⟩ := hp
  repeat (first | refine g_px rfl rfl rfl ?_)
  subst hT
  exact g_iret hv rfl rfl rfl rfl ⟨rfl, rfl⟩
theorem s_back (dr : Bool) (i : Nat) (hi : i < im) (him : im ≤ 3) (hK : okK rg pa) : mj_Sx sta (d + 3) 127 [.ref 0, (.int (nI i))] (wac tr dr a b sl D DA kn fi rg pa x ac im R P H) (fun v w => v = some (.int (bl true)) ∧ w = wac 0 dr a b true D DA 0 0 rg pa x 0 im R P (P i)) := by
  refine mj_Sx.mk m_X8_back (by decide) n_X8_back rfl (fun h0 hv => ?_)
  generalize hT : mj_rx m_X8_back h0 _ _ = T
  repeat (first | refine g_px rfl rfl rfl ?_ | refine g_get hv 0 rfl rfl rfl rfl ?_)
  have hv : mj_Vw h0 (([wob tr dr a b sl, lwh kn fi] ++ dv a D DA) ++ kn3 H rg pa x ac im R P) _ := hv
  refine g_callVs hv 14 rfl rfl rfl rfl rfl rfl (s_goBackK sta d x ac im rg pa R P H i hi him hK) (fun v w' h hp hk2 hv => ?_)
  obtain ⟨rfl, rfl⟩ := hp
  refine g_if rfl (fun cq => ?_) (fun cq => absurd (show ¬ (1 : Int32) = 0 by decide) cq)
  have hv : mj_Vw h0 (wac tr dr a b sl D DA kn fi rg pa x 0 im R P (P i)) h := hv
  repeat (first | refine g_px rfl rfl rfl ?_)
  refine g_callVt hv [0, 1] 0 rfl rfl rfl rfl rfl rfl rfl rfl (by decide) (s_changed sta d tr dr sl a b kn fi) (fun v w' h hp hk2 hv => ?_)
  obtain ⟨rfl, rfl⟩ := hp
  repeat (first | refine g_px rfl rfl rfl ?_)
  refine g_callVt hv [0] 0 rfl rfl rfl rfl rfl rfl rfl rfl (by decide) (s_grant sta (d + 1) tr dr true a b) (fun v w' h hp hk2 hv => ?_)
  obtain ⟨rfl, rfl⟩ := hp
  subst hT
  exact g_iret hv rfl rfl rfl rfl ⟨rfl, rfl⟩
theorem s_back_1 (dr : Bool) (nx ac' : Int32) (n : Nat) (y : Int32) (hn : n ≤ 3) (hno : inR n y = false) : mj_Sx sta (d + 2) 127 [.ref 0, .int y] [wob tr dr a b sl, (29, .inr (2, kob nx ac' (nI n)))] (fun v w => v = some (.int (bl false)) ∧ w = [wob 1 dr a b sl, (29, .inr (2, kob nx ac' (nI n)))]) := by
  refine mj_Sx.mk m_X8_back (by decide) n_X8_back rfl (fun h0 hv => ?_)
  generalize hT : mj_rx m_X8_back h0 _ _ = T
  repeat (first | refine g_px rfl rfl rfl ?_ | refine g_get hv 0 rfl rfl rfl rfl ?_)
  have hy : y < 0 ∨ nI n ≤ y := by
    by_cases h1 : y < 0
    · exact Or.inl h1
    · refine Or.inr ?_
      unfold inR at hno
      rw [decide_eq_true (Int32.not_lt.mp h1), Bool.true_and] at hno
      exact Int32.not_lt.mp (of_decide_eq_false hno)
  refine g_callV hv [1] 1 rfl rfl rfl rfl rfl rfl rfl rfl (by decide) (s_goBack0 sta d 19 nx ac' (nI n) y hy) (fun v w' h hp hk2 hv => ?_)
  obtain ⟨rfl, rfl⟩ := hp
  refine g_if rfl (fun cq => absurd rfl cq) (fun cq => ?_)
  repeat (first | refine g_px rfl rfl rfl ?_)
  refine g_callV hv [0] 0 rfl rfl rfl rfl rfl rfl rfl rfl (by decide) (s_deny sta d tr dr sl a b _) (fun v w' h hp hk2 hv => ?_)
  obtain ⟨rfl, rfl⟩ := hp
  subst hT
  exact g_iret hv rfl rfl rfl rfl ⟨rfl, rfl⟩
end Acts
