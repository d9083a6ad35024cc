/-! Tape.read, feed, draft -/
def dclr (D : Nat → Nat) : Nat → Nat := fun k => if k = 5 ∨ k = 6 ∨ k = 7 then D k else 0
section Rd3
variable (sta : mj_S) (d : Nat) (c : Nat → Nat) (n : Nat) (b : Nat) (D : Nat → Nat) (DA : Nat → Nat → Nat)
theorem s_read (L : Nat) (fa pl en at_ be ki td va : Int32) (na nl : Nat → Nat) (nm : Nat → List Nat) (hL : n ≤ L) (hL8 : L ≤ 800) (hD : okD D DA) (hc : bd 256 c) : mj_Sx sta (d + 7) 39 [.ref 1, (.int (nI n)), .ref b] ([(1, .inr (6, tpg (nI L) fa pl en at_ be ki td va)), (2, ab c), (3, an na), (4, an nl)] ++ dv b D DA) (fun v w => ∃ pl', pst c n b 0 0 pl' (lAll c n 801 (rn blk_ c n 0, false, dclr D, va_up DA 4 (fun _ => 0), nm)) v w) := by
  refine mj_Sx.mk m_X6_read (by decide) n_X6_read rfl (fun h0 hv => ?_)
  generalize hT : mj_rx m_X6_read h0 _ _ = T
  obtain ⟨d0, d1, d3, d4, d5, d6, d7, d8, d2, a0, a1, a2, a3, a4, a5⟩ := hD
  have hn : n ≤ 800 := by omega
  repeat (first | refine g_px rfl rfl rfl ?_ | refine g_get hv 0 rfl rfl rfl rfl ?_)
  refine g_callS hv [] rfl rfl rfl rfl rfl rfl rfl (by decide) (s_minN sta (d + 5) n L (by omega) (by omega)) (fun v w' h hp hk2 hv => ?_)
  obtain ⟨rfl, rfl⟩ := hp
  rw [Nat.min_eq_left hL]
  refine g_put hv 0 rfl rfl rfl rfl rfl rfl (fun h hv => ?_)
  repeat (first | refine g_px rfl rfl rfl ?_)
  refine g_put hv 0 rfl rfl rfl rfl rfl rfl (fun h hv => ?_)
  repeat (first | refine g_px rfl rfl rfl ?_)
  refine g_put hv 0 rfl rfl rfl rfl rfl rfl (fun h hv => ?_)
  repeat (first | refine g_px rfl rfl rfl ?_)
  refine g_put hv 0 rfl rfl rfl rfl rfl rfl (fun h hv => ?_)
  repeat (first | refine g_px rfl rfl rfl ?_)
  refine g_put hv 0 rfl rfl rfl rfl rfl rfl (fun h hv => ?_)
  have hv : mj_Vw h0 ([(1, .inr (6, tpg 0 0 pl (nI n) at_ (nI 0) ki (bl false) va)), (2, ab c), (3, an na), (4, an nl)] ++ dv b D DA) h := hv
  repeat (first | refine g_px rfl rfl rfl ?_)
  refine g_callV hv [4, 9] 4 rfl rfl rfl rfl rfl rfl rfl rfl (by decide) (s_dclear sta (d + 5) b _ _ _ _ _ _ _ _ _ (DA 4)) (fun v w' h hp hk2 hv => ?_)
  obtain ⟨rfl, rfl⟩ := hp
  have hv : mj_Vw h0 ([(1, .inr (6, tpg 0 0 pl (nI n) at_ (nI 0) ki (bl false) va)), (2, ab c), (3, an na), (4, an nl)] ++ dv b (dclr D) (va_up DA 4 (fun _ => 0))) h := hv
  repeat (first | refine g_px rfl rfl rfl ?_)
  refine g_callV hv [0, 1] 0 rfl rfl rfl rfl rfl rfl rfl rfl (by decide) (s_step sta (d + 3) c n 0 0 pl (bl false) va at_ ki 0 hc hn (Nat.zero_le _)) (fun v w' h hp hk2 hv => ?_)
  obtain ⟨rfl, rfl⟩ := hp
  have hv : mj_Vw h0 (wtp c n (rn blk_ c n 0) 0 0 pl (bl false) va na nl b (dclr D) (va_up DA 4 (fun _ => 0))) h := hv
  have hx := rn_ge (p := blk_) (c := c) (Nat.zero_le n)
  have hok : okD (dclr D) (va_up DA 4 (fun _ => 0)) := ⟨by show 0 ≤ 5; omega, by show 0 ≤ 6; omega, by show 0 < 16; omega, by show 0 ≤ 1; omega, d5, d6, d7, by show 0 ≤ 3; omega, by show 0 ≤ 6; omega, a0, a1, a2, a3, fun _ => by show 0 < 64; omega, a5⟩
  have loop : ∀ (f k : Nat) (s : PS) (h : mj_H) (va : Int32) (na nl : Nat → Nat), k + f = 801 → s.1 ≤ n → okD s.2.2.1 s.2.2.2.1 → nmR c n na nl s.2.2.2.2 (s.2.2.1 1) → mj_rx m_X6_read h0 (mj_ks ([(1, (.inr (6, tpg (nI L) fa pl en at_ be ki td va) : va_E)), (2, ab c), (3, an na), (4, an nl)] ++ dv b D DA)) (fun v w => ∃ pl', pst c n b 0 0 pl' (lAll c n f s) v w) = T → mj_Vw h0 (wtp c n s.1 0 0 pl (bl s.2.1) va na nl b s.2.2.1 s.2.2.2.1) h → mj_go sta (mj_Cl sta (d + 6)) m_X6_read T 42 [some (.ref 1), some (.int (nI n)), some (.ref b), some (.int (nI k))] [] h := by
    intro f
    induction f with
    | zero =>
      intro k s h va na nl hk hs hD hnm hT hv
      repeat (first | refine g_px rfl rfl rfl ?_)
      refine g_ic rfl (fun cq => ?_) (fun cq => ?_)
      · repeat (first | refine g_px rfl rfl rfl ?_)
        refine g_callV hv [0] 0 rfl rfl rfl rfl rfl rfl rfl rfl (by decide) (s_fail sta (d + 5) 0 0 pl (bl s.2.1) va _ _ _ _ _) (fun v w' h hp hk2 hv => ?_)
        obtain ⟨rfl, rfl⟩ := hp
        subst hT
        exact g_iret hv rfl rfl rfl rfl ⟨pl, rfl, s.1, _, _, na, nl, s.2.2.1, s.2.2.2.1, hD, rfl⟩
      · simp (disch := omega) only [mj_cp, k_6, k_7, k_8, k_9, k_10, k_12, k_15, k_16, k_18, k_20, k_24, k_25, k_26, k_27, k_28, k_32, k_36, k_48, k_57, k_59, k_63, k_74, k_75, k_84, k_90, k_97, k_99, k_100, k_122, k_200, k_255, k_420, k_448, k_720, k_800, k_999, k_bit, k_shl, fa_and, nI_add, bl_1, bl_0, bl_n1, bl_n0, bl_i1, nI_lt0, nI_0le, nI_eq0, nI_eqT, nI_leI, nI_ltI, nI_eq, Nat.not_le, Nat.not_lt, Bool.not_eq_true, Bool.not_eq_false, not_true_eq_false, not_false_eq_true, Decidable.not_not] at cq
        omega
    | succ f ih =>
      intro k s h va na nl hk hs hD hnm hT hv
      rw [lAll] at hT
      repeat (first | refine g_px rfl rfl rfl ?_)
      refine g_ic rfl (fun cq => ?_) (fun cq => ?_)
      · simp (disch := omega) only [mj_cp, k_6, k_7, k_8, k_9, k_10, k_12, k_15, k_16, k_18, k_20, k_24, k_25, k_26, k_27, k_28, k_32, k_36, k_48, k_57, k_59, k_63, k_74, k_75, k_84, k_90, k_97, k_99, k_100, k_122, k_200, k_255, k_420, k_448, k_720, k_800, k_999, k_bit, k_shl, fa_and, nI_add, bl_1, bl_0, bl_n1, bl_n0, bl_i1, nI_lt0, nI_0le, nI_eq0, nI_eqT, nI_leI, nI_ltI, nI_eq, Nat.not_le, Nat.not_lt, Bool.not_eq_true, Bool.not_eq_false, not_true_eq_false, not_false_eq_true, Decidable.not_not] at cq
        omega
      · repeat (first | refine g_px rfl rfl rfl ?_)
        refine g_callV hv [0, 1, 2, 3, 4, 5, 6, 7, 8, 9, 10] 0 rfl rfl rfl rfl rfl rfl rfl rfl (by decide) (s_readLine sta d c n s.1 0 0 pl va na nl b s.2.2.1 s.2.2.2.1 s.2.1 s.2.2.2.2 hD hnm hc hn hs) (fun v w' h hp hk2 hv => ?_)
        obtain hp := hp
        cases e1 : lLine c n (s.1, s.2.1, s.2.2.1, s.2.2.2.1, s.2.2.2.2) with
        | inr e =>
          rw [e1] at hp
          rw [show lLine c n s = .inr e from e1] at hT
          obtain ⟨rfl, i', td', va', na', nl', D', DA', hD', rfl⟩ := hp
          refine g_if rfl (fun cq => absurd rfl cq) (fun cq => ?_)
          repeat (first | refine g_px rfl rfl rfl ?_)
          subst hT
          exact g_iret hv rfl rfl rfl rfl ⟨pl, rfl, i', td', va', na', nl', D', DA', hD', rfl⟩
        | inl t =>
          rw [e1] at hp
          rw [show lLine c n s = .inl t from e1] at hT
          obtain ⟨rfl, ht, hD', va', na', nl', hnm', rfl⟩ := hp
          have hk4 := knd_lt c n t.1
          dsimp only at hT
          refine g_if rfl (fun cq => ?_) (fun cq => absurd (show ¬ bl true = 0 by decide) cq)
          have hv : mj_Vw h0 (wtp c n t.1 0 0 pl (bl t.2.1) va' na' nl' b t.2.2.1 t.2.2.2.1) h := hv
          repeat (first | refine g_px rfl rfl rfl ?_ | refine g_get hv 0 rfl rfl rfl rfl ?_)
          refine g_if rfl (fun cq => ?_) (fun cq => ?_)
          · have cq : ¬ nI (knd c n t.1) = 0 := cq
            rw [nI_eq0 (by omega)] at cq
            rw [if_neg cq] at hT
            repeat (first | refine g_px rfl rfl rfl ?_ | refine g_get hv 0 rfl rfl rfl rfl ?_)
            refine g_ic rfl (fun cq => ?_) (fun cq => ?_)
            · have cq : nI (knd c n t.1) = nI 3 := cq
              rw [nI_eq (by omega) (by decide)] at cq
              rw [if_neg (not_not_intro cq)] at hT
              repeat (first | refine g_px rfl rfl rfl ?_)
              refine g_callV hv [0, 1] 0 rfl rfl rfl rfl rfl rfl rfl rfl (by decide) (s_stepT sta (d + 3) c n t.1 0 0 pl (bl t.2.1) va' hc hn ht) (fun v w' h hp hk2 hv => ?_)
              obtain ⟨rfl, rfl⟩ := hp
              have hv : mj_Vw h0 (wtp c n (nxt c n t.1) 0 0 pl (bl t.2.1) va' na' nl' b t.2.2.1 t.2.2.2.1) h := hv
              refine g_run 2 rfl ?_
              have hnx := ih (k + 1) (nxt c n t.1, t.2) h va' na' nl' (by omega) (nxt_ge c n ht).2 hD' hnm' hT hv
              rw [nI_succ] at hnx
              exact hnx
            · have cq : ¬ nI (knd c n t.1) = nI 3 := cq
              rw [nI_eq (by omega) (by decide)] at cq
              rw [if_pos cq] at hT
              repeat (first | refine g_px rfl rfl rfl ?_)
              refine g_callV hv [0] 0 rfl rfl rfl rfl rfl rfl rfl rfl (by decide) (s_fail sta (d + 5) 0 0 pl (bl t.2.1) va' _ _ _ _ _) (fun v w' h hp hk2 hv => ?_)
              obtain ⟨rfl, rfl⟩ := hp
              subst hT
              exact g_iret hv rfl rfl rfl rfl ⟨pl, rfl, t.1, _, _, na', nl', t.2.2.1, t.2.2.2.1, hD', rfl⟩
          · have cq : ¬ ¬ nI (knd c n t.1) = 0 := cq
            rw [nI_eq0 (by omega)] at cq
            rw [if_pos (Decidable.not_not.mp cq)] at hT
            have h6 := hD'.2.1
            repeat (first | refine g_px rfl rfl rfl ?_ | refine g_get hv 4 rfl rfl rfl rfl ?_)
            refine g_if rfl (fun cq => ?_) (fun cq => ?_)
            · have cq : nI 0 < nI (t.2.2.1 1) := cq
              rw [nI_ltI (by decide) (by omega)] at cq
              rw [if_pos cq] at hT
              repeat (first | refine g_px rfl rfl rfl ?_)
              subst hT
              exact g_iret hv rfl rfl rfl rfl ⟨pl, rfl, ht, hD', va', na', nl', hnm', rfl⟩
            · have cq : ¬ nI 0 < nI (t.2.2.1 1) := cq
              rw [nI_ltI (by decide) (by omega)] at cq
              rw [if_neg cq] at hT
              repeat (first | refine g_px rfl rfl rfl ?_)
              refine g_callV hv [0] 0 rfl rfl rfl rfl rfl rfl rfl rfl (by decide) (s_fail sta (d + 5) 0 0 pl (bl t.2.1) va' _ _ _ _ _) (fun v w' h hp hk2 hv => ?_)
              obtain ⟨rfl, rfl⟩ := hp
              refine g_if rfl (fun cq => ?_) (fun cq => absurd rfl cq)
              repeat (first | refine g_px rfl rfl rfl ?_)
              subst hT
              exact g_iret hv rfl rfl rfl rfl ⟨pl, rfl, t.1, _, _, na', nl', t.2.2.1, t.2.2.2.1, hD', rfl⟩
  refine g_run 2 rfl ?_
  exact loop 801 0 (rn blk_ c n 0, false, dclr D, va_up DA 4 (fun _ => 0), nm) h va na nl rfl hx.2 hok (fun k hk => absurd hk (Nat.not_lt_zero k)) hT hv
end Rd3
/-- a byte of an int -/
def bsh (x : Int32) (s : Nat) : Nat := bnat (x >>> (nI s &&& 31))
def put4 (c : Nat → Nat) (L : Nat) (x : Int32) : Nat → Nat := va_up (va_up (va_up (va_up c L (bsh x 24)) (L + 1) (bsh x 16)) (L + 2) (bsh x 8)) (L + 3) (bsh x 0)
section Fd
variable (sta : mj_S) (d : Nat) (c : Nat → Nat) (L : Nat) (fa pl en at_ be ki td va : Int32)
theorem s_hasRoom (hL : L ≤ 800) : mj_Sx sta (d + 1) 37 [.ref 1, (.int (nI 20))] [(1, .inr (6, tpg (nI L) fa pl en at_ be ki td va))] (fun v w => v = some (.int (bl (decide (L + 20 ≤ 800)))) ∧ w = [(1, .inr (6, tpg (nI L) fa pl en at_ be ki td va))]) := by
  refine mj_Sx.mk m_X6_hasRoom (by decide) n_X6_hasRoom rfl (fun h0 hv => ?_)
  generalize hT : mj_rx m_X6_hasRoom h0 _ _ = T
  repeat (first | refine g_px rfl rfl rfl ?_ | refine g_get hv 0 rfl rfl rfl rfl ?_)
  rw [nI_add]
  refine g_ic rfl (fun cq => ?_) (fun cq => ?_)
  · simp (disch := omega) only [mj_cp, k_6, k_7, k_8, k_9, k_10, k_12, k_15, k_16, k_18, k_20, k_24, k_25, k_26, k_27, k_28, k_32, k_36, k_48, k_57, k_59, k_63, k_74, k_75, k_84, k_90, k_97, k_99, k_100, k_122, k_200, k_255, k_420, k_448, k_720, k_800, k_999, k_bit, k_shl, fa_and, nI_add, bl_1, bl_0, bl_n1, bl_n0, bl_i1, nI_lt0, nI_0le, nI_eq0, nI_eqT, nI_leI, nI_ltI, nI_eq, Nat.not_le, Nat.not_lt, Bool.not_eq_true, Bool.not_eq_false, not_true_eq_false, not_false_eq_true, Decidable.not_not] at cq
    repeat (first | refine g_px rfl rfl rfl ?_)
    subst hT
    refine g_iret hv rfl rfl rfl rfl ?_
    exact ⟨by rw [decide_eq_false (by omega)]; rfl, rfl⟩
  · simp (disch := omega) only [mj_cp, k_6, k_7, k_8, k_9, k_10, k_12, k_15, k_16, k_18, k_20, k_24, k_25, k_26, k_27, k_28, k_32, k_36, k_48, k_57, k_59, k_63, k_74, k_75, k_84, k_90, k_97, k_99, k_100, k_122, k_200, k_255, k_420, k_448, k_720, k_800, k_999, k_bit, k_shl, fa_and, nI_add, bl_1, bl_0, bl_n1, bl_n0, bl_i1, nI_lt0, nI_0le, nI_eq0, nI_eqT, nI_leI, nI_ltI, nI_eq, Nat.not_le, Nat.not_lt, Bool.not_eq_true, Bool.not_eq_false, not_true_eq_false, not_false_eq_true, Decidable.not_not] at cq
    repeat (first | refine g_px rfl rfl rfl ?_)
    subst hT
    refine g_iret hv rfl rfl rfl rfl ?_
    exact ⟨by rw [decide_eq_true (by omega)]; rfl, rfl⟩
theorem s_put (x : Int32) (hL : L + 4 ≤ 800) : mj_Sx sta (d + 1) 38 [.ref 1, .int x] [(1, .inr (6, tpg (nI L) fa pl en at_ be ki td va)), (2, ab c)] (fun v w => v = none ∧ w = [(1, .inr (6, tpg (nI (L + 4)) fa pl en at_ be ki td va)), (2, ab (put4 c L x))]) := by
  refine mj_Sx.mk m_X6_put (by decide) n_X6_put rfl (fun h0 hv => ?_)
  generalize hT : mj_rx m_X6_put h0 _ _ = T
  have it : ∀ (s L : Nat) (c : Nat → Nat) (h : mj_H), s < 32 → L < 800 → mj_Vw h0 [(1, .inr (6, tpg (nI L) fa pl en at_ be ki td va)), (2, ab c)] h → (∀ h, mj_Vw h0 [(1, .inr (6, tpg (nI (L + 1)) fa pl en at_ be ki td va)), (2, ab (va_up c L (bsh x s)))] h → mj_go sta (mj_Cl sta d) m_X6_put T 3 [some (.ref 1), some (.int x), some (.int (nI s + Int32.ofInt (-8)))] [] h) → mj_go sta (mj_Cl sta d) m_X6_put T 3 [some (.ref 1), some (.int x), some (.int (nI s))] [] h := by
    intro s L c h hs hL hv k
    repeat (first | refine g_px rfl rfl rfl ?_)
    refine g_if rfl (fun cq => absurd cq (nI_pos (by omega))) (fun cq => ?_)
    repeat (first | refine g_px rfl rfl rfl ?_ | refine g_get hv 0 rfl rfl rfl rfl ?_)
    refine g_ic rfl (fun cq => ?_) (fun cq => ?_)
    · simp (disch := omega) only [mj_cp, k_6, k_7, k_8, k_9, k_10, k_12, k_15, k_16, k_18, k_20, k_24, k_25, k_26, k_27, k_28, k_32, k_36, k_48, k_57, k_59, k_63, k_74, k_75, k_84, k_90, k_97, k_99, k_100, k_122, k_200, k_255, k_420, k_448, k_720, k_800, k_999, k_bit, k_shl, fa_and, nI_add, bl_1, bl_0, bl_n1, bl_n0, bl_i1, nI_lt0, nI_0le, nI_eq0, nI_eqT, nI_leI, nI_ltI, nI_eq, Nat.not_le, Nat.not_lt, Bool.not_eq_true, Bool.not_eq_false, not_true_eq_false, not_false_eq_true, Decidable.not_not] at cq
      omega
    · repeat (first | refine g_px rfl rfl rfl ?_ | refine g_get hv 0 rfl rfl rfl rfl ?_)
      refine g_b8s hv 1 (k := L) hL rfl rfl (fun h hv => ?_)
      repeat (first | refine g_px rfl rfl rfl ?_ | refine g_get hv 0 rfl rfl rfl rfl ?_)
      rw [show nI L + Int32.ofInt 1 = nI (L + 1) from (nI_succ _).symm]
      refine g_put hv 0 rfl rfl rfl rfl rfl rfl (fun h hv => ?_)
      refine g_run 2 rfl ?_
      exact k h hv
  refine g_run 2 rfl ?_
  refine it 24 L c h0 (by decide) (by omega) hv (fun h hv => ?_)
  refine it 16 (L + 1) _ h (by decide) (by omega) hv (fun h hv => ?_)
  refine it 8 (L + 2) _ h (by decide) (by omega) hv (fun h hv => ?_)
  refine it 0 (L + 3) _ h (by decide) (by omega) hv (fun h hv => ?_)
  repeat (first | refine g_px rfl rfl rfl ?_)
  refine g_if rfl (fun cq => ?_) (fun cq => absurd (cpT (by decide)) cq)
  subst hT
  exact g_vret hv rfl rfl rfl ⟨rfl, rfl⟩
variable (tr : Int32) (dr sl : Bool) (a b : Nat)
theorem s_feed_0 (x y z u v : Int32) (hL : L ≤ 800) (hno : ¬ L + 20 ≤ 800) : mj_Sx sta (d + 2) 68 [.ref 0, .int x, .int y, .int z, .int u, .int v] [wob tr dr a b sl, (1, .inr (6, tpg (nI L) fa pl en at_ be ki td va))] (fun v w => v = some (.int (-1)) ∧ w = [wob tr dr a b sl, (1, .inr (6, tpg (nI L) fa pl en at_ be ki td va))]) := by
  refine mj_Sx.mk m_X8_feed (by decide) n_X8_feed rfl (fun h0 hv => ?_)
  generalize hT : mj_rx m_X8_feed h0 _ _ = T
  repeat (first | refine g_px rfl rfl rfl ?_ | refine g_get hv 0 rfl rfl rfl rfl ?_)
  refine g_callV hv [1] 1 rfl rfl rfl rfl rfl rfl rfl rfl (by decide) (s_hasRoom sta d L fa pl en at_ be ki td va hL) (fun v w' h hp hk2 hv => ?_)
  obtain ⟨rfl, rfl⟩ := hp
  rw [decide_eq_false hno]
  refine g_if rfl (fun cq => absurd rfl cq) (fun cq => ?_)
  repeat (first | refine g_px rfl rfl rfl ?_)
  subst hT
  exact g_iret hv rfl rfl rfl rfl ⟨rfl, rfl⟩
def put20 (c : Nat → Nat) (L : Nat) (x y z u v : Int32) : Nat → Nat := put4 (put4 (put4 (put4 (put4 c L x) (L + 4) y) (L + 8) z) (L + 12) u) (L + 16) v
theorem s_feed (x y z u v : Int32) (hL : L + 20 ≤ 800) : mj_Sx sta (d + 2) 68 [.ref 0, .int x, .int y, .int z, .int u, .int v] [wob tr dr a b sl, (1, .inr (6, tpg (nI L) fa pl en at_ be ki td va)), (2, ab c)] (fun q w => q = some (.int (nI (L + 20))) ∧ w = [wob tr dr a b sl, (1, .inr (6, tpg (nI (L + 20)) fa pl en at_ be ki td va)), (2, ab (put20 c L x y z u v))]) := by
  refine mj_Sx.mk m_X8_feed (by decide) n_X8_feed rfl (fun h0 hv => ?_)
  generalize hT : mj_rx m_X8_feed h0 _ _ = T
  repeat (first | refine g_px rfl rfl rfl ?_ | refine g_get hv 0 rfl rfl rfl rfl ?_)
  refine g_callV hv [1] 1 rfl rfl rfl rfl rfl rfl rfl rfl (by decide) (s_hasRoom sta d L fa pl en at_ be ki td va (by omega)) (fun v w' h hp hk2 hv => ?_)
  obtain ⟨rfl, rfl⟩ := hp
  rw [decide_eq_true hL]
  refine g_if rfl (fun cq => ?_) (fun cq => absurd (show ¬ bl true = 0 by decide) cq)
  repeat (first | refine g_px rfl rfl rfl ?_ | refine g_get hv 0 rfl rfl rfl rfl ?_)
  refine g_callV hv [1, 2] 1 rfl rfl rfl rfl rfl rfl rfl rfl (by decide) (s_put sta d c L fa pl en at_ be ki td va x (by omega)) (fun v w' h hp hk2 hv => ?_)
  obtain ⟨rfl, rfl⟩ := hp
  repeat (first | refine g_px rfl rfl rfl ?_ | refine g_get hv 0 rfl rfl rfl rfl ?_)
  refine g_callV hv [1, 2] 1 rfl rfl rfl rfl rfl rfl rfl rfl (by decide) (s_put sta d (put4 c L x) (L + 4) fa pl en at_ be ki td va y (by omega)) (fun v w' h hp hk2 hv => ?_)
  obtain ⟨rfl, rfl⟩ := hp
  repeat (first | refine g_px rfl rfl rfl ?_ | refine g_get hv 0 rfl rfl rfl rfl ?_)
  refine g_callV hv [1, 2] 1 rfl rfl rfl rfl rfl rfl rfl rfl (by decide) (s_put sta d _ (L + 8) fa pl en at_ be ki td va z (by omega)) (fun v w' h hp hk2 hv => ?_)
  obtain ⟨rfl, rfl⟩ := hp
  repeat (first | refine g_px rfl rfl rfl ?_ | refine g_get hv 0 rfl rfl rfl rfl ?_)
  refine g_callV hv [1, 2] 1 rfl rfl rfl rfl rfl rfl rfl rfl (by decide) (s_put sta d _ (L + 12) fa pl en at_ be ki td va u (by omega)) (fun v w' h hp hk2 hv => ?_)
  obtain ⟨rfl, rfl⟩ := hp
  repeat (first | refine g_px rfl rfl rfl ?_ | refine g_get hv 0 rfl rfl rfl rfl ?_)
  refine g_callV hv [1, 2] 1 rfl rfl rfl rfl rfl rfl rfl rfl (by decide) (s_put sta d _ (L + 16) fa pl en at_ be ki td va v (by omega)) (fun v w' h hp hk2 hv => ?_)
  obtain ⟨rfl, rfl⟩ := hp
  repeat (first | refine g_px rfl rfl rfl ?_ | refine g_get hv 0 rfl rfl rfl rfl ?_ | refine g_get hv 1 rfl rfl rfl rfl ?_)
  subst hT
  exact g_iret hv rfl rfl rfl rfl ⟨rfl, rfl⟩
theorem s_draft_2 (y : Int32) (hL : L ≤ 800) (hno : inR (L + 1) y = false) : mj_Sx sta (d + 2) 69 [.ref 0, .int y] [wob tr dr a b sl, (1, .inr (6, tpg (nI L) fa pl en at_ be ki td va))] (fun v w => v = some (.int (-1)) ∧ w = [wob 2 dr a b sl, (1, .inr (6, tpg (nI L) fa pl en at_ be ki td va))]) := by
  refine mj_Sx.mk m_X8_draft (by decide) n_X8_draft rfl (fun h0 hv => ?_)
  generalize hT : mj_rx m_X8_draft h0 _ _ = T
  have no : mj_go sta (mj_Cl sta (d + 1)) m_X8_draft T 15 [some (.ref 0), some (.int y), none] [] h0 := by
    repeat (first | refine g_px rfl rfl rfl ?_)
    refine g_callV hv [0] 0 rfl rfl rfl rfl rfl rfl rfl rfl (by decide) (s_refuse' sta d tr dr sl a b _) (fun v w' h hp hk2 hv => ?_)
    obtain ⟨rfl, rfl⟩ := hp
    subst hT
    exact g_iret hv rfl rfl rfl rfl ⟨rfl, rfl⟩
  repeat (first | refine g_px rfl rfl rfl ?_)
  refine g_if rfl (fun cq => ?_) (fun cq => ?_)
  · exact no
  · have cq : ¬ y < 0 := cq
    repeat (first | refine g_px rfl rfl rfl ?_ | refine g_get hv 0 rfl rfl rfl rfl ?_ | refine g_get hv 1 rfl rfl rfl rfl ?_)
    refine g_ic rfl (fun cq2 => ?_) (fun cq2 => ?_)
    · have cq2 : y ≤ nI L := cq2
      have h1 : ¬ nI (L + 1) ≤ y := fun z => by have := (nI_leI (by omega) (by omega)).mp (Int32.le_trans z cq2); omega
      unfold inR at hno
      rw [decide_eq_true (Int32.not_lt.mp cq), decide_eq_true (Int32.not_le.mp h1)] at hno
      cases hno
    · exact no
abbrev wdr (tr : Int32) (dr : Bool) (a b : Nat) (sl : Bool) (kn fi : Int32) (tp : List Value) (c na nl : Nat → Nat) (e : Nat) (D : Nat → Nat) (DA : Nat → Nat → Nat) (H : HN) (nx ac im : Int32) : mj_W := [wob tr dr a b sl, lwh kn fi] ++ ([(1, .inr (6, tp)), (2, ab c), (3, an na), (4, an nl)] ++ dv e D DA) ++ nvH 19 H ++ [(29, .inr (2, kob nx ac im))]
/-- now, as the draft begins -/
def nw0 (D : Nat → Nat) (DA : Nat → Nat → Nat) : HN := (fun k => if k = 0 then D 3 else 0, fun k => if k = 0 then DA 0 else if k = 1 then DA 2 else idn 6 (fun _ => 0), fun _ => none)
theorem s_draft (n : Nat) (kn fi nx ac im : Int32) (na nl : Nat → Nat) (D : Nat → Nat) (DA : Nat → Nat → Nat) (H : HN) (nm : Nat → List Nat) (hn : n ≤ L) (hL : L ≤ 800) (hD : okD D DA) (hc : bd 256 c) : mj_Sx sta (d + 8) 69 [.ref 0, (.int (nI n))] (wdr tr dr a b sl kn fi (tpg (nI L) fa pl en at_ be ki td va) c na nl b D DA H nx ac im) (fun v w => match lAll c n 801 (rn blk_ c n 0, false, dclr D, va_up DA 4 (fun _ => 0), nm) with
      | .inr e => v = some (.int (-1)) ∧ ∃ en at_ be ki td va na nl D DA, okD D DA ∧ w = wdr 4 dr a b sl kn fi (tpg 0 (nI e.1) (nI e.2) en at_ be ki td va) c na nl b D DA H nx ac im
      | .inl t => v = some (.int (nI (t.2.2.1 1))) ∧ okD t.2.2.1 t.2.2.2.1 ∧ ∃ pl en at_ be ki td va na nl, w = wdr 0 true b a true 0 0 (tpg 0 0 pl en at_ be ki td va) c na nl b t.2.2.1 t.2.2.2.1 (nw0 t.2.2.1 t.2.2.2.1) nx 0 0) := by
  refine mj_Sx.mk m_X8_draft (by decide) n_X8_draft rfl (fun h0 hv => ?_)
  generalize hT : mj_rx m_X8_draft h0 _ _ = T
  repeat (first | refine g_px rfl rfl rfl ?_)
  refine g_if rfl (fun cq => absurd cq (nI_pos (by omega))) (fun cq => ?_)
  repeat (first | refine g_px rfl rfl rfl ?_ | refine g_get hv 0 rfl rfl rfl rfl ?_ | refine g_get hv 2 rfl rfl rfl rfl ?_)
  refine g_ic rfl (fun cq => ?_) (fun cq => absurd (nI_le hn (by omega)) cq)
  repeat (first | refine g_px rfl rfl rfl ?_ | refine g_get hv 0 rfl rfl rfl rfl ?_)
  refine g_callV hv [2, 3, 4, 5, 6, 7, 8, 9, 10, 11, 12] 2 rfl rfl rfl rfl rfl rfl rfl rfl (by decide) (s_read sta d c n b D DA L fa pl en at_ be ki td va na nl nm hn hL hD hc) (fun v w' h hp hk2 hv => ?_)
  obtain ⟨pl', hp⟩ := hp
  cases e1 : lAll c n 801 (rn blk_ c n 0, false, dclr D, va_up DA 4 (fun _ => 0), nm) with
  | inr e =>
    rw [e1] at hp hT
    obtain ⟨rfl, i', td', va', na', nl', D', DA', hD', rfl⟩ := hp
    refine g_if rfl (fun cq => absurd rfl cq) (fun cq => ?_)
    repeat (first | refine g_px rfl rfl rfl ?_)
    refine g_callV hv [0] 0 rfl rfl rfl rfl rfl rfl rfl rfl (by decide) (s_refuse' sta (d + 6) tr dr sl a b _) (fun v w' h hp hk2 hv => ?_)
    obtain ⟨rfl, rfl⟩ := hp
    subst hT
    exact g_iret hv rfl rfl rfl rfl ⟨rfl, _, _, _, _, _, _, na', nl', D', DA', hD', rfl⟩
  | inl t =>
    rw [e1] at hp hT
    obtain ⟨rfl, ht, hD', va', na', nl', hnm', rfl⟩ := hp
    refine g_if rfl (fun cq => ?_) (fun cq => absurd (show ¬ bl true = 0 by decide) cq)
    have hv : mj_Vw h0 (wdr tr dr a b sl kn fi (tpg 0 0 pl' (nI n) (nI t.1) (nI (bhd c n t.1)) (nI (knd c n t.1)) (bl t.2.1) va') c na' nl' b t.2.2.1 t.2.2.2.1 H nx ac im) h := hv
    repeat (first | refine g_px rfl rfl rfl ?_ | refine g_get hv 0 rfl rfl rfl rfl ?_)
    refine g_put hv 0 rfl rfl rfl rfl rfl rfl (fun h hv => ?_)
    repeat (first | refine g_px rfl rfl rfl ?_)
    refine g_put hv 0 rfl rfl rfl rfl rfl rfl (fun h hv => ?_)
    repeat (first | refine g_px rfl rfl rfl ?_)
    refine g_put hv 0 rfl rfl rfl rfl rfl rfl (fun h hv => ?_)
    have hv : mj_Vw h0 (wdr tr true b a sl kn fi (tpg 0 0 pl' (nI n) (nI t.1) (nI (bhd c n t.1)) (nI (knd c n t.1)) (bl t.2.1) va') c na' nl' b t.2.2.1 t.2.2.2.1 H nx ac im) h := hv
    repeat (first | refine g_px rfl rfl rfl ?_ | refine g_get hv 0 rfl rfl rfl rfl ?_)
    refine g_callV hv [13, 14, 15, 16, 17, 6, 7, 9] 13 rfl rfl rfl rfl rfl rfl rfl rfl (by decide) (s_begin sta (d + 6) 19 b _ _ _ _ _ _ _ _ _ _ _ _ _ _ _ _ _ _ _) (fun v w' h hp hk2 hv => ?_)
    obtain ⟨rfl, rfl⟩ := hp
    repeat (first | refine g_px rfl rfl rfl ?_ | refine g_get hv 0 rfl rfl rfl rfl ?_)
    refine g_callV hv [18] 18 rfl rfl rfl rfl rfl rfl rfl rfl (by decide) (s_kclear sta (d + 6) nx ac im) (fun v w' h hp hk2 hv => ?_)
    obtain ⟨rfl, rfl⟩ := hp
    have hv : mj_Vw h0 (wdr tr true b a sl kn fi (tpg 0 0 pl' (nI n) (nI t.1) (nI (bhd c n t.1)) (nI (knd c n t.1)) (bl t.2.1) va') c na' nl' b t.2.2.1 t.2.2.2.1 (nw0 t.2.2.1 t.2.2.2.1) nx 0 0) h := hv
    repeat (first | refine g_px rfl rfl rfl ?_)
    refine g_callV hv [0, 1] 0 rfl rfl rfl rfl rfl rfl rfl rfl (by decide) (s_changed sta (d + 5) tr true sl b a kn fi) (fun v w' h hp hk2 hv => ?_)
    obtain ⟨rfl, rfl⟩ := hp
    have hv : mj_Vw h0 (wdr tr true b a true 0 0 (tpg 0 0 pl' (nI n) (nI t.1) (nI (bhd c n t.1)) (nI (knd c n t.1)) (bl t.2.1) va') c na' nl' b t.2.2.1 t.2.2.2.1 (nw0 t.2.2.1 t.2.2.2.1) nx 0 0) h := hv
    repeat (first | refine g_px rfl rfl rfl ?_ | refine g_get hv 0 rfl rfl rfl rfl ?_ | refine g_get hv 6 rfl rfl rfl rfl ?_)
    refine g_callV hv [0] 0 rfl rfl rfl rfl rfl rfl rfl rfl (by decide) (s_answer' sta (d + 6) tr true true b a _) (fun v w' h hp hk2 hv => ?_)
    obtain ⟨rfl, rfl⟩ := hp
    subst hT
    exact g_iret hv rfl rfl rfl rfl ⟨rfl, hD', pl', _, _, _, _, _, _, na', nl', rfl⟩
end Fd
