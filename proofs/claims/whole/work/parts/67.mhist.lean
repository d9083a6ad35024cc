/-! the reference: acts, what they keep -/
def cpS (b k : Nat) (V Q : Nat → Int32) : Nat → Int32 := fun y => if b ≤ y ∧ y < b + k then V (y - b) else Q y
theorem cpS_0 {b : Nat} {V Q : Nat → Int32} : cpS b 0 V Q = Q := by
  funext y
  unfold cpS
  rw [if_neg (by omega)]
theorem cpS_up {b k : Nat} {V Q : Nat → Int32} : upd (cpS b k V Q) (b + k) (V k) = cpS b (k + 1) V Q := by
  funext y
  unfold upd cpS
  by_cases h : y = b + k
  · rw [if_pos h, if_pos (by omega), show y - b = k by omega]
  · rw [if_neg h]
    by_cases h2 : b ≤ y ∧ y < b + k
    · rw [if_pos h2, if_pos (by omega)]
    · rw [if_neg h2, if_neg (by omega)]
theorem upd_mix {k : Nat} {f f' : Nat → Int32} : upd (mix k f f') k (f' k) = mix (k + 1) f f' := by
  funext x
  unfold upd mix
  by_cases h1 : x = k
  · subst h1; rw [if_pos rfl, if_pos (by omega)]
  · rw [if_neg h1]
    by_cases h2 : x < k
    · rw [if_pos h2, if_pos (by omega)]
    · rw [if_neg h2, if_neg (by omega)]
def remA (a : Nat) : Nat := if a = 16 then 15 else a
def remP (a : Nat) (V P : Nat → Int32) : Nat → Int32 := cpS (28 * remA a) 28 V (if a = 16 then mix 420 P (fun y => P (y + 28)) else P)
section Mh
variable (sta : mj_S) (d : Nat) (th tr wh : Int32) (q : Nat) (dr rd : Option Nat) (F : Nat → Int32) (wd : Int64) (ac im lw tk st : Int32) (sh ru : Int64) (rz aw al sd : Int32) (V P : Nat → Int32)
theorem s_Mremembers (a : Nat) (ha : a ≤ 16) : mj_Sx sta (d + 1) 267 [.ref 151] [(mo th tr wh dr rd F wd (nI a) im lw tk st sh ru rz aw al sd), (153, aI 28 V), (154, aI 448 P)] (fun v w => v = none ∧ w = [(mo th tr wh dr rd F wd (nI (min (a + 1) 16)) im lw tk st sh ru rz aw al sd), (153, aI 28 V), (154, aI 448 (remP a V P))]) := by
  refine mj_Sx.mk m_X10_remembers (by decide) n_X10_remembers rfl (fun h0 hv => ?_)
  generalize hT : mj_rx m_X10_remembers h0 _ _ = T
  have fin : ∀ b Q h, b < 16 → min (a + 1) 16 = b + 1 → cpS (28 * b) 28 V Q = remP a V P → mj_Vw h0 [(mo th tr wh dr rd F wd (nI b) im lw tk st sh ru rz aw al sd), (153, aI 28 V), (154, aI 448 Q)] h → mj_go sta (mj_Cl sta d) m_X10_remembers T 49 [some (.ref 151), some (.int 0)] [] h → mj_go sta (mj_Cl sta d) m_X10_remembers T 49 [some (.ref 151), some (.int 0)] [] h := fun _ _ _ _ _ _ _ z => z
  clear fin
  have fin : ∀ b Q h x1, b < 16 → min (a + 1) 16 = b + 1 → cpS (28 * b) 28 V Q = remP a V P → mj_Vw h0 [(mo th tr wh dr rd F wd (nI b) im lw tk st sh ru rz aw al sd), (153, aI 28 V), (154, aI 448 Q)] h → mj_go sta (mj_Cl sta d) m_X10_remembers T 49 [some (.ref 151), x1] [] h := by
    intro b Q h x1 hb hm he hv
    have loop : ∀ j k h, k + j = 28 → mj_Vw h0 [(mo th tr wh dr rd F wd (nI b) im lw tk st sh ru rz aw al sd), (153, aI 28 V), (154, aI 448 (cpS (28 * b) k V Q))] h → mj_go sta (mj_Cl sta d) m_X10_remembers T 51 [some (.ref 151), some (.int (nI k))] [] h := by
      intro j
      induction j with
      | zero =>
        intro k h hk hv
        have hk : k = 28 := by omega
        subst hk
        repeat (first | refine g_px rfl rfl rfl ?_)
        refine g_ic rfl (fun cq => ?_) (fun cq => absurd (cpT (by decide)) cq)
        refine g_run 2 rfl ?_
        refine g_get hv 0 rfl rfl rfl rfl ?_
        refine g_run 2 rfl ?_
        rw [show nI b + Int32.ofInt 1 = nI (b + 1) from (nI_succ b).symm]
        refine g_put hv 0 rfl rfl rfl rfl rfl rfl (fun h hv => ?_)
        have hv : mj_Vw h0 ([(mo th tr wh dr rd F wd (nI (b + 1)) im lw tk st sh ru rz aw al sd), (153, aI 28 V), (154, aI 448 (cpS (28 * b) 28 V Q))]) h := hv
        rw [he, ← hm] at hv
        subst hT
        exact g_vret hv rfl rfl rfl ⟨rfl, rfl⟩
      | succ j ih =>
        intro k h hk hv
        repeat (first | refine g_px rfl rfl rfl ?_)
        refine g_ic rfl (fun cq => ?_) (fun cq => ?_)
        · simp (disch := omega) only [mj_cp, k_6, k_7, k_8, k_9, k_10, k_12, k_15, k_16, k_18, k_20, k_24, k_25, k_26, k_27, k_28, k_32, k_36, k_48, k_57, k_59, k_63, k_74, k_75, k_84, k_90, k_97, k_99, k_100, k_122, k_200, k_255, k_420, k_448, k_720, k_800, k_999, k_bit, k_shl, fa_and, nI_add, bl_1, bl_0, bl_n1, bl_n0, bl_i1, nI_lt0, nI_0le, nI_eq0, nI_eqT, nI_leI, nI_ltI, nI_eq, Nat.not_le, Nat.not_lt, Bool.not_eq_true, Bool.not_eq_false, not_true_eq_false, not_false_eq_true, Decidable.not_not] at cq
          omega
        · refine g_run 1 rfl ?_
          refine g_get hv 0 rfl rfl rfl rfl ?_
          refine g_run 2 rfl ?_
          refine g_get hv 0 rfl rfl rfl rfl ?_
          refine g_run 3 rfl ?_
          rw [show (Int8.ofInt 28).toInt32 * nI b + nI k = nI (28 * b + k) by rw [k_28, pk_mul, nI_add]]
          refine g_run 1 rfl ?_
          refine g_get hv 0 rfl rfl rfl rfl ?_
          refine g_run 1 rfl ?_
          refine g_vI (L := 28) hv 1 (k := k) (by omega) (by decide) rfl rfl ?_
          refine g_vIs (L := 448) hv 2 (k := 28 * b + k) (by omega) (by decide) rfl rfl (fun h hv => ?_)
          rw [cpS_up] at hv
          refine g_run 2 rfl ?_
          have hnx := ih (k + 1) h (by omega) hv
          rw [nI_succ] at hnx
          exact hnx
    refine g_run 2 rfl ?_
    exact loop 28 0 h (by omega) (by rw [cpS_0]; exact hv)
  repeat (first | refine g_px rfl rfl rfl ?_ | refine g_get hv 0 rfl rfl rfl rfl ?_)
  refine g_ic rfl (fun cq => ?_) (fun cq => ?_)
  · have cq : ¬ nI a = nI 16 := cq
    rw [nI_eq (by omega) (by decide)] at cq
    exact fin a P h0 none (by omega) (by omega) (by rw [remP, remA, if_neg cq, if_neg cq]) hv
  · have cq : ¬ ¬ nI a = nI 16 := cq
    rw [nI_eq (by omega) (by decide), Decidable.not_not] at cq
    subst cq
    have loop : ∀ j k h, k + j = 420 → mj_Vw h0 [(mo th tr wh dr rd F wd (nI 16) im lw tk st sh ru rz aw al sd), (153, aI 28 V), (154, aI 448 (mix k P (fun y => P (y + 28))))] h → mj_go sta (mj_Cl sta d) m_X10_remembers T 11 [some (.ref 151), some (.int (nI k))] [] h := by
      intro j
      induction j with
      | zero =>
        intro k h hk hv
        have hk : k = 420 := by omega
        subst hk
        repeat (first | refine g_px rfl rfl rfl ?_)
        refine g_ic rfl (fun cq => ?_) (fun cq => absurd (cpT (by decide)) cq)
        refine g_run 2 rfl ?_
        refine g_get hv 0 rfl rfl rfl rfl ?_
        refine g_run 2 rfl ?_
        refine g_put hv 0 rfl rfl rfl rfl rfl rfl (fun h hv => ?_)
        exact fin 15 _ h _ (by decide) rfl rfl hv
      | succ j ih =>
        intro k h hk hv
        repeat (first | refine g_px rfl rfl rfl ?_)
        refine g_ic rfl (fun cq => ?_) (fun cq => ?_)
        · simp (disch := omega) only [mj_cp, k_6, k_7, k_8, k_9, k_10, k_12, k_15, k_16, k_18, k_20, k_24, k_25, k_26, k_27, k_28, k_32, k_36, k_48, k_57, k_59, k_63, k_74, k_75, k_84, k_90, k_97, k_99, k_100, k_122, k_200, k_255, k_420, k_448, k_720, k_800, k_999, k_bit, k_shl, fa_and, nI_add, bl_1, bl_0, bl_n1, bl_n0, bl_i1, nI_lt0, nI_0le, nI_eq0, nI_eqT, nI_leI, nI_ltI, nI_eq, Nat.not_le, Nat.not_lt, Bool.not_eq_true, Bool.not_eq_false, not_true_eq_false, not_false_eq_true, Decidable.not_not] at cq
          omega
        · refine g_run 1 rfl ?_
          refine g_get hv 0 rfl rfl rfl rfl ?_
          refine g_run 2 rfl ?_
          refine g_get hv 0 rfl rfl rfl rfl ?_
          refine g_run 3 rfl ?_
          rw [show nI k + (Int8.ofInt 28).toInt32 = nI (k + 28) by rw [k_28, nI_add]]
          refine g_vI (L := 448) hv 2 (k := k + 28) (by omega) (by decide) rfl rfl ?_
          rw [show mix k P (fun y => P (y + 28)) (k + 28) = P (k + 28) from if_neg (by omega)]
          refine g_vIs (L := 448) hv 2 (k := k) (by omega) (by decide) rfl rfl (fun h hv => ?_)
          rw [show upd (mix k P (fun y => P (y + 28))) k (P (k + 28)) = mix (k + 1) P (fun y => P (y + 28)) from upd_mix (f' := fun y => P (y + 28))] at hv
          refine g_run 2 rfl ?_
          have hnx := ih (k + 1) h (by omega) hv
          rw [nI_succ] at hnx
          exact hnx
    refine g_run 2 rfl ?_
    exact loop 420 0 h0 (by omega) (by rw [mix_0]; exact hv)
variable (D : Nat → Nat) (hi er se : Int32)
theorem s_Mmarry (a k : Nat) (ha : a ≤ 16) (hk : k < D 1) (hn : D 1 ≤ 6) (hne : ¬ V k = 1) : mj_Sx sta (d + 3) 268 [.ref 151, (.int (nI k))] [(mo th tr wh (some q) rd F wd (nI a) im lw tk st sh ru rz aw al sd), mdh q D hi er se, (153, aI 28 V), (154, aI 448 P)] (fun v w => v = some (.int (bl true)) ∧ w = [(mo 0 0 (-1) (some q) rd F wd (nI (min (a + 1) 16)) im lw tk st sh ru rz aw al sd), mdh q D hi er se, (153, aI 28 (upd V k 1)), (154, aI 448 (remP a V P))]) := by
  refine mj_Sx.mk m_X10_marry (by decide) n_X10_marry rfl (fun h0 hv => ?_)
  generalize hT : mj_rx m_X10_marry h0 _ _ = T
  repeat (first | refine g_px rfl rfl rfl ?_)
  refine g_put hv 0 rfl rfl rfl rfl rfl rfl (fun h hv => ?_)
  have hv : mj_Vw h0 ([(mo 0 tr wh (some q) rd F wd (nI a) im lw tk st sh ru rz aw al sd), mdh q D hi er se, (153, aI 28 V), (154, aI 448 P)]) h := hv
  repeat (first | refine g_px rfl rfl rfl ?_)
  refine g_callV hv [0, 1] 0 rfl rfl rfl rfl rfl rfl rfl rfl (by decide) (s_MisMan sta (d + 1) 0 tr wh q rd F wd (nI a) im lw tk st sh ru rz aw al sd D hi er se (nI k) hn) (fun v w' h hp hk2 hv => ?_)
  obtain ⟨rfl, rfl⟩ := hp
  rw [inR_k hk (by omega)]
  have hv : mj_Vw h0 ([(mo 0 tr wh (some q) rd F wd (nI a) im lw tk st sh ru rz aw al sd), mdh q D hi er se, (153, aI 28 V), (154, aI 448 P)]) h := hv
  refine g_if rfl (fun cq => ?_) (fun cq => absurd (show ¬ bl true = 0 by decide) cq)
  repeat (first | refine g_px rfl rfl rfl ?_ | refine g_get hv 0 rfl rfl rfl rfl ?_)
  rw [z_add]
  refine g_vI (L := 28) hv 2 (k := k) (by omega) (by decide) rfl rfl ?_
  repeat (first | refine g_px rfl rfl rfl ?_)
  refine g_ic rfl (fun cq => ?_) (fun cq => absurd hne cq)
  repeat (first | refine g_px rfl rfl rfl ?_)
  refine g_callV hv [0, 2, 3] 0 rfl rfl rfl rfl rfl rfl rfl rfl (by decide) (s_Mremembers sta (d + 1) 0 tr wh (some q) rd F wd im lw tk st sh ru rz aw al sd V P a ha) (fun v w' h hp hk2 hv => ?_)
  obtain ⟨rfl, rfl⟩ := hp
  have hv : mj_Vw h0 ([(mo 0 tr wh (some q) rd F wd (nI (min (a + 1) 16)) im lw tk st sh ru rz aw al sd), mdh q D hi er se, (153, aI 28 V), (154, aI 448 (remP a V P))]) h := hv
  repeat (first | refine g_px rfl rfl rfl ?_ | refine g_get hv 0 rfl rfl rfl rfl ?_)
  rw [z_add]
  refine g_vIs (L := 28) hv 2 (k := k) (by omega) (by decide) rfl rfl (fun h hv => ?_)
  have hv : mj_Vw h0 ([(mo 0 tr wh (some q) rd F wd (nI (min (a + 1) 16)) im lw tk st sh ru rz aw al sd), mdh q D hi er se, (153, aI 28 (upd V k 1)), (154, aI 448 (remP a V P))]) h := hv
  repeat (first | refine g_px rfl rfl rfl ?_)
  refine g_callV hv [0] 0 rfl rfl rfl rfl rfl rfl rfl rfl (by decide) (s_Mgranted sta d 0 tr wh (some q) rd F wd (nI (min (a + 1) 16)) im lw tk st sh ru rz aw al sd) (fun v w' h hp hk2 hv => ?_)
  obtain ⟨rfl, rfl⟩ := hp
  subst hT
  exact g_iret hv rfl rfl rfl rfl ⟨rfl, rfl⟩
theorem s_Mmarry_5 (k : Nat) (hk : k < D 1) (hn : D 1 ≤ 6) (he : V k = 1) : mj_Sx sta (d + 3) 268 [.ref 151, (.int (nI k))] [(mo th tr wh (some q) rd F wd ac im lw tk st sh ru rz aw al sd), mdh q D hi er se, (153, aI 28 V)] (fun v w => v = some (.int (bl false)) ∧ w = [(mo 0 5 (-1) (some q) rd F wd ac im lw tk st sh ru rz aw al sd), mdh q D hi er se, (153, aI 28 V)]) := by
  refine mj_Sx.mk m_X10_marry (by decide) n_X10_marry rfl (fun h0 hv => ?_)
  generalize hT : mj_rx m_X10_marry h0 _ _ = T
  repeat (first | refine g_px rfl rfl rfl ?_)
  refine g_put hv 0 rfl rfl rfl rfl rfl rfl (fun h hv => ?_)
  have hv : mj_Vw h0 ([(mo 0 tr wh (some q) rd F wd ac im lw tk st sh ru rz aw al sd), mdh q D hi er se, (153, aI 28 V)]) h := hv
  repeat (first | refine g_px rfl rfl rfl ?_)
  refine g_callV hv [0, 1] 0 rfl rfl rfl rfl rfl rfl rfl rfl (by decide) (s_MisMan sta (d + 1) 0 tr wh q rd F wd ac im lw tk st sh ru rz aw al sd D hi er se (nI k) hn) (fun v w' h hp hk2 hv => ?_)
  obtain ⟨rfl, rfl⟩ := hp
  rw [inR_k hk (by omega)]
  have hv : mj_Vw h0 ([(mo 0 tr wh (some q) rd F wd ac im lw tk st sh ru rz aw al sd), mdh q D hi er se, (153, aI 28 V)]) h := hv
  refine g_if rfl (fun cq => ?_) (fun cq => absurd (show ¬ bl true = 0 by decide) cq)
  repeat (first | refine g_px rfl rfl rfl ?_ | refine g_get hv 0 rfl rfl rfl rfl ?_)
  rw [z_add]
  refine g_vI (L := 28) hv 2 (k := k) (by omega) (by decide) rfl rfl ?_
  rw [he]
  repeat (first | refine g_px rfl rfl rfl ?_)
  refine g_ic rfl (fun cq => absurd cq (cpF (by decide))) (fun cq => ?_)
  repeat (first | refine g_px rfl rfl rfl ?_)
  refine g_callV hv [0] 0 rfl rfl rfl rfl rfl rfl rfl rfl (by decide) (s_Mdenied sta d 0 tr wh (some q) rd F wd ac im lw tk st sh ru rz aw al sd _) (fun v w' h hp hk2 hv => ?_)
  obtain ⟨rfl, rfl⟩ := hp
  subst hT
  exact g_iret hv rfl rfl rfl rfl ⟨rfl, rfl⟩
theorem s_Mspare (a k L : Nat) (is : Bool) (ha : a ≤ 16) (hk : k < 4) (hL : V 25 = nI L) (hL6 : L < 16) (hne : ¬ L.testBit k = is) : mj_Sx sta (d + 3) 269 [.ref 151, (.int (nI k)), .int (bl is)] [(mo th tr wh (some q) rd F wd (nI a) im lw tk st sh ru rz aw al sd), (153, aI 28 V), (154, aI 448 P)] (fun v w => v = some (.int (bl true)) ∧ w = [(mo 0 0 (-1) (some q) rd F wd (nI (min (a + 1) 16)) im lw tk st sh ru rz aw al sd), (153, aI 28 (upd V 25 (nI (L ^^^ 2 ^ k)))), (154, aI 448 (remP a V P))]) := by
  refine mj_Sx.mk m_X10_spare (by decide) n_X10_spare rfl (fun h0 hv => ?_)
  generalize hT : mj_rx m_X10_spare h0 _ _ = T
  repeat (first | refine g_px rfl rfl rfl ?_)
  refine g_put hv 0 rfl rfl rfl rfl rfl rfl (fun h hv => ?_)
  have hv : mj_Vw h0 ([(mo 0 tr wh (some q) rd F wd (nI a) im lw tk st sh ru rz aw al sd), (153, aI 28 V), (154, aI 448 P)]) h := hv
  repeat (first | refine g_px rfl rfl rfl ?_ | refine g_get hv 0 rfl rfl rfl rfl ?_)
  refine g_callS hv [] rfl rfl rfl rfl rfl rfl rfl (by decide) (s_Min sta (d + 1) (nI k) _ _) (fun v w' h hp hk2 hv => ?_)
  obtain ⟨rfl, rfl⟩ := hp
  rw [show (decide (Int32.ofInt 0 ≤ nI k) && decide (nI k ≤ Int32.ofInt 3)) = inR 4 (nI k) from in_R 3 (by decide) (nI k), inR_k hk (by decide)]
  have hv : mj_Vw h0 ([(mo 0 tr wh (some q) rd F wd (nI a) im lw tk st sh ru rz aw al sd), (153, aI 28 V), (154, aI 448 P)]) h := hv
  refine g_if rfl (fun cq => ?_) (fun cq => absurd (show ¬ bl true = 0 by decide) cq)
  repeat (first | refine g_px rfl rfl rfl ?_ | refine g_get hv 0 rfl rfl rfl rfl ?_)
  refine g_vI (L := 28) hv 1 (k := 25) (by decide) (by decide) rfl rfl ?_
  rw [hL]
  repeat (first | refine g_px rfl rfl rfl ?_)
  refine g_callS hv [] rfl rfl rfl rfl rfl rfl rfl (by decide) (s_Mbit sta (d + 1) L k (by omega) (by omega)) (fun v w' h hp hk2 hv => ?_)
  obtain ⟨rfl, rfl⟩ := hp
  have hv : mj_Vw h0 ([(mo 0 tr wh (some q) rd F wd (nI a) im lw tk st sh ru rz aw al sd), (153, aI 28 V), (154, aI 448 P)]) h := hv
  repeat (first | refine g_px rfl rfl rfl ?_)
  refine g_ic rfl (fun cq => ?_) (fun cq => absurd (fun z : bl (L.testBit k) = bl is => hne (by revert z; cases L.testBit k <;> cases is <;> decide)) cq)
  repeat (first | refine g_px rfl rfl rfl ?_)
  refine g_callV hv [0, 1, 2] 0 rfl rfl rfl rfl rfl rfl rfl rfl (by decide) (s_Mremembers sta (d + 1) 0 tr wh (some q) rd F wd im lw tk st sh ru rz aw al sd V P a ha) (fun v w' h hp hk2 hv => ?_)
  obtain ⟨rfl, rfl⟩ := hp
  have hv : mj_Vw h0 ([(mo 0 tr wh (some q) rd F wd (nI (min (a + 1) 16)) im lw tk st sh ru rz aw al sd), (153, aI 28 V), (154, aI 448 (remP a V P))]) h := hv
  repeat (first | refine g_px rfl rfl rfl ?_ | refine g_get hv 0 rfl rfl rfl rfl ?_)
  refine g_vI (L := 28) hv 1 (k := 25) (by decide) (by decide) rfl rfl ?_
  rw [hL]
  refine g_run 3 rfl ?_
  rw [k_shl (show k < 31 by omega)]
  refine g_run 1 rfl ?_
  rw [fb_xorI]
  refine g_vIs (L := 28) hv 1 (k := 25) (by decide) (by decide) rfl rfl (fun h hv => ?_)
  have hv : mj_Vw h0 ([(mo 0 tr wh (some q) rd F wd (nI (min (a + 1) 16)) im lw tk st sh ru rz aw al sd), (153, aI 28 (upd V 25 (nI (L ^^^ 2 ^ k)))), (154, aI 448 (remP a V P))]) h := hv
  repeat (first | refine g_px rfl rfl rfl ?_)
  refine g_callV hv [0] 0 rfl rfl rfl rfl rfl rfl rfl rfl (by decide) (s_Mgranted sta d 0 tr wh (some q) rd F wd (nI (min (a + 1) 16)) im lw tk st sh ru rz aw al sd) (fun v w' h hp hk2 hv => ?_)
  obtain ⟨rfl, rfl⟩ := hp
  subst hT
  exact g_iret hv rfl rfl rfl rfl ⟨rfl, rfl⟩
theorem s_Mspare_5 (k L : Nat) (is : Bool) (hk : k < 4) (hL : V 25 = nI L) (hL6 : L < 16) (he : L.testBit k = is) : mj_Sx sta (d + 3) 269 [.ref 151, (.int (nI k)), .int (bl is)] [(mo th tr wh (some q) rd F wd ac im lw tk st sh ru rz aw al sd), (153, aI 28 V)] (fun v w => v = some (.int (bl false)) ∧ w = [(mo 0 5 (-1) (some q) rd F wd ac im lw tk st sh ru rz aw al sd), (153, aI 28 V)]) := by
  refine mj_Sx.mk m_X10_spare (by decide) n_X10_spare rfl (fun h0 hv => ?_)
  generalize hT : mj_rx m_X10_spare h0 _ _ = T
  repeat (first | refine g_px rfl rfl rfl ?_)
  refine g_put hv 0 rfl rfl rfl rfl rfl rfl (fun h hv => ?_)
  have hv : mj_Vw h0 ([(mo 0 tr wh (some q) rd F wd ac im lw tk st sh ru rz aw al sd), (153, aI 28 V)]) h := hv
  repeat (first | refine g_px rfl rfl rfl ?_ | refine g_get hv 0 rfl rfl rfl rfl ?_)
  refine g_callS hv [] rfl rfl rfl rfl rfl rfl rfl (by decide) (s_Min sta (d + 1) (nI k) _ _) (fun v w' h hp hk2 hv => ?_)
  obtain ⟨rfl, rfl⟩ := hp
  rw [show (decide (Int32.ofInt 0 ≤ nI k) && decide (nI k ≤ Int32.ofInt 3)) = inR 4 (nI k) from in_R 3 (by decide) (nI k), inR_k hk (by decide)]
  have hv : mj_Vw h0 ([(mo 0 tr wh (some q) rd F wd ac im lw tk st sh ru rz aw al sd), (153, aI 28 V)]) h := hv
  refine g_if rfl (fun cq => ?_) (fun cq => absurd (show ¬ bl true = 0 by decide) cq)
  repeat (first | refine g_px rfl rfl rfl ?_ | refine g_get hv 0 rfl rfl rfl rfl ?_)
  refine g_vI (L := 28) hv 1 (k := 25) (by decide) (by decide) rfl rfl ?_
  rw [hL]
  repeat (first | refine g_px rfl rfl rfl ?_)
  refine g_callS hv [] rfl rfl rfl rfl rfl rfl rfl (by decide) (s_Mbit sta (d + 1) L k (by omega) (by omega)) (fun v w' h hp hk2 hv => ?_)
  obtain ⟨rfl, rfl⟩ := hp
  have hv : mj_Vw h0 ([(mo 0 tr wh (some q) rd F wd ac im lw tk st sh ru rz aw al sd), (153, aI 28 V)]) h := hv
  rw [he]
  repeat (first | refine g_px rfl rfl rfl ?_)
  refine g_ic rfl (fun cq => absurd rfl cq) (fun cq => ?_)
  repeat (first | refine g_px rfl rfl rfl ?_)
  refine g_callV hv [0] 0 rfl rfl rfl rfl rfl rfl rfl rfl (by decide) (s_Mdenied sta d 0 tr wh (some q) rd F wd ac im lw tk st sh ru rz aw al sd _) (fun v w' h hp hk2 hv => ?_)
  obtain ⟨rfl, rfl⟩ := hp
  subst hT
  exact g_iret hv rfl rfl rfl rfl ⟨rfl, rfl⟩
theorem s_Mdesert (a k y : Nat) (ha : a ≤ 16) (hk : k < D 1) (hn : D 1 ≤ 6) (hy : V (18 + k) = nI y) (hy6 : y < 6) : mj_Sx sta (d + 2) 271 [.ref 151, (.int (nI k))] [(mo th tr wh (some q) rd F wd (nI a) im lw tk st sh ru rz aw al sd), mdh q D hi er se, (153, aI 28 V), (154, aI 448 P)] (fun v w => v = some (.int (nI y)) ∧ w = [(mo 0 0 (-1) (some q) rd F wd (nI (min (a + 1) 16)) im lw tk st sh ru rz aw al sd), mdh q D hi er se, (153, aI 28 (upd V (18 + k) (-2))), (154, aI 448 (remP a V P))]) := by
  refine mj_Sx.mk m_X10_desert (by decide) n_X10_desert rfl (fun h0 hv => ?_)
  generalize hT : mj_rx m_X10_desert h0 _ _ = T
  repeat (first | refine g_px rfl rfl rfl ?_)
  refine g_put hv 0 rfl rfl rfl rfl rfl rfl (fun h hv => ?_)
  have hv : mj_Vw h0 ([(mo 0 tr wh (some q) rd F wd (nI a) im lw tk st sh ru rz aw al sd), mdh q D hi er se, (153, aI 28 V), (154, aI 448 P)]) h := hv
  repeat (first | refine g_px rfl rfl rfl ?_)
  refine g_callV hv [0, 1] 0 rfl rfl rfl rfl rfl rfl rfl rfl (by decide) (s_MisMan sta d 0 tr wh q rd F wd (nI a) im lw tk st sh ru rz aw al sd D hi er se (nI k) hn) (fun v w' h hp hk2 hv => ?_)
  obtain ⟨rfl, rfl⟩ := hp
  rw [inR_k hk (by omega)]
  have hv : mj_Vw h0 ([(mo 0 tr wh (some q) rd F wd (nI a) im lw tk st sh ru rz aw al sd), mdh q D hi er se, (153, aI 28 V), (154, aI 448 P)]) h := hv
  refine g_if rfl (fun cq => ?_) (fun cq => absurd (show ¬ bl true = 0 by decide) cq)
  repeat (first | refine g_px rfl rfl rfl ?_ | refine g_get hv 0 rfl rfl rfl rfl ?_)
  rw [show (Int8.ofInt 18).toInt32 + nI k = nI (18 + k) from nI_add 18 k]
  refine g_vI (L := 28) hv 2 (k := 18 + k) (by omega) (by decide) rfl rfl ?_
  rw [hy]
  repeat (first | refine g_px rfl rfl rfl ?_)
  refine g_ic rfl (fun cq => ?_) (fun cq => absurd (fun z => by have := (snd_n2 (o := some y) (fun x hx => by cases hx; omega)).mp z; cases this) cq)
  repeat (first | refine g_px rfl rfl rfl ?_)
  refine g_callV hv [0, 2, 3] 0 rfl rfl rfl rfl rfl rfl rfl rfl (by decide) (s_Mremembers sta d 0 tr wh (some q) rd F wd im lw tk st sh ru rz aw al sd V P a ha) (fun v w' h hp hk2 hv => ?_)
  obtain ⟨rfl, rfl⟩ := hp
  have hv : mj_Vw h0 ([(mo 0 tr wh (some q) rd F wd (nI (min (a + 1) 16)) im lw tk st sh ru rz aw al sd), mdh q D hi er se, (153, aI 28 V), (154, aI 448 (remP a V P))]) h := hv
  repeat (first | refine g_px rfl rfl rfl ?_ | refine g_get hv 0 rfl rfl rfl rfl ?_)
  rw [show (Int8.ofInt 18).toInt32 + nI k = nI (18 + k) from nI_add 18 k]
  refine g_vI (L := 28) hv 2 (k := 18 + k) (by omega) (by decide) rfl rfl ?_
  rw [hy]
  repeat (first | refine g_px rfl rfl rfl ?_ | refine g_get hv 0 rfl rfl rfl rfl ?_)
  rw [show (Int8.ofInt 18).toInt32 + nI k = nI (18 + k) from nI_add 18 k]
  refine g_vIs (L := 28) hv 2 (k := 18 + k) (by omega) (by decide) rfl rfl (fun h hv => ?_)
  have hv : mj_Vw h0 ([(mo 0 tr wh (some q) rd F wd (nI (min (a + 1) 16)) im lw tk st sh ru rz aw al sd), mdh q D hi er se, (153, aI 28 (upd V (18 + k) (-2))), (154, aI 448 (remP a V P))]) h := hv
  repeat (first | refine g_px rfl rfl rfl ?_)
  refine g_callV hv [0] 0 rfl rfl rfl rfl rfl rfl rfl rfl (by decide) (s_Mgood sta d 0 tr wh (some q) rd F wd (nI (min (a + 1) 16)) im lw tk st sh ru rz aw al sd _) (fun v w' h hp hk2 hv => ?_)
  obtain ⟨rfl, rfl⟩ := hp
  subst hT
  exact g_iret hv rfl rfl rfl rfl ⟨rfl, rfl⟩
theorem s_Mdesert_5 (k : Nat) (hk : k < D 1) (hn : D 1 ≤ 6) (hy : V (18 + k) = -2) : mj_Sx sta (d + 2) 271 [.ref 151, (.int (nI k))] [(mo th tr wh (some q) rd F wd ac im lw tk st sh ru rz aw al sd), mdh q D hi er se, (153, aI 28 V)] (fun v w => v = some (.int (-1)) ∧ w = [(mo 0 5 (-1) (some q) rd F wd ac im lw tk st sh ru rz aw al sd), mdh q D hi er se, (153, aI 28 V)]) := by
  refine mj_Sx.mk m_X10_desert (by decide) n_X10_desert rfl (fun h0 hv => ?_)
  generalize hT : mj_rx m_X10_desert h0 _ _ = T
  repeat (first | refine g_px rfl rfl rfl ?_)
  refine g_put hv 0 rfl rfl rfl rfl rfl rfl (fun h hv => ?_)
  have hv : mj_Vw h0 ([(mo 0 tr wh (some q) rd F wd ac im lw tk st sh ru rz aw al sd), mdh q D hi er se, (153, aI 28 V)]) h := hv
  repeat (first | refine g_px rfl rfl rfl ?_)
  refine g_callV hv [0, 1] 0 rfl rfl rfl rfl rfl rfl rfl rfl (by decide) (s_MisMan sta d 0 tr wh q rd F wd ac im lw tk st sh ru rz aw al sd D hi er se (nI k) hn) (fun v w' h hp hk2 hv => ?_)
  obtain ⟨rfl, rfl⟩ := hp
  rw [inR_k hk (by omega)]
  have hv : mj_Vw h0 ([(mo 0 tr wh (some q) rd F wd ac im lw tk st sh ru rz aw al sd), mdh q D hi er se, (153, aI 28 V)]) h := hv
  refine g_if rfl (fun cq => ?_) (fun cq => absurd (show ¬ bl true = 0 by decide) cq)
  repeat (first | refine g_px rfl rfl rfl ?_ | refine g_get hv 0 rfl rfl rfl rfl ?_)
  rw [show (Int8.ofInt 18).toInt32 + nI k = nI (18 + k) from nI_add 18 k]
  refine g_vI (L := 28) hv 2 (k := 18 + k) (by omega) (by decide) rfl rfl ?_
  rw [hy]
  repeat (first | refine g_px rfl rfl rfl ?_)
  refine g_ic rfl (fun cq => absurd cq (cpF (by decide))) (fun cq => ?_)
  repeat (first | refine g_px rfl rfl rfl ?_)
  refine g_callV hv [0] 0 rfl rfl rfl rfl rfl rfl rfl rfl (by decide) (s_Mrefused sta d 0 tr wh (some q) rd F wd ac im lw tk st sh ru rz aw al sd _) (fun v w' h hp hk2 hv => ?_)
  obtain ⟨rfl, rfl⟩ := hp
  subst hT
  exact g_iret hv rfl rfl rfl rfl ⟨rfl, rfl⟩
def mfte (n T : Nat) (FR : Nat → Option Nat) (m : Nat) : Nat := if (FR m).isSome then 3 else if T.testBit m then (if (sdr FR m n 0).isSome then 2 else 1) else 0
theorem s_MfateOf (k t : Nat) (FR : Nat → Option Nat) (hk : k < D 1) (hn : D 1 ≤ 6) (h24 : V 24 = nI t) (ht : t < 64) (hF : ∀ i, i < 6 → V (18 + i) = snd (FR i)) (hF6 : gok FR) : mj_Sx sta (d + 2) 272 [.ref 151, (.int (nI k))] [(mo th tr wh (some q) rd F wd ac im lw tk st sh ru rz aw al sd), mdh q D hi er se, (153, aI 28 V)] (fun v w => v = some (.int (nI (mfte (D 1) t FR k))) ∧ w = [(mo th tr wh (some q) rd F wd ac im lw tk st sh ru rz aw al sd), mdh q D hi er se, (153, aI 28 V)]) := by
  generalize hTT : t = t' at *
  clear hTT
  refine mj_Sx.mk m_X10_fateOf (by decide) n_X10_fateOf rfl (fun h0 hv => ?_)
  generalize hT : mj_rx m_X10_fateOf h0 _ _ = T
  repeat (first | refine g_px rfl rfl rfl ?_ | refine g_get hv 0 rfl rfl rfl rfl ?_)
  rw [show (Int8.ofInt 18).toInt32 + nI k = nI (18 + k) from nI_add 18 k]
  refine g_vI (L := 28) hv 2 (k := 18 + k) (by omega) (by decide) rfl rfl ?_
  rw [hF k (by omega)]
  repeat (first | refine g_px rfl rfl rfl ?_)
  refine g_ic rfl (fun cq => ?_) (fun cq => ?_)
  · have cq : snd (FR k) = (Int8.ofInt (-2)).toInt32 := cq
    rw [snd_n2 (fun x hx => by have := hF6 k x hx; omega)] at cq
    have hno := cq
    repeat (first | refine g_px rfl rfl rfl ?_ | refine g_get hv 0 rfl rfl rfl rfl ?_)
    refine g_vI (L := 28) hv 2 (k := 24) (by decide) (by decide) rfl rfl ?_
    rw [h24]
    repeat (first | refine g_px rfl rfl rfl ?_)
    refine g_callS hv [] rfl rfl rfl rfl rfl rfl rfl (by decide) (s_Mbit sta d t' k (by omega) (by omega)) (fun v w' h hp hk2 hv => ?_)
    obtain ⟨rfl, rfl⟩ := hp
    have hv : mj_Vw h0 ([(mo th tr wh (some q) rd F wd ac im lw tk st sh ru rz aw al sd), mdh q D hi er se, (153, aI 28 V)]) h := hv
    refine g_if rfl (fun cq => ?_) (fun cq => ?_)
    · have cq : ¬ bl (t'.testBit k) = 0 := cq
      rw [bl_0, Bool.not_eq_false] at cq
      have hb := cq
      have loop : ∀ j m h, m + j = D 1 → sdr FR k j m = sdr FR k (D 1) 0 → mj_Vw h0 [(mo th tr wh (some q) rd F wd ac im lw tk st sh ru rz aw al sd), mdh q D hi er se, (153, aI 28 V)] h → mj_go sta (mj_Cl sta (d + 1)) m_X10_fateOf T 34 [some (.ref 151), some (.int (nI k)), some (.int (nI m))] [] h := by
        intro j
        induction j with
        | zero =>
          intro m h hm he hv
          repeat (first | refine g_px rfl rfl rfl ?_ | refine g_get hv 0 rfl rfl rfl rfl ?_ | refine g_get hv 1 rfl rfl rfl rfl ?_)
          refine g_ic rfl (fun cq => ?_) (fun cq => ?_)
          · repeat (first | refine g_px rfl rfl rfl ?_)
            subst hT
            refine g_iret hv rfl rfl rfl rfl ?_
            exact ⟨by rw [mfte, hno, hb, ← he]; rfl, rfl⟩
          · simp (disch := omega) only [mj_cp, k_6, k_7, k_8, k_9, k_10, k_12, k_15, k_16, k_18, k_20, k_24, k_25, k_26, k_27, k_28, k_32, k_36, k_48, k_57, k_59, k_63, k_74, k_75, k_84, k_90, k_97, k_99, k_100, k_122, k_200, k_255, k_420, k_448, k_720, k_800, k_999, k_bit, k_shl, fa_and, nI_add, bl_1, bl_0, bl_n1, bl_n0, bl_i1, nI_lt0, nI_0le, nI_eq0, nI_eqT, nI_leI, nI_ltI, nI_eq, Nat.not_le, Nat.not_lt, Bool.not_eq_true, Bool.not_eq_false, not_true_eq_false, not_false_eq_true, Decidable.not_not] at cq
            omega
        | succ j ih =>
          intro m h hm he hv
          rw [sdr] at he
          repeat (first | refine g_px rfl rfl rfl ?_ | refine g_get hv 0 rfl rfl rfl rfl ?_ | refine g_get hv 1 rfl rfl rfl rfl ?_)
          refine g_ic rfl (fun cq => ?_) (fun cq => ?_)
          · simp (disch := omega) only [mj_cp, k_6, k_7, k_8, k_9, k_10, k_12, k_15, k_16, k_18, k_20, k_24, k_25, k_26, k_27, k_28, k_32, k_36, k_48, k_57, k_59, k_63, k_74, k_75, k_84, k_90, k_97, k_99, k_100, k_122, k_200, k_255, k_420, k_448, k_720, k_800, k_999, k_bit, k_shl, fa_and, nI_add, bl_1, bl_0, bl_n1, bl_n0, bl_i1, nI_lt0, nI_0le, nI_eq0, nI_eqT, nI_leI, nI_ltI, nI_eq, Nat.not_le, Nat.not_lt, Bool.not_eq_true, Bool.not_eq_false, not_true_eq_false, not_false_eq_true, Decidable.not_not] at cq
            omega
          · repeat (first | refine g_px rfl rfl rfl ?_ | refine g_get hv 0 rfl rfl rfl rfl ?_)
            rw [show (Int8.ofInt 18).toInt32 + nI m = nI (18 + m) from nI_add 18 m]
            refine g_vI (L := 28) hv 2 (k := 18 + m) (by omega) (by decide) rfl rfl ?_
            rw [hF m (by omega)]
            repeat (first | refine g_px rfl rfl rfl ?_)
            refine g_ic rfl (fun cq => ?_) (fun cq => ?_)
            · have cq : ¬ snd (FR m) = nI k := cq
              rw [snd_eq (by omega) (fun x hx => by have := hF6 m x hx; omega)] at cq
              rw [if_neg (by simpa using cq)] at he
              refine g_run 2 rfl ?_
              have hnx := ih (m + 1) h (by omega) he hv
              rw [nI_succ] at hnx
              exact hnx
            · have cq : ¬ ¬ snd (FR m) = nI k := cq
              rw [snd_eq (by omega) (fun x hx => by have := hF6 m x hx; omega), Decidable.not_not] at cq
              rw [if_pos (by simpa using cq)] at he
              repeat (first | refine g_px rfl rfl rfl ?_)
              subst hT
              refine g_iret hv rfl rfl rfl rfl ?_
              exact ⟨by rw [mfte, hno, hb, ← he]; rfl, rfl⟩
      refine g_run 2 rfl ?_
      exact loop (D 1) 0 h (by omega) rfl hv
    · have cq : ¬ ¬ bl (t'.testBit k) = 0 := cq
      rw [bl_0, Decidable.not_not] at cq
      repeat (first | refine g_px rfl rfl rfl ?_)
      subst hT
      refine g_iret hv rfl rfl rfl rfl ?_
      exact ⟨by rw [mfte, hno, cq]; rfl, rfl⟩
  · have cq : ¬ snd (FR k) = (Int8.ofInt (-2)).toInt32 := cq
    rw [snd_n2 (fun x hx => by have := hF6 k x hx; omega)] at cq
    repeat (first | refine g_px rfl rfl rfl ?_)
    subst hT
    refine g_iret hv rfl rfl rfl rfl ?_
    refine ⟨?_, rfl⟩
    cases e : FR k with
    | none => exact absurd e cq
    | some x =>
      rw [mfte, e]
      rfl
theorem s_Mfate (k t : Nat) (FR : Nat → Option Nat) (hk : k < D 1) (hn : D 1 ≤ 6) (h24 : V 24 = nI t) (ht : t < 64) (hF : ∀ i, i < 6 → V (18 + i) = snd (FR i)) (hF6 : gok FR) : mj_Sx sta (d + 3) 273 [.ref 151, (.int (nI k))] [(mo th tr wh (some q) rd F wd ac im lw tk st sh ru rz aw al sd), mdh q D hi er se, (153, aI 28 V)] (fun v w => v = some (.int (nI (mfte (D 1) t FR k))) ∧ w = [(mo 0 0 (-1) (some q) rd F wd ac im lw tk st sh ru rz aw al sd), mdh q D hi er se, (153, aI 28 V)]) := by
  generalize hTT : t = t' at *
  clear hTT
  refine mj_Sx.mk m_X10_fate (by decide) n_X10_fate rfl (fun h0 hv => ?_)
  generalize hT : mj_rx m_X10_fate h0 _ _ = T
  repeat (first | refine g_px rfl rfl rfl ?_)
  refine g_put hv 0 rfl rfl rfl rfl rfl rfl (fun h hv => ?_)
  have hv : mj_Vw h0 ([(mo 0 tr wh (some q) rd F wd ac im lw tk st sh ru rz aw al sd), mdh q D hi er se, (153, aI 28 V)]) h := hv
  repeat (first | refine g_px rfl rfl rfl ?_)
  refine g_callV hv [0, 1] 0 rfl rfl rfl rfl rfl rfl rfl rfl (by decide) (s_MisMan sta (d + 1) 0 tr wh q rd F wd ac im lw tk st sh ru rz aw al sd D hi er se (nI k) hn) (fun v w' h hp hk2 hv => ?_)
  obtain ⟨rfl, rfl⟩ := hp
  rw [inR_k hk (by omega)]
  have hv : mj_Vw h0 ([(mo 0 tr wh (some q) rd F wd ac im lw tk st sh ru rz aw al sd), mdh q D hi er se, (153, aI 28 V)]) h := hv
  refine g_if rfl (fun cq => absurd cq (show ¬ bl true = 0 by decide)) (fun cq => ?_)
  repeat (first | refine g_px rfl rfl rfl ?_)
  refine g_callV hv [0, 1, 2] 0 rfl rfl rfl rfl rfl rfl rfl rfl (by decide) (s_MfateOf sta d 0 tr wh q rd F wd ac im lw tk st sh ru rz aw al sd V D hi er se k t' FR hk hn h24 ht hF hF6) (fun v w' h hp hk2 hv => ?_)
  obtain ⟨rfl, rfl⟩ := hp
  have hv : mj_Vw h0 ([(mo 0 tr wh (some q) rd F wd ac im lw tk st sh ru rz aw al sd), mdh q D hi er se, (153, aI 28 V)]) h := hv
  refine g_callV hv [0] 0 rfl rfl rfl rfl rfl rfl rfl rfl (by decide) (s_Mgood sta (d + 1) 0 tr wh (some q) rd F wd ac im lw tk st sh ru rz aw al sd _) (fun v w' h hp hk2 hv => ?_)
  obtain ⟨rfl, rfl⟩ := hp
  repeat (first | refine g_px rfl rfl rfl ?_)
  subst hT
  exact g_iret hv rfl rfl rfl rfl ⟨rfl, rfl⟩
theorem s_Mundo (a : Nat) (ha : a < 16) : mj_Sx sta (d + 3) 276 [.ref 151] [(mo th tr wh (some q) rd F wd (nI (a + 1)) im lw tk st sh ru rz aw al sd), (153, aI 28 V), (154, aI 448 P)] (fun v w => v = some (.int (bl true)) ∧ w = [(mo 0 0 (-1) (some q) rd F wd (nI a) im lw tk st sh ru rz aw al sd), (153, aI 28 (mix 28 V (fun k => P (28 * a + k)))), (154, aI 448 P)]) := by
  refine mj_Sx.mk m_X10_undo (by decide) n_X10_undo rfl (fun h0 hv => ?_)
  generalize hT : mj_rx m_X10_undo h0 _ _ = T
  repeat (first | refine g_px rfl rfl rfl ?_)
  refine g_put hv 0 rfl rfl rfl rfl rfl rfl (fun h hv => ?_)
  have hv : mj_Vw h0 ([(mo 0 tr wh (some q) rd F wd (nI (a + 1)) im lw tk st sh ru rz aw al sd), (153, aI 28 V), (154, aI 448 P)]) h := hv
  repeat (first | refine g_px rfl rfl rfl ?_ | refine g_get hv 0 rfl rfl rfl rfl ?_)
  refine g_if rfl (fun cq => ?_) (fun cq => absurd (nI_ne0 (by omega) (by omega)) cq)
  refine g_run 2 rfl ?_
  refine g_get hv 0 rfl rfl rfl rfl ?_
  refine g_run 2 rfl ?_
  rw [show nI (a + 1) - Int32.ofInt 1 = nI a from nI_pred a]
  refine g_put hv 0 rfl rfl rfl rfl rfl rfl (fun h hv => ?_)
  have hv : mj_Vw h0 ([(mo 0 tr wh (some q) rd F wd (nI a) im lw tk st sh ru rz aw al sd), (153, aI 28 V), (154, aI 448 P)]) h := hv
  have loop : ∀ j k h, k + j = 28 → mj_Vw h0 [(mo 0 tr wh (some q) rd F wd (nI a) im lw tk st sh ru rz aw al sd), (153, aI 28 (mix k V (fun k => P (28 * a + k)))), (154, aI 448 P)] h → mj_go sta (mj_Cl sta (d + 2)) m_X10_undo T 38 [some (.ref 151), some (.int (nI k))] [] h := by
    intro j
    induction j with
    | zero =>
      intro k h hk hv
      have hk : k = 28 := by omega
      subst hk
      repeat (first | refine g_px rfl rfl rfl ?_)
      refine g_ic rfl (fun cq => ?_) (fun cq => absurd (cpT (by decide)) cq)
      repeat (first | refine g_px rfl rfl rfl ?_)
      refine g_callV hv [0] 0 rfl rfl rfl rfl rfl rfl rfl rfl (by decide) (s_Mgranted sta d 0 tr wh (some q) rd F wd (nI a) im lw tk st sh ru rz aw al sd) (fun v w' h hp hk2 hv => ?_)
      obtain ⟨rfl, rfl⟩ := hp
      subst hT
      exact g_iret hv rfl rfl rfl rfl ⟨rfl, rfl⟩
    | succ j ih =>
      intro k h hk hv
      repeat (first | refine g_px rfl rfl rfl ?_)
      refine g_ic rfl (fun cq => ?_) (fun cq => ?_)
      · simp (disch := omega) only [mj_cp, k_6, k_7, k_8, k_9, k_10, k_12, k_15, k_16, k_18, k_20, k_24, k_25, k_26, k_27, k_28, k_32, k_36, k_48, k_57, k_59, k_63, k_74, k_75, k_84, k_90, k_97, k_99, k_100, k_122, k_200, k_255, k_420, k_448, k_720, k_800, k_999, k_bit, k_shl, fa_and, nI_add, bl_1, bl_0, bl_n1, bl_n0, bl_i1, nI_lt0, nI_0le, nI_eq0, nI_eqT, nI_leI, nI_ltI, nI_eq, Nat.not_le, Nat.not_lt, Bool.not_eq_true, Bool.not_eq_false, not_true_eq_false, not_false_eq_true, Decidable.not_not] at cq
        omega
      · repeat (first | refine g_px rfl rfl rfl ?_ | refine g_get hv 0 rfl rfl rfl rfl ?_)
        rw [show (Int8.ofInt 28).toInt32 * nI a + nI k = nI (28 * a + k) by rw [k_28, pk_mul, nI_add]]
        refine g_vI (L := 448) hv 2 (k := 28 * a + k) (by omega) (by decide) rfl rfl ?_
        refine g_vIs (L := 28) hv 1 (k := k) (by omega) (by decide) rfl rfl (fun h hv => ?_)
        rw [show upd (mix k V (fun k => P (28 * a + k))) k (P (28 * a + k)) = mix (k + 1) V (fun k => P (28 * a + k)) from upd_mix (f' := fun k => P (28 * a + k))] at hv
        refine g_run 2 rfl ?_
        have hnx := ih (k + 1) h (by omega) hv
        rw [nI_succ] at hnx
        exact hnx
  refine g_run 2 rfl ?_
  exact loop 28 0 h (by omega) (by rw [mix_0]; exact hv)
theorem s_Mundo_6 : mj_Sx sta (d + 3) 276 [.ref 151] [(mo th tr wh (some q) rd F wd 0 im lw tk st sh ru rz aw al sd)] (fun v w => v = some (.int (bl false)) ∧ w = [(mo 0 6 (-1) (some q) rd F wd 0 im lw tk st sh ru rz aw al sd)]) := by
  refine mj_Sx.mk m_X10_undo (by decide) n_X10_undo rfl (fun h0 hv => ?_)
  generalize hT : mj_rx m_X10_undo h0 _ _ = T
  repeat (first | refine g_px rfl rfl rfl ?_)
  refine g_put hv 0 rfl rfl rfl rfl rfl rfl (fun h hv => ?_)
  have hv : mj_Vw h0 ([(mo 0 tr wh (some q) rd F wd 0 im lw tk st sh ru rz aw al sd)]) h := hv
  repeat (first | refine g_px rfl rfl rfl ?_ | refine g_get hv 0 rfl rfl rfl rfl ?_)
  refine g_if rfl (fun cq => absurd cq (cpF (by decide))) (fun cq => ?_)
  repeat (first | refine g_px rfl rfl rfl ?_)
  refine g_callV hv [0] 0 rfl rfl rfl rfl rfl rfl rfl rfl (by decide) (s_Mdenied sta d 0 tr wh (some q) rd F wd 0 im lw tk st sh ru rz aw al sd _) (fun v w' h hp hk2 hv => ?_)
  obtain ⟨rfl, rfl⟩ := hp
  subst hT
  exact g_iret hv rfl rfl rfl rfl ⟨rfl, rfl⟩
theorem s_Mundo_u : mj_Sx sta (d + 3) 276 [.ref 151] [(mo th tr wh none rd F wd ac im lw tk st sh ru rz aw al sd)] (fun v w => v = some (.int (bl false)) ∧ w = [(mo 0 6 (-1) none rd F wd ac im lw tk st sh ru rz aw al sd)]) := by
  refine mj_Sx.mk m_X10_undo (by decide) n_X10_undo rfl (fun h0 hv => ?_)
  generalize hT : mj_rx m_X10_undo h0 _ _ = T
  repeat (first | refine g_px rfl rfl rfl ?_)
  refine g_put hv 0 rfl rfl rfl rfl rfl rfl (fun h hv => ?_)
  have hv : mj_Vw h0 ([(mo 0 tr wh none rd F wd ac im lw tk st sh ru rz aw al sd)]) h := hv
  repeat (first | refine g_px rfl rfl rfl ?_ | refine g_get hv 0 rfl rfl rfl rfl ?_)
  refine g_callV hv [0] 0 rfl rfl rfl rfl rfl rfl rfl rfl (by decide) (s_Mdenied sta d 0 tr wh none rd F wd ac im lw tk st sh ru rz aw al sd _) (fun v w' h hp hk2 hv => ?_)
  obtain ⟨rfl, rfl⟩ := hp
  subst hT
  exact g_iret hv rfl rfl rfl rfl ⟨rfl, rfl⟩
theorem s_Mimage (i : Nat) (hi' : i < 3) : mj_Sx sta (d + 2) 277 [.ref 151] [(mo th tr wh (some q) rd F wd ac (nI i) lw tk st sh ru rz aw al sd), (153, aI 28 V), (155, aI 84 P)] (fun v w => v = some (.int (nI i)) ∧ w = [(mo 0 0 (-1) (some q) rd F wd ac (nI (i + 1)) lw tk st sh ru rz aw al sd), (153, aI 28 V), (155, aI 84 (cpS (28 * i) 28 V P))]) := by
  refine mj_Sx.mk m_X10_image (by decide) n_X10_image rfl (fun h0 hv => ?_)
  generalize hT : mj_rx m_X10_image h0 _ _ = T
  repeat (first | refine g_px rfl rfl rfl ?_)
  refine g_put hv 0 rfl rfl rfl rfl rfl rfl (fun h hv => ?_)
  have hv : mj_Vw h0 ([(mo 0 tr wh (some q) rd F wd ac (nI i) lw tk st sh ru rz aw al sd), (153, aI 28 V), (155, aI 84 P)]) h := hv
  repeat (first | refine g_px rfl rfl rfl ?_ | refine g_get hv 0 rfl rfl rfl rfl ?_)
  refine g_ic rfl (fun cq => ?_) (fun cq => absurd (fun z => by have := (nI_eq (a := i) (b := 3) (by omega) (by decide)).mp z; omega) cq)
  have loop : ∀ j k h, k + j = 28 → mj_Vw h0 [(mo 0 tr wh (some q) rd F wd ac (nI i) lw tk st sh ru rz aw al sd), (153, aI 28 V), (155, aI 84 (cpS (28 * i) k V P))] h → mj_go sta (mj_Cl sta (d + 1)) m_X10_image T 34 [some (.ref 151), some (.int (nI k))] [] h := by
    intro j
    induction j with
    | zero =>
      intro k h hk hv
      have hk : k = 28 := by omega
      subst hk
      repeat (first | refine g_px rfl rfl rfl ?_)
      refine g_ic rfl (fun cq => ?_) (fun cq => absurd (cpT (by decide)) cq)
      refine g_run 2 rfl ?_
      refine g_get hv 0 rfl rfl rfl rfl ?_
      refine g_run 2 rfl ?_
      rw [show nI i + Int32.ofInt 1 = nI (i + 1) from (nI_succ i).symm]
      refine g_put hv 0 rfl rfl rfl rfl rfl rfl (fun h hv => ?_)
      have hv : mj_Vw h0 ([(mo 0 tr wh (some q) rd F wd ac (nI (i + 1)) lw tk st sh ru rz aw al sd), (153, aI 28 V), (155, aI 84 (cpS (28 * i) 28 V P))]) h := hv
      repeat (first | refine g_px rfl rfl rfl ?_ | refine g_get hv 0 rfl rfl rfl rfl ?_)
      rw [show nI (i + 1) - Int32.ofInt 1 = nI i from nI_pred i]
      refine g_callV hv [0] 0 rfl rfl rfl rfl rfl rfl rfl rfl (by decide) (s_Mgood sta d 0 tr wh (some q) rd F wd ac (nI (i + 1)) lw tk st sh ru rz aw al sd _) (fun v w' h hp hk2 hv => ?_)
      obtain ⟨rfl, rfl⟩ := hp
      subst hT
      exact g_iret hv rfl rfl rfl rfl ⟨rfl, rfl⟩
    | succ j ih =>
      intro k h hk hv
      repeat (first | refine g_px rfl rfl rfl ?_)
      refine g_ic rfl (fun cq => ?_) (fun cq => ?_)
      · simp (disch := omega) only [mj_cp, k_6, k_7, k_8, k_9, k_10, k_12, k_15, k_16, k_18, k_20, k_24, k_25, k_26, k_27, k_28, k_32, k_36, k_48, k_57, k_59, k_63, k_74, k_75, k_84, k_90, k_97, k_99, k_100, k_122, k_200, k_255, k_420, k_448, k_720, k_800, k_999, k_bit, k_shl, fa_and, nI_add, bl_1, bl_0, bl_n1, bl_n0, bl_i1, nI_lt0, nI_0le, nI_eq0, nI_eqT, nI_leI, nI_ltI, nI_eq, Nat.not_le, Nat.not_lt, Bool.not_eq_true, Bool.not_eq_false, not_true_eq_false, not_false_eq_true, Decidable.not_not] at cq
        omega
      · repeat (first | refine g_px rfl rfl rfl ?_ | refine g_get hv 0 rfl rfl rfl rfl ?_)
        rw [show (Int8.ofInt 28).toInt32 * nI i + nI k = nI (28 * i + k) by rw [k_28, pk_mul, nI_add]]
        refine g_vI (L := 28) hv 1 (k := k) (by omega) (by decide) rfl rfl ?_
        refine g_vIs (L := 84) hv 2 (k := 28 * i + k) (by omega) (by decide) rfl rfl (fun h hv => ?_)
        rw [cpS_up] at hv
        refine g_run 2 rfl ?_
        have hnx := ih (k + 1) h (by omega) hv
        rw [nI_succ] at hnx
        exact hnx
  refine g_run 2 rfl ?_
  exact loop 28 0 h (by omega) (by rw [cpS_0]; exact hv)
theorem s_Mimage_3 : mj_Sx sta (d + 2) 277 [.ref 151] [(mo th tr wh (some q) rd F wd ac 3 lw tk st sh ru rz aw al sd)] (fun v w => v = some (.int (-1)) ∧ w = [(mo 0 3 (-1) (some q) rd F wd ac 3 lw tk st sh ru rz aw al sd)]) := by
  refine mj_Sx.mk m_X10_image (by decide) n_X10_image rfl (fun h0 hv => ?_)
  generalize hT : mj_rx m_X10_image h0 _ _ = T
  repeat (first | refine g_px rfl rfl rfl ?_)
  refine g_put hv 0 rfl rfl rfl rfl rfl rfl (fun h hv => ?_)
  have hv : mj_Vw h0 ([(mo 0 tr wh (some q) rd F wd ac 3 lw tk st sh ru rz aw al sd)]) h := hv
  repeat (first | refine g_px rfl rfl rfl ?_ | refine g_get hv 0 rfl rfl rfl rfl ?_)
  refine g_ic rfl (fun cq => absurd cq (cpF (by decide))) (fun cq => ?_)
  repeat (first | refine g_px rfl rfl rfl ?_)
  refine g_callV hv [0] 0 rfl rfl rfl rfl rfl rfl rfl rfl (by decide) (s_Mrefused sta d 0 tr wh (some q) rd F wd ac 3 lw tk st sh ru rz aw al sd _) (fun v w' h hp hk2 hv => ?_)
  obtain ⟨rfl, rfl⟩ := hp
  subst hT
  exact g_iret hv rfl rfl rfl rfl ⟨rfl, rfl⟩
theorem s_Mback (i n : Nat) (hi' : i < n) (hn : n ≤ 3) : mj_Sx sta (d + 3) 278 [.ref 151, (.int (nI i))] [(mo th tr wh (some q) rd F wd ac (nI n) lw tk st sh ru rz aw al sd), (153, aI 28 V), (155, aI 84 P)] (fun v w => v = some (.int (bl true)) ∧ w = [(mo 0 0 (-1) (some q) rd F wd 0 (nI n) lw tk st sh ru rz aw al sd), (153, aI 28 (mix 28 V (fun k => P (28 * i + k)))), (155, aI 84 P)]) := by
  refine mj_Sx.mk m_X10_back (by decide) n_X10_back rfl (fun h0 hv => ?_)
  generalize hT : mj_rx m_X10_back h0 _ _ = T
  repeat (first | refine g_px rfl rfl rfl ?_)
  refine g_put hv 0 rfl rfl rfl rfl rfl rfl (fun h hv => ?_)
  have hv : mj_Vw h0 ([(mo 0 tr wh (some q) rd F wd ac (nI n) lw tk st sh ru rz aw al sd), (153, aI 28 V), (155, aI 84 P)]) h := hv
  repeat (first | refine g_px rfl rfl rfl ?_ | refine g_get hv 0 rfl rfl rfl rfl ?_)
  refine g_if rfl (fun cq => absurd cq (nI_pos (by omega))) (fun cq => ?_)
  repeat (first | refine g_px rfl rfl rfl ?_ | refine g_get hv 0 rfl rfl rfl rfl ?_)
  refine g_ic rfl (fun cq => ?_) (fun cq => absurd (nI_lt hi' (by omega)) cq)
  have loop : ∀ j k h, k + j = 28 → mj_Vw h0 [(mo 0 tr wh (some q) rd F wd ac (nI n) lw tk st sh ru rz aw al sd), (153, aI 28 (mix k V (fun k => P (28 * i + k)))), (155, aI 84 P)] h → mj_go sta (mj_Cl sta (d + 2)) m_X10_back T 32 [some (.ref 151), some (.int (nI i)), some (.int (nI k))] [] h := by
    intro j
    induction j with
    | zero =>
      intro k h hk hv
      have hk : k = 28 := by omega
      subst hk
      repeat (first | refine g_px rfl rfl rfl ?_)
      refine g_ic rfl (fun cq => ?_) (fun cq => absurd (cpT (by decide)) cq)
      repeat (first | refine g_px rfl rfl rfl ?_)
      refine g_put hv 0 rfl rfl rfl rfl rfl rfl (fun h hv => ?_)
      have hv : mj_Vw h0 ([(mo 0 tr wh (some q) rd F wd 0 (nI n) lw tk st sh ru rz aw al sd), (153, aI 28 (mix 28 V (fun k => P (28 * i + k)))), (155, aI 84 P)]) h := hv
      repeat (first | refine g_px rfl rfl rfl ?_)
      refine g_callV hv [0] 0 rfl rfl rfl rfl rfl rfl rfl rfl (by decide) (s_Mgranted sta d 0 tr wh (some q) rd F wd 0 (nI n) lw tk st sh ru rz aw al sd) (fun v w' h hp hk2 hv => ?_)
      obtain ⟨rfl, rfl⟩ := hp
      subst hT
      exact g_iret hv rfl rfl rfl rfl ⟨rfl, rfl⟩
    | succ j ih =>
      intro k h hk hv
      repeat (first | refine g_px rfl rfl rfl ?_)
      refine g_ic rfl (fun cq => ?_) (fun cq => ?_)
      · simp (disch := omega) only [mj_cp, k_6, k_7, k_8, k_9, k_10, k_12, k_15, k_16, k_18, k_20, k_24, k_25, k_26, k_27, k_28, k_32, k_36, k_48, k_57, k_59, k_63, k_74, k_75, k_84, k_90, k_97, k_99, k_100, k_122, k_200, k_255, k_420, k_448, k_720, k_800, k_999, k_bit, k_shl, fa_and, nI_add, bl_1, bl_0, bl_n1, bl_n0, bl_i1, nI_lt0, nI_0le, nI_eq0, nI_eqT, nI_leI, nI_ltI, nI_eq, Nat.not_le, Nat.not_lt, Bool.not_eq_true, Bool.not_eq_false, not_true_eq_false, not_false_eq_true, Decidable.not_not] at cq
        omega
      · repeat (first | refine g_px rfl rfl rfl ?_ | refine g_get hv 0 rfl rfl rfl rfl ?_)
        rw [show (Int8.ofInt 28).toInt32 * nI i + nI k = nI (28 * i + k) by rw [k_28, pk_mul, nI_add]]
        refine g_vI (L := 84) hv 2 (k := 28 * i + k) (by omega) (by decide) rfl rfl ?_
        refine g_vIs (L := 28) hv 1 (k := k) (by omega) (by decide) rfl rfl (fun h hv => ?_)
        rw [show upd (mix k V (fun k => P (28 * i + k))) k (P (28 * i + k)) = mix (k + 1) V (fun k => P (28 * i + k)) from upd_mix (f' := fun k => P (28 * i + k))] at hv
        refine g_run 2 rfl ?_
        have hnx := ih (k + 1) h (by omega) hv
        rw [nI_succ] at hnx
        exact hnx
  refine g_run 2 rfl ?_
  exact loop 28 0 h (by omega) (by rw [mix_0]; exact hv)
theorem s_Mback_1 (y : Int32) (n : Nat) (hn : n ≤ 3) (hno : inR n y = false) : mj_Sx sta (d + 3) 278 [.ref 151, .int y] [(mo th tr wh (some q) rd F wd ac (nI n) lw tk st sh ru rz aw al sd)] (fun v w => v = some (.int (bl false)) ∧ w = [(mo 0 1 (-1) (some q) rd F wd ac (nI n) lw tk st sh ru rz aw al sd)]) := by
  refine mj_Sx.mk m_X10_back (by decide) n_X10_back rfl (fun h0 hv => ?_)
  generalize hT : mj_rx m_X10_back h0 _ _ = T
  repeat (first | refine g_px rfl rfl rfl ?_)
  refine g_put hv 0 rfl rfl rfl rfl rfl rfl (fun h hv => ?_)
  have hv : mj_Vw h0 ([(mo 0 tr wh (some q) rd F wd ac (nI n) lw tk st sh ru rz aw al sd)]) h := hv
  repeat (first | refine g_px rfl rfl rfl ?_ | refine g_get hv 0 rfl rfl rfl rfl ?_)
  refine g_if rfl (fun cq => ?_) (fun cq => ?_)
  · repeat (first | refine g_px rfl rfl rfl ?_)
    refine g_callV hv [0] 0 rfl rfl rfl rfl rfl rfl rfl rfl (by decide) (s_Mdenied sta d 0 tr wh (some q) rd F wd ac (nI n) lw tk st sh ru rz aw al sd _) (fun v w' h hp hk2 hv => ?_)
    obtain ⟨rfl, rfl⟩ := hp
    subst hT
    exact g_iret hv rfl rfl rfl rfl ⟨rfl, rfl⟩
  · have cq : ¬ y < 0 := cq
    repeat (first | refine g_px rfl rfl rfl ?_ | refine g_get hv 0 rfl rfl rfl rfl ?_)
    refine g_ic rfl (fun cq2 => ?_) (fun cq2 => ?_)
    · have cq2 : y < nI n := cq2
      rw [inR, decide_eq_true (Int32.not_lt.mp cq), decide_eq_true cq2] at hno
      cases hno
    · repeat (first | refine g_px rfl rfl rfl ?_)
      refine g_callV hv [0] 0 rfl rfl rfl rfl rfl rfl rfl rfl (by decide) (s_Mdenied sta d 0 tr wh (some q) rd F wd ac (nI n) lw tk st sh ru rz aw al sd _) (fun v w' h hp hk2 hv => ?_)
      obtain ⟨rfl, rfl⟩ := hp
      subst hT
      exact g_iret hv rfl rfl rfl rfl ⟨rfl, rfl⟩
theorem s_Mback_u (y : Int32) : mj_Sx sta (d + 3) 278 [.ref 151, .int y] [(mo th tr wh none rd F wd ac im lw tk st sh ru rz aw al sd)] (fun v w => v = some (.int (bl false)) ∧ w = [(mo 0 1 (-1) none rd F wd ac im lw tk st sh ru rz aw al sd)]) := by
  refine mj_Sx.mk m_X10_back (by decide) n_X10_back rfl (fun h0 hv => ?_)
  generalize hT : mj_rx m_X10_back h0 _ _ = T
  repeat (first | refine g_px rfl rfl rfl ?_)
  refine g_put hv 0 rfl rfl rfl rfl rfl rfl (fun h hv => ?_)
  have hv : mj_Vw h0 ([(mo 0 tr wh none rd F wd ac im lw tk st sh ru rz aw al sd)]) h := hv
  repeat (first | refine g_px rfl rfl rfl ?_ | refine g_get hv 0 rfl rfl rfl rfl ?_)
  refine g_callV hv [0] 0 rfl rfl rfl rfl rfl rfl rfl rfl (by decide) (s_Mdenied sta d 0 tr wh none rd F wd ac im lw tk st sh ru rz aw al sd _) (fun v w' h hp hk2 hv => ?_)
  obtain ⟨rfl, rfl⟩ := hp
  subst hT
  exact g_iret hv rfl rfl rfl rfl ⟨rfl, rfl⟩
/-- the i-th of those with p -/
def mldr (p : Nat → Bool) (i : Int32) : Nat → Nat → Nat → Option Nat
  | 0, _, _ => none
  | j + 1, m, c => if p m then (if nI c = i then some m else mldr p i j (m + 1) (c + 1)) else mldr p i j (m + 1) c
theorem s_Mled (i : Int32) (t : Nat) (FR : Nat → Option Nat) (hn : D 1 ≤ 6) (h24 : V 24 = nI t) (ht : t < 64) (hF : ∀ i, i < 6 → V (18 + i) = snd (FR i)) (hF6 : gok FR) : mj_Sx sta (d + 3) 279 [.ref 151, .int i] [(mo th tr wh (some q) rd F wd ac im lw tk st sh ru rz aw al sd), mdh q D hi er se, (153, aI 28 V)] (fun v w => match mldr (fun m => decide (mfte (D 1) t FR m % 2 = 1)) i (D 1) 0 0 with
    | some m => v = some (.int (nI m)) ∧ w = [(mo 0 tr wh (some q) rd F wd ac im lw tk st sh ru rz aw al sd), mdh q D hi er se, (153, aI 28 V)]
    | none => v = some (.int 0) ∧ w = [(mo 1 tr wh (some q) rd F wd ac im lw tk st sh ru rz aw al sd), mdh q D hi er se, (153, aI 28 V)]) := by
  generalize hTT : t = t' at *
  clear hTT
  refine mj_Sx.mk m_X10_led (by decide) n_X10_led rfl (fun h0 hv => ?_)
  generalize hT : mj_rx m_X10_led h0 _ _ = T
  generalize hR : mldr (fun m => decide (mfte (D 1) t' FR m % 2 = 1)) i (D 1) 0 0 = R at hT
  have loop : ∀ j m c h, m + j = D 1 → c ≤ m → R = mldr (fun m => decide (mfte (D 1) t' FR m % 2 = 1)) i j m c → mj_Vw h0 [(mo 0 tr wh (some q) rd F wd ac im lw tk st sh ru rz aw al sd), mdh q D hi er se, (153, aI 28 V)] h → mj_go sta (mj_Cl sta (d + 2)) m_X10_led T 9 [some (.ref 151), some (.int i), some (.int (nI c)), some (.int (nI m))] [] h := by
    intro j
    induction j with
    | zero =>
      intro m c h hm hc he hv
      rw [mldr] at he
      subst he
      repeat (first | refine g_px rfl rfl rfl ?_ | refine g_get hv 0 rfl rfl rfl rfl ?_ | refine g_get hv 1 rfl rfl rfl rfl ?_)
      refine g_ic rfl (fun cq => ?_) (fun cq => ?_)
      · repeat (first | refine g_px rfl rfl rfl ?_)
        refine g_put hv 0 rfl rfl rfl rfl rfl rfl (fun h hv => ?_)
        repeat (first | refine g_px rfl rfl rfl ?_)
        subst hT
        exact g_iret hv rfl rfl rfl rfl ⟨rfl, rfl⟩
      · simp (disch := omega) only [mj_cp, k_6, k_7, k_8, k_9, k_10, k_12, k_15, k_16, k_18, k_20, k_24, k_25, k_26, k_27, k_28, k_32, k_36, k_48, k_57, k_59, k_63, k_74, k_75, k_84, k_90, k_97, k_99, k_100, k_122, k_200, k_255, k_420, k_448, k_720, k_800, k_999, k_bit, k_shl, fa_and, nI_add, bl_1, bl_0, bl_n1, bl_n0, bl_i1, nI_lt0, nI_0le, nI_eq0, nI_eqT, nI_leI, nI_ltI, nI_eq, Nat.not_le, Nat.not_lt, Bool.not_eq_true, Bool.not_eq_false, not_true_eq_false, not_false_eq_true, Decidable.not_not] at cq
        omega
    | succ j ih =>
      intro m c h hm hc he hv
      rw [mldr] at he
      have hm4 : mfte (D 1) t' FR m < 4 := by
        unfold mfte
        repeat' split
        all_goals omega
      repeat (first | refine g_px rfl rfl rfl ?_ | refine g_get hv 0 rfl rfl rfl rfl ?_ | refine g_get hv 1 rfl rfl rfl rfl ?_)
      refine g_ic rfl (fun cq => ?_) (fun cq => ?_)
      · simp (disch := omega) only [mj_cp, k_6, k_7, k_8, k_9, k_10, k_12, k_15, k_16, k_18, k_20, k_24, k_25, k_26, k_27, k_28, k_32, k_36, k_48, k_57, k_59, k_63, k_74, k_75, k_84, k_90, k_97, k_99, k_100, k_122, k_200, k_255, k_420, k_448, k_720, k_800, k_999, k_bit, k_shl, fa_and, nI_add, bl_1, bl_0, bl_n1, bl_n0, bl_i1, nI_lt0, nI_0le, nI_eq0, nI_eqT, nI_leI, nI_ltI, nI_eq, Nat.not_le, Nat.not_lt, Bool.not_eq_true, Bool.not_eq_false, not_true_eq_false, not_false_eq_true, Decidable.not_not] at cq
        omega
      · repeat (first | refine g_px rfl rfl rfl ?_)
        refine g_callV hv [0, 1, 2] 0 rfl rfl rfl rfl rfl rfl rfl rfl (by decide) (s_MfateOf sta d 0 tr wh q rd F wd ac im lw tk st sh ru rz aw al sd V D hi er se m t' FR (by omega) hn h24 ht hF hF6) (fun v w' h hp hk2 hv => ?_)
        obtain ⟨rfl, rfl⟩ := hp
        have hv : mj_Vw h0 ([(mo 0 tr wh (some q) rd F wd ac im lw tk st sh ru rz aw al sd), mdh q D hi er se, (153, aI 28 V)]) h := hv
        refine g_run 2 rfl ?_
        rw [show nI (mfte (D 1) t' FR m) - nI (mfte (D 1) t' FR m) / Int32.ofInt 2 * Int32.ofInt 2 = nI (mfte (D 1) t' FR m % 2) from pk_rem (d := 2) (by omega) (by decide) (by decide)]
        refine g_if rfl (fun cq => ?_) (fun cq => ?_)
        · have cq : ¬ nI (mfte (D 1) t' FR m % 2) = 0 := cq
          rw [nI_eq0 (by omega)] at cq
          rw [if_pos (decide_eq_true (by omega))] at he
          repeat (first | refine g_px rfl rfl rfl ?_)
          refine g_ic rfl (fun cq => ?_) (fun cq => ?_)
          · have cq : ¬ nI c = i := cq
            rw [if_neg cq] at he
            refine g_run 3 rfl ?_
            have hnx := ih (m + 1) (c + 1) h (by omega) (by omega) he hv
            rw [nI_succ, nI_succ] at hnx
            exact hnx
          · have cq : ¬ ¬ nI c = i := cq
            rw [if_pos (Decidable.not_not.mp cq)] at he
            subst he
            repeat (first | refine g_px rfl rfl rfl ?_)
            subst hT
            exact g_iret hv rfl rfl rfl rfl ⟨rfl, rfl⟩
        · have cq : ¬ ¬ nI (mfte (D 1) t' FR m % 2) = 0 := cq
          rw [nI_eq0 (by omega), Decidable.not_not] at cq
          rw [if_neg (by rw [decide_eq_true_eq]; omega)] at he
          refine g_run 3 rfl ?_
          have hnx := ih (m + 1) c h (by omega) (by omega) he hv
          rw [nI_succ] at hnx
          exact hnx
  repeat (first | refine g_px rfl rfl rfl ?_)
  refine g_put hv 0 rfl rfl rfl rfl rfl rfl (fun h hv => ?_)
  have hv : mj_Vw h0 ([(mo 0 tr wh (some q) rd F wd ac im lw tk st sh ru rz aw al sd), mdh q D hi er se, (153, aI 28 V)]) h := hv
  refine g_run 4 rfl ?_
  exact loop (D 1) 0 0 h (by omega) (by omega) hR.symm hv
theorem s_Mled_u (i : Int32) : mj_Sx sta (d + 1) 279 [.ref 151, .int i] [(mo th tr wh none rd F wd ac im lw tk st sh ru rz aw al sd)] (fun v w => v = some (.int 0) ∧ w = [(mo 1 tr wh none rd F wd ac im lw tk st sh ru rz aw al sd)]) := by
  refine mj_Sx.mk m_X10_led (by decide) n_X10_led rfl (fun h0 hv => ?_)
  generalize hT : mj_rx m_X10_led h0 _ _ = T
  repeat (first | refine g_px rfl rfl rfl ?_)
  refine g_put hv 0 rfl rfl rfl rfl rfl rfl (fun h hv => ?_)
  have hv : mj_Vw h0 ([(mo 0 tr wh none rd F wd ac im lw tk st sh ru rz aw al sd)]) h := hv
  repeat (first | refine g_px rfl rfl rfl ?_ | refine g_get hv 0 rfl rfl rfl rfl ?_)
  refine g_put hv 0 rfl rfl rfl rfl rfl rfl (fun h hv => ?_)
  repeat (first | refine g_px rfl rfl rfl ?_)
  subst hT
  exact g_iret hv rfl rfl rfl rfl ⟨rfl, rfl⟩
end Mh
