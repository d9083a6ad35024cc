/-! the reference: what is told -/
def mManA (MA : Nat → Nat → Nat) (L : Nat) (SN C : Nat → Nat) (k : Nat) : Nat → Int32
  | 0 => nI (SN k)
  | 1 => nI (MA 1 k)
  | 2 => nI (C k)
  | 3 => nI (MA 3 k)
  | 4 => nI (MA 4 k)
  | _ => bl (L.testBit (SN k))
def mSiz (D : Nat → Nat) (V : Nat → Int32) (hi ac im : Int32) : Nat → Int32
  | 0 => nI (D 0)
  | 1 => nI (D 1)
  | 2 => nI (D 2)
  | 3 => if hi = -1 then 0 else 1
  | 4 => nI (D 8)
  | 5 => V 26
  | 6 => V 27
  | 7 => ac
  | _ => im
section Mn
variable (sta : mj_S) (d : Nat) (th tr wh : Int32) (q : Nat) (dr rd : Option Nat) (F : Nat → Int32) (wd : Int64) (ac im lw tk st : Int32) (sh ru : Int64) (rz aw al sd : Int32) (D : Nat → Nat) (hi er se : Int32) (MA : Nat → Nat → Nat) (V : Nat → Int32) (r sn : Nat → Nat) (g f : Nat → Option Nat)
theorem s_Mthrown : mj_Sx sta (d + 1) 160 [.ref 151] [(mo th tr wh dr rd F wd ac im lw tk st sh ru rz aw al sd)] (fun v w => v = some (.int th) ∧ w = [(mo th tr wh dr rd F wd ac im lw tk st sh ru rz aw al sd)]) := by
  refine mj_Sx.mk m_X10_thrown (by decide) n_X10_thrown rfl (fun h0 hv => ?_)
  generalize hT : mj_rx m_X10_thrown h0 _ _ = T
  repeat (first | refine g_px rfl rfl rfl ?_ | refine g_get hv 0 rfl rfl rfl rfl ?_)
  subst hT
  exact g_iret hv rfl rfl rfl rfl ⟨rfl, rfl⟩
theorem s_Mtrouble : mj_Sx sta (d + 1) 281 [.ref 151] [(mo th tr wh dr rd F wd ac im lw tk st sh ru rz aw al sd)] (fun v w => v = some (.int tr) ∧ w = [(mo 0 tr wh dr rd F wd ac im lw tk st sh ru rz aw al sd)]) := by
  refine mj_Sx.mk m_X10_trouble (by decide) n_X10_trouble rfl (fun h0 hv => ?_)
  generalize hT : mj_rx m_X10_trouble h0 _ _ = T
  repeat (first | refine g_px rfl rfl rfl ?_)
  refine g_put hv 0 rfl rfl rfl rfl rfl rfl (fun h hv => ?_)
  repeat (first | refine g_px rfl rfl rfl ?_ | refine g_get hv 0 rfl rfl rfl rfl ?_)
  subst hT
  exact g_iret hv rfl rfl rfl rfl ⟨rfl, rfl⟩
theorem s_Mfault : mj_Sx sta (d + 1) 196 [.ref 151] [(mo th tr wh dr rd F wd ac im lw tk st sh ru rz aw al sd)] (fun v w => v = some (.int (F 12)) ∧ w = [(mo 0 tr wh dr rd F wd ac im lw tk st sh ru rz aw al sd)]) := by
  refine mj_Sx.mk m_X10_fault (by decide) n_X10_fault rfl (fun h0 hv => ?_)
  generalize hT : mj_rx m_X10_fault h0 _ _ = T
  repeat (first | refine g_px rfl rfl rfl ?_)
  refine g_put hv 0 rfl rfl rfl rfl rfl rfl (fun h hv => ?_)
  repeat (first | refine g_px rfl rfl rfl ?_ | refine g_get hv 0 rfl rfl rfl rfl ?_)
  subst hT
  exact g_iret hv rfl rfl rfl rfl ⟨rfl, rfl⟩
theorem s_Mwhere : mj_Sx sta (d + 1) 197 [.ref 151] [(mo th tr wh dr rd F wd ac im lw tk st sh ru rz aw al sd)] (fun v w => v = some (.int wh) ∧ w = [(mo 0 tr wh dr rd F wd ac im lw tk st sh ru rz aw al sd)]) := by
  refine mj_Sx.mk m_X10_where (by decide) n_X10_where rfl (fun h0 hv => ?_)
  generalize hT : mj_rx m_X10_where h0 _ _ = T
  repeat (first | refine g_px rfl rfl rfl ?_)
  refine g_put hv 0 rfl rfl rfl rfl rfl rfl (fun h hv => ?_)
  repeat (first | refine g_px rfl rfl rfl ?_ | refine g_get hv 0 rfl rfl rfl rfl ?_)
  subst hT
  exact g_iret hv rfl rfl rfl rfl ⟨rfl, rfl⟩
theorem s_Msize9 : mj_Sx sta (d + 2) 280 [.ref 151, .int 9] [(mo th tr wh dr rd F wd ac im lw tk st sh ru rz aw al sd)] (fun v w => v = some (.int (F 6)) ∧ w = [(mo 0 tr wh dr rd F wd ac im lw tk st sh ru rz aw al sd)]) := by
  refine mj_Sx.mk m_X10_size (by decide) n_X10_size rfl (fun h0 hv => ?_)
  generalize hT : mj_rx m_X10_size h0 _ _ = T
  repeat (first | refine g_px rfl rfl rfl ?_)
  refine g_put hv 0 rfl rfl rfl rfl rfl rfl (fun h hv => ?_)
  repeat (first | refine g_px rfl rfl rfl ?_)
  refine g_ic rfl (fun cq => absurd cq (cpF (by decide))) (fun cq => ?_)
  repeat (first | refine g_px rfl rfl rfl ?_ | refine g_get hv 0 rfl rfl rfl rfl ?_)
  subst hT
  exact g_iret hv rfl rfl rfl rfl ⟨rfl, rfl⟩
theorem s_Msize_no (y : Int32) (h9 : ¬ y = 9) (hno : inR 9 y = false) : mj_Sx sta (d + 2) 280 [.ref 151, .int y] [(mo th tr wh dr rd F wd ac im lw tk st sh ru rz aw al sd)] (fun v w => v = some (.int (-1)) ∧ w = [(mo 0 tr wh dr rd F wd ac im lw tk st sh ru rz aw al sd)]) := by
  refine mj_Sx.mk m_X10_size (by decide) n_X10_size rfl (fun h0 hv => ?_)
  generalize hT : mj_rx m_X10_size h0 _ _ = T
  repeat (first | refine g_px rfl rfl rfl ?_)
  refine g_put hv 0 rfl rfl rfl rfl rfl rfl (fun h hv => ?_)
  have hv : mj_Vw h0 ([(mo 0 tr wh dr rd F wd ac im lw tk st sh ru rz aw al sd)]) h := hv
  repeat (first | refine g_px rfl rfl rfl ?_)
  refine g_ic rfl (fun cq => ?_) (fun cq => absurd h9 cq)
  repeat (first | refine g_px rfl rfl rfl ?_)
  refine g_callS hv [] rfl rfl rfl rfl rfl rfl rfl (by decide) (s_Min sta d y _ _) (fun v w' h hp hk2 hv => ?_)
  obtain ⟨rfl, rfl⟩ := hp
  rw [show (decide (Int32.ofInt 0 ≤ y) && decide (y ≤ (Int8.ofInt 8).toInt32)) = inR 9 y from in_R 8 (by decide) y, hno]
  refine g_if rfl (fun cq => absurd rfl cq) (fun cq => ?_)
  have hv : mj_Vw h0 ([(mo 0 tr wh dr rd F wd ac im lw tk st sh ru rz aw al sd)]) h := hv
  repeat (first | refine g_px rfl rfl rfl ?_)
  subst hT
  exact g_iret hv rfl rfl rfl rfl ⟨rfl, rfl⟩
theorem s_Msize_u (y : Nat) (hy : y < 9) : mj_Sx sta (d + 2) 280 [.ref 151, (.int (nI y))] [(mo th tr wh none rd F wd ac im lw tk st sh ru rz aw al sd)] (fun v w => v = some (.int 0) ∧ w = [(mo 0 tr wh none rd F wd ac im lw tk st sh ru rz aw al sd)]) := by
  refine mj_Sx.mk m_X10_size (by decide) n_X10_size rfl (fun h0 hv => ?_)
  generalize hT : mj_rx m_X10_size h0 _ _ = T
  repeat (first | refine g_px rfl rfl rfl ?_)
  refine g_put hv 0 rfl rfl rfl rfl rfl rfl (fun h hv => ?_)
  have hv : mj_Vw h0 ([(mo 0 tr wh none rd F wd ac im lw tk st sh ru rz aw al sd)]) h := hv
  repeat (first | refine g_px rfl rfl rfl ?_)
  refine g_ic rfl (fun cq => ?_) (fun cq => absurd (fun z => by have := (nI_eq (a := y) (b := 9) (by omega) (by decide)).mp z; omega) cq)
  repeat (first | refine g_px rfl rfl rfl ?_)
  refine g_callS hv [] rfl rfl rfl rfl rfl rfl rfl (by decide) (s_Min sta d (nI y) _ _) (fun v w' h hp hk2 hv => ?_)
  obtain ⟨rfl, rfl⟩ := hp
  rw [show (decide (Int32.ofInt 0 ≤ nI y) && decide (nI y ≤ (Int8.ofInt 8).toInt32)) = inR 9 (nI y) from in_R 8 (by decide) (nI y), inR_k hy (by decide)]
  refine g_if rfl (fun cq => ?_) (fun cq => absurd (show ¬ bl true = 0 by decide) cq)
  have hv : mj_Vw h0 ([(mo 0 tr wh none rd F wd ac im lw tk st sh ru rz aw al sd)]) h := hv
  repeat (first | refine g_px rfl rfl rfl ?_ | refine g_get hv 0 rfl rfl rfl rfl ?_)
  subst hT
  exact g_iret hv rfl rfl rfl rfl ⟨rfl, rfl⟩
theorem s_Msize (y : Nat) (hy : y < 9) : mj_Sx sta (d + 2) 280 [.ref 151, (.int (nI y))] [(mo th tr wh (some q) rd F wd ac im lw tk st sh ru rz aw al sd), mdh q D hi er se, (153, aI 28 V)] (fun v w => v = some (.int (mSiz D V hi ac im y)) ∧ w = [(mo 0 tr wh (some q) rd F wd ac im lw tk st sh ru rz aw al sd), mdh q D hi er se, (153, aI 28 V)]) := by
  refine mj_Sx.mk m_X10_size (by decide) n_X10_size rfl (fun h0 hv => ?_)
  generalize hT : mj_rx m_X10_size h0 _ _ = T
  repeat (first | refine g_px rfl rfl rfl ?_)
  refine g_put hv 0 rfl rfl rfl rfl rfl rfl (fun h hv => ?_)
  have hv : mj_Vw h0 ([(mo 0 tr wh (some q) rd F wd ac im lw tk st sh ru rz aw al sd), mdh q D hi er se, (153, aI 28 V)]) h := hv
  repeat (first | refine g_px rfl rfl rfl ?_)
  refine g_ic rfl (fun cq => ?_) (fun cq => absurd (fun z => by have := (nI_eq (a := y) (b := 9) (by omega) (by decide)).mp z; omega) cq)
  repeat (first | refine g_px rfl rfl rfl ?_)
  refine g_callS hv [] rfl rfl rfl rfl rfl rfl rfl (by decide) (s_Min sta d (nI y) _ _) (fun v w' h hp hk2 hv => ?_)
  obtain ⟨rfl, rfl⟩ := hp
  rw [show (decide (Int32.ofInt 0 ≤ nI y) && decide (nI y ≤ (Int8.ofInt 8).toInt32)) = inR 9 (nI y) from in_R 8 (by decide) (nI y), inR_k hy (by decide)]
  refine g_if rfl (fun cq => ?_) (fun cq => absurd (show ¬ bl true = 0 by decide) cq)
  have hv : mj_Vw h0 ([(mo 0 tr wh (some q) rd F wd ac im lw tk st sh ru rz aw al sd), mdh q D hi er se, (153, aI 28 V)]) h := hv
  repeat (first | refine g_px rfl rfl rfl ?_ | refine g_get hv 0 rfl rfl rfl rfl ?_)
  have hy9 : y = 0 ∨ y = 1 ∨ y = 2 ∨ y = 3 ∨ y = 4 ∨ y = 5 ∨ y = 6 ∨ y = 7 ∨ y = 8 := by omega
  rcases hy9 with rfl | rfl | rfl | rfl | rfl | rfl | rfl | rfl | rfl
  · refine g_swk (off := 46) rfl (by decide) (by decide) ?_
    repeat (first | refine g_px rfl rfl rfl ?_ | refine g_get hv 0 rfl rfl rfl rfl ?_ | refine g_get hv 1 rfl rfl rfl rfl ?_)
    subst hT
    exact g_iret hv rfl rfl rfl rfl ⟨rfl, rfl⟩
  · refine g_swk (off := 54) rfl (by decide) (by decide) ?_
    repeat (first | refine g_px rfl rfl rfl ?_ | refine g_get hv 0 rfl rfl rfl rfl ?_ | refine g_get hv 1 rfl rfl rfl rfl ?_)
    subst hT
    exact g_iret hv rfl rfl rfl rfl ⟨rfl, rfl⟩
  · refine g_swk (off := 62) rfl (by decide) (by decide) ?_
    repeat (first | refine g_px rfl rfl rfl ?_ | refine g_get hv 0 rfl rfl rfl rfl ?_ | refine g_get hv 1 rfl rfl rfl rfl ?_)
    subst hT
    exact g_iret hv rfl rfl rfl rfl ⟨rfl, rfl⟩
  · refine g_swk (off := 70) rfl (by decide) (by decide) ?_
    repeat (first | refine g_px rfl rfl rfl ?_ | refine g_get hv 0 rfl rfl rfl rfl ?_ | refine g_get hv 1 rfl rfl rfl rfl ?_)
    refine g_ic rfl (fun cq => ?_) (fun cq => ?_)
    · have cq : ¬ hi = -1 := cq
      repeat (first | refine g_px rfl rfl rfl ?_)
      subst hT
      refine g_iret hv rfl rfl rfl rfl ?_
      exact ⟨by rw [mSiz, if_neg cq]; rfl, rfl⟩
    · have cq : ¬ ¬ hi = -1 := cq
      rw [Decidable.not_not] at cq
      repeat (first | refine g_px rfl rfl rfl ?_)
      subst hT
      refine g_iret hv rfl rfl rfl rfl ?_
      exact ⟨by rw [mSiz, if_pos cq]; rfl, rfl⟩
  · refine g_swk (off := 87) rfl (by decide) (by decide) ?_
    repeat (first | refine g_px rfl rfl rfl ?_ | refine g_get hv 0 rfl rfl rfl rfl ?_ | refine g_get hv 1 rfl rfl rfl rfl ?_)
    subst hT
    exact g_iret hv rfl rfl rfl rfl ⟨rfl, rfl⟩
  · refine g_swk (off := 95) rfl (by decide) (by decide) ?_
    repeat (first | refine g_px rfl rfl rfl ?_ | refine g_get hv 0 rfl rfl rfl rfl ?_)
    refine g_vI (L := 28) hv 2 (k := 26) (by decide) (by decide) rfl rfl ?_
    subst hT
    exact g_iret hv rfl rfl rfl rfl ⟨rfl, rfl⟩
  · refine g_swk (off := 103) rfl (by decide) (by decide) ?_
    repeat (first | refine g_px rfl rfl rfl ?_ | refine g_get hv 0 rfl rfl rfl rfl ?_)
    refine g_vI (L := 28) hv 2 (k := 27) (by decide) (by decide) rfl rfl ?_
    subst hT
    exact g_iret hv rfl rfl rfl rfl ⟨rfl, rfl⟩
  · refine g_swk (off := 111) rfl (by decide) (by decide) ?_
    repeat (first | refine g_px rfl rfl rfl ?_ | refine g_get hv 0 rfl rfl rfl rfl ?_)
    subst hT
    exact g_iret hv rfl rfl rfl rfl ⟨rfl, rfl⟩
  · refine g_swd rfl (by decide) ?_
    repeat (first | refine g_px rfl rfl rfl ?_ | refine g_get hv 0 rfl rfl rfl rfl ?_)
    subst hT
    exact g_iret hv rfl rfl rfl rfl ⟨rfl, rfl⟩
theorem s_Mspared (L : Nat) (hL : V 25 = nI L) : mj_Sx sta (d + 2) 215 [.ref 151] [(mo th tr wh (some q) rd F wd ac im lw tk st sh ru rz aw al sd), mdh q D hi er se, (153, aI 28 V)] (fun v w => v = some (.int (nI L)) ∧ w = [(mo 0 0 (-1) (some q) rd F wd ac im lw tk st sh ru rz aw al sd), mdh q D hi er se, (153, aI 28 V)]) := by
  refine mj_Sx.mk m_X10_spared (by decide) n_X10_spared rfl (fun h0 hv => ?_)
  generalize hT : mj_rx m_X10_spared h0 _ _ = T
  repeat (first | refine g_px rfl rfl rfl ?_)
  refine g_put hv 0 rfl rfl rfl rfl rfl rfl (fun h hv => ?_)
  have hv : mj_Vw h0 ([(mo 0 tr wh (some q) rd F wd ac im lw tk st sh ru rz aw al sd), mdh q D hi er se, (153, aI 28 V)]) h := hv
  repeat (first | refine g_px rfl rfl rfl ?_ | refine g_get hv 0 rfl rfl rfl rfl ?_)
  refine g_vI (L := 28) hv 2 (k := 25) (by decide) (by decide) rfl rfl ?_
  rw [hL]
  refine g_callV hv [0] 0 rfl rfl rfl rfl rfl rfl rfl rfl (by decide) (s_Mgood sta d 0 tr wh (some q) rd F wd ac im lw tk st sh ru rz aw al sd _) (fun v w' h hp hk2 hv => ?_)
  obtain ⟨rfl, rfl⟩ := hp
  subst hT
  exact g_iret hv rfl rfl rfl rfl ⟨rfl, rfl⟩
theorem s_Mmany (y : Nat) (SN : Nat → Nat) (hS : ∀ i, i < 6 → V i = nI (SN i)) (hsn : bd 4 SN) (hy : y < 4) (hn : D 1 ≤ 6) : mj_Sx sta (d + 2) 216 [.ref 151, (.int (nI y))] [(mo th tr wh (some q) rd F wd ac im lw tk st sh ru rz aw al sd), mdh q D hi er se, (153, aI 28 V)] (fun v w => v = some (.int (nI (fb_ct (fun m => decide (SN m = y)) (D 1)))) ∧ w = [(mo 0 0 (-1) (some q) rd F wd ac im lw tk st sh ru rz aw al sd), mdh q D hi er se, (153, aI 28 V)]) := by
  refine mj_Sx.mk m_X10_many (by decide) n_X10_many rfl (fun h0 hv => ?_)
  generalize hT : mj_rx m_X10_many h0 _ _ = T
  repeat (first | refine g_px rfl rfl rfl ?_)
  refine g_put hv 0 rfl rfl rfl rfl rfl rfl (fun h hv => ?_)
  have hv : mj_Vw h0 ([(mo 0 tr wh (some q) rd F wd ac im lw tk st sh ru rz aw al sd), mdh q D hi er se, (153, aI 28 V)]) h := hv
  repeat (first | refine g_px rfl rfl rfl ?_ | refine g_get hv 0 rfl rfl rfl rfl ?_)
  refine g_callS hv [] rfl rfl rfl rfl rfl rfl rfl (by decide) (s_Min sta d (nI y) _ _) (fun v w' h hp hk2 hv => ?_)
  obtain ⟨rfl, rfl⟩ := hp
  rw [show (decide (Int32.ofInt 0 ≤ nI y) && decide (nI y ≤ Int32.ofInt 3)) = inR 4 (nI y) from in_R 3 (by decide) (nI y), inR_k hy (by decide)]
  refine g_if rfl (fun cq => ?_) (fun cq => absurd (show ¬ bl true = 0 by decide) cq)
  have hv : mj_Vw h0 ([(mo 0 tr wh (some q) rd F wd ac im lw tk st sh ru rz aw al sd), mdh q D hi er se, (153, aI 28 V)]) h := hv
  have loop : ∀ j m h, m + j = D 1 → mj_Vw h0 ([(mo 0 tr wh (some q) rd F wd ac im lw tk st sh ru rz aw al sd), mdh q D hi er se, (153, aI 28 V)]) h → mj_go sta (mj_Cl sta (d + 1)) m_X10_many T 37 [some (.ref 151), some (.int (nI y)), some (.int (nI (fb_ct (fun m => decide (SN m = y)) m))), some (.int (nI m))] [] h := by
    intro j
    induction j with
    | zero =>
      intro m h hm hv
      have hm : m = D 1 := by omega
      subst hm
      repeat (first | refine g_px rfl rfl rfl ?_ | refine g_get hv 0 rfl rfl rfl rfl ?_ | refine g_get hv 1 rfl rfl rfl rfl ?_)
      refine g_ic rfl (fun cq => ?_) (fun cq => ?_)
      · repeat (first | refine g_px rfl rfl rfl ?_)
        refine g_callV hv [0] 0 rfl rfl rfl rfl rfl rfl rfl rfl (by decide) (s_Mgood sta d 0 tr wh (some q) rd F wd ac im lw tk st sh ru rz aw al sd _) (fun v w' h hp hk2 hv => ?_)
        obtain ⟨rfl, rfl⟩ := hp
        subst hT
        exact g_iret hv rfl rfl rfl rfl ⟨rfl, rfl⟩
      · simp (disch := omega) only [mj_cp, k_6, k_7, k_8, k_9, k_10, k_12, k_15, k_16, k_18, k_20, k_24, k_25, k_26, k_27, k_28, k_32, k_36, k_48, k_57, k_59, k_63, k_74, k_75, k_84, k_90, k_97, k_99, k_100, k_122, k_200, k_255, k_420, k_448, k_720, k_800, k_999, k_bit, k_shl, fa_and, nI_add, bl_1, bl_0, bl_n1, bl_n0, bl_i1, nI_lt0, nI_0le, nI_eq0, nI_eqT, nI_leI, nI_ltI, nI_eq, Nat.not_le, Nat.not_lt, Bool.not_eq_true, Bool.not_eq_false, not_true_eq_false, not_false_eq_true, Decidable.not_not] at cq
        omega
    | succ j ih =>
      intro m h hm hv
      have hsm := hsn m
      have hnx := ih (m + 1) h (by omega) hv
      rw [nI_succ, fb_ct_succ] at hnx
      repeat (first | refine g_px rfl rfl rfl ?_ | refine g_get hv 0 rfl rfl rfl rfl ?_ | refine g_get hv 1 rfl rfl rfl rfl ?_)
      refine g_ic rfl (fun cq => ?_) (fun cq => ?_)
      · simp (disch := omega) only [mj_cp, k_6, k_7, k_8, k_9, k_10, k_12, k_15, k_16, k_18, k_20, k_24, k_25, k_26, k_27, k_28, k_32, k_36, k_48, k_57, k_59, k_63, k_74, k_75, k_84, k_90, k_97, k_99, k_100, k_122, k_200, k_255, k_420, k_448, k_720, k_800, k_999, k_bit, k_shl, fa_and, nI_add, bl_1, bl_0, bl_n1, bl_n0, bl_i1, nI_lt0, nI_0le, nI_eq0, nI_eqT, nI_leI, nI_ltI, nI_eq, Nat.not_le, Nat.not_lt, Bool.not_eq_true, Bool.not_eq_false, not_true_eq_false, not_false_eq_true, Decidable.not_not] at cq
        omega
      · repeat (first | refine g_px rfl rfl rfl ?_ | refine g_get hv 0 rfl rfl rfl rfl ?_)
        rw [z_add]
        refine g_vI (L := 28) hv 2 (k := m) (by omega) (by decide) rfl rfl ?_
        rw [hS m (by omega)]
        repeat (first | refine g_px rfl rfl rfl ?_)
        refine g_ic rfl (fun cq => ?_) (fun cq => ?_)
        · have cq : ¬ nI (SN m) = nI y := cq
          rw [nI_eq (by omega) (by omega)] at cq
          rw [decide_eq_false cq, if_neg (by decide)] at hnx
          refine g_run 2 rfl ?_
          rw [show nI (fb_ct (fun m => decide (SN m = y)) m) + Int32.ofInt 0 = nI (fb_ct (fun m => decide (SN m = y)) m + 0) from nI_add _ 0]
          refine g_run 3 rfl ?_
          exact hnx
        · have cq : ¬ ¬ nI (SN m) = nI y := cq
          rw [nI_eq (by omega) (by omega), Decidable.not_not] at cq
          rw [decide_eq_true cq, if_pos rfl] at hnx
          refine g_run 3 rfl ?_
          rw [show nI (fb_ct (fun m => decide (SN m = y)) m) + Int32.ofInt 1 = nI (fb_ct (fun m => decide (SN m = y)) m + 1) from nI_add _ 1]
          refine g_run 3 rfl ?_
          exact hnx
  refine g_run 4 rfl ?_
  exact loop (D 1) 0 h (by omega) hv
theorem s_Mlot (k : Nat) (hd : Nat) (hk : k < D 1) (hn : D 1 ≤ 6) (hh : V 26 = nI hd) (h0' : 0 < hd) (h2 : hd < 2 ^ 31) : mj_Sx sta (d + 2) 274 [.ref 151, (.int (nI k))] [(mo th tr wh (some q) rd F wd ac im lw tk st sh ru rz aw al sd), mdh q D hi er se, (153, aI 28 V)] (fun v w => v = some (.int (V (12 + k))) ∧ w = [(mo 0 0 (-1) (some q) rd F wd ac im lw tk st sh ru rz aw al sd), mdh q D hi er se, (153, aI 28 V)]) := by
  refine mj_Sx.mk m_X10_lot (by decide) n_X10_lot rfl (fun h0 hv => ?_)
  generalize hT : mj_rx m_X10_lot h0 _ _ = T
  repeat (first | refine g_px rfl rfl rfl ?_)
  refine g_put hv 0 rfl rfl rfl rfl rfl rfl (fun h hv => ?_)
  have hv : mj_Vw h0 ([(mo 0 tr wh (some q) rd F wd ac im lw tk st sh ru rz aw al sd), mdh q D hi er se, (153, aI 28 V)]) h := hv
  repeat (first | refine g_px rfl rfl rfl ?_)
  refine g_callV hv [0, 1] 0 rfl rfl rfl rfl rfl rfl rfl rfl (by decide) (s_MisMan sta d 0 tr wh q rd F wd ac im lw tk st sh ru rz aw al sd D hi er se (nI k) hn) (fun v w' h hp hk2 hv => ?_)
  obtain ⟨rfl, rfl⟩ := hp
  rw [inR_k hk (by omega)]
  refine g_if rfl (fun cq => absurd cq (show ¬ bl true = 0 by decide)) (fun cq => ?_)
  have hv : mj_Vw h0 ([(mo 0 tr wh (some q) rd F wd ac im lw tk st sh ru rz aw al sd), mdh q D hi er se, (153, aI 28 V)]) h := hv
  repeat (first | refine g_px rfl rfl rfl ?_ | refine g_get hv 0 rfl rfl rfl rfl ?_)
  refine g_vI (L := 28) hv 2 (k := 26) (by decide) (by decide) rfl rfl ?_
  rw [hh]
  refine g_if rfl (fun cq => ?_) (fun cq => ?_)
  · have cq : nI hd ≤ nI 0 := cq
    rw [nI_leI (by omega) (by decide)] at cq
    omega
  · repeat (first | refine g_px rfl rfl rfl ?_ | refine g_get hv 0 rfl rfl rfl rfl ?_)
    rw [show (Int8.ofInt 12).toInt32 + nI k = nI (12 + k) from nI_add 12 k]
    refine g_vI (L := 28) hv 2 (k := 12 + k) (by omega) (by decide) rfl rfl ?_
    refine g_callV hv [0] 0 rfl rfl rfl rfl rfl rfl rfl rfl (by decide) (s_Mgood sta d 0 tr wh (some q) rd F wd ac im lw tk st sh ru rz aw al sd _) (fun v w' h hp hk2 hv => ?_)
    obtain ⟨rfl, rfl⟩ := hp
    repeat (first | refine g_px rfl rfl rfl ?_)
    subst hT
    exact g_iret hv rfl rfl rfl rfl ⟨rfl, rfl⟩
theorem s_Mlot_0 (k : Nat) (hk : k < D 1) (hn : D 1 ≤ 6) (hh : V 26 = 0) : mj_Sx sta (d + 2) 274 [.ref 151, (.int (nI k))] [(mo th tr wh (some q) rd F wd ac im lw tk st sh ru rz aw al sd), mdh q D hi er se, (153, aI 28 V)] (fun v w => v = some (.int (-1)) ∧ w = [(mo 0 1 (-1) (some q) rd F wd ac im lw tk st sh ru rz aw al sd), mdh q D hi er se, (153, aI 28 V)]) := by
  refine mj_Sx.mk m_X10_lot (by decide) n_X10_lot rfl (fun h0 hv => ?_)
  generalize hT : mj_rx m_X10_lot h0 _ _ = T
  repeat (first | refine g_px rfl rfl rfl ?_)
  refine g_put hv 0 rfl rfl rfl rfl rfl rfl (fun h hv => ?_)
  have hv : mj_Vw h0 ([(mo 0 tr wh (some q) rd F wd ac im lw tk st sh ru rz aw al sd), mdh q D hi er se, (153, aI 28 V)]) h := hv
  repeat (first | refine g_px rfl rfl rfl ?_)
  refine g_callV hv [0, 1] 0 rfl rfl rfl rfl rfl rfl rfl rfl (by decide) (s_MisMan sta d 0 tr wh q rd F wd ac im lw tk st sh ru rz aw al sd D hi er se (nI k) hn) (fun v w' h hp hk2 hv => ?_)
  obtain ⟨rfl, rfl⟩ := hp
  rw [inR_k hk (by omega)]
  refine g_if rfl (fun cq => absurd cq (show ¬ bl true = 0 by decide)) (fun cq => ?_)
  have hv : mj_Vw h0 ([(mo 0 tr wh (some q) rd F wd ac im lw tk st sh ru rz aw al sd), mdh q D hi er se, (153, aI 28 V)]) h := hv
  repeat (first | refine g_px rfl rfl rfl ?_ | refine g_get hv 0 rfl rfl rfl rfl ?_)
  refine g_vI (L := 28) hv 2 (k := 26) (by decide) (by decide) rfl rfl ?_
  rw [hh]
  refine g_if rfl (fun cq => ?_) (fun cq => absurd (cpT (by decide)) cq)
  repeat (first | refine g_px rfl rfl rfl ?_)
  refine g_callV hv [0] 0 rfl rfl rfl rfl rfl rfl rfl rfl (by decide) (s_Mrefused sta d 0 tr wh (some q) rd F wd ac im lw tk st sh ru rz aw al sd _) (fun v w' h hp hk2 hv => ?_)
  obtain ⟨rfl, rfl⟩ := hp
  subst hT
  exact g_iret hv rfl rfl rfl rfl ⟨rfl, rfl⟩
theorem s_Mseed (k : Nat) (hk : k < 65537) : mj_Sx sta (d + 3) 275 [.ref 151, (.int (nI k))] [(mo th tr wh (some q) rd F wd ac im lw tk st sh ru rz aw al sd), mdh q D hi er se, (153, aI 28 V)] (fun v w => v = some (.int (bl true)) ∧ w = [(mo 0 0 (-1) (some q) rd F wd ac im lw tk st sh ru rz aw al sd), mdh q D hi er se, (153, aI 28 (upd V 27 (nI k)))]) := by
  refine mj_Sx.mk m_X10_seed (by decide) n_X10_seed rfl (fun h0 hv => ?_)
  generalize hT : mj_rx m_X10_seed h0 _ _ = T
  repeat (first | refine g_px rfl rfl rfl ?_)
  refine g_put hv 0 rfl rfl rfl rfl rfl rfl (fun h hv => ?_)
  have hv : mj_Vw h0 ([(mo 0 tr wh (some q) rd F wd ac im lw tk st sh ru rz aw al sd), mdh q D hi er se, (153, aI 28 V)]) h := hv
  repeat (first | refine g_px rfl rfl rfl ?_ | refine g_get hv 0 rfl rfl rfl rfl ?_)
  refine g_callS hv [] rfl rfl rfl rfl rfl rfl rfl (by decide) (s_Min sta (d + 1) (nI k) _ _) (fun v w' h hp hk2 hv => ?_)
  obtain ⟨rfl, rfl⟩ := hp
  rw [show (decide (Int32.ofInt 0 ≤ nI k) && decide (nI k ≤ Int32.ofInt 65536)) = inR 65537 (nI k) from in_R 65536 (by decide) (nI k), inR_k hk (by decide)]
  refine g_if rfl (fun cq => ?_) (fun cq => absurd (show ¬ bl true = 0 by decide) cq)
  have hv : mj_Vw h0 ([(mo 0 tr wh (some q) rd F wd ac im lw tk st sh ru rz aw al sd), mdh q D hi er se, (153, aI 28 V)]) h := hv
  repeat (first | refine g_px rfl rfl rfl ?_ | refine g_get hv 0 rfl rfl rfl rfl ?_)
  refine g_vIs (L := 28) hv 2 (k := 27) (by decide) (by decide) rfl rfl (fun h hv => ?_)
  have hv : mj_Vw h0 ([(mo 0 tr wh (some q) rd F wd ac im lw tk st sh ru rz aw al sd), mdh q D hi er se, (153, aI 28 (upd V 27 (nI k)))]) h := hv
  repeat (first | refine g_px rfl rfl rfl ?_)
  refine g_callV hv [0] 0 rfl rfl rfl rfl rfl rfl rfl rfl (by decide) (s_Mgranted sta d 0 tr wh (some q) rd F wd ac im lw tk st sh ru rz aw al sd) (fun v w' h hp hk2 hv => ?_)
  obtain ⟨rfl, rfl⟩ := hp
  subst hT
  exact g_iret hv rfl rfl rfl rfl ⟨rfl, rfl⟩
theorem s_Mman (k y L : Nat) (SN C : Nat → Nat) (hk : k < D 1) (hy : y < 6) (hV : vN V L SN C) (hn : D 1 ≤ 6) (hL : L < 16) (hsn : bd 4 SN) : mj_Sx sta (d + 2) 214 [.ref 151, (.int (nI k)), (.int (nI y))] (wg (mo th tr wh (some q) rd F wd ac im lw tk st sh ru rz aw al sd) q D hi er se (MA 1) (MA 3) (MA 4) V r sn g f) (fun v w => v = some (.int (mManA MA L SN C k y)) ∧ w = wg (mo 0 0 (-1) (some q) rd F wd ac im lw tk st sh ru rz aw al sd) q D hi er se (MA 1) (MA 3) (MA 4) V r sn g f) := by
  refine mj_Sx.mk m_X10_man (by decide) n_X10_man rfl (fun h0 hv => ?_)
  generalize hT : mj_rx m_X10_man h0 _ _ = T
  have hk6 : k < 6 := by omega
  have hsk := hsn k
  obtain ⟨hV1, hV2, hV3⟩ := hV
  repeat (first | refine g_px rfl rfl rfl ?_)
  refine g_put hv 0 rfl rfl rfl rfl rfl rfl (fun h hv => ?_)
  have hv : mj_Vw h0 (wg (mo 0 tr wh (some q) rd F wd ac im lw tk st sh ru rz aw al sd) q D hi er se (MA 1) (MA 3) (MA 4) V r sn g f) h := hv
  repeat (first | refine g_px rfl rfl rfl ?_)
  refine g_callV hv [0, 1] 0 rfl rfl rfl rfl rfl rfl rfl rfl (by decide) (s_MisMan sta d 0 tr wh q rd F wd ac im lw tk st sh ru rz aw al sd D hi er se (nI k) hn) (fun v w' h hp hk2 hv => ?_)
  obtain ⟨rfl, rfl⟩ := hp
  rw [inR_k hk (by omega)]
  refine g_if rfl (fun cq => absurd cq (show ¬ bl true = 0 by decide)) (fun cq => ?_)
  have hv : mj_Vw h0 (wg (mo 0 tr wh (some q) rd F wd ac im lw tk st sh ru rz aw al sd) q D hi er se (MA 1) (MA 3) (MA 4) V r sn g f) h := hv
  repeat (first | refine g_px rfl rfl rfl ?_)
  refine g_callS hv [] rfl rfl rfl rfl rfl rfl rfl (by decide) (s_Min sta d (nI y) _ _) (fun v w' h hp hk2 hv => ?_)
  obtain ⟨rfl, rfl⟩ := hp
  rw [show (decide (Int32.ofInt 0 ≤ nI y) && decide (nI y ≤ Int32.ofInt 5)) = inR 6 (nI y) from in_R 5 (by decide) (nI y), inR_k hy (by decide)]
  refine g_if rfl (fun cq => ?_) (fun cq => absurd (show ¬ bl true = 0 by decide) cq)
  have hv : mj_Vw h0 (wg (mo 0 tr wh (some q) rd F wd ac im lw tk st sh ru rz aw al sd) q D hi er se (MA 1) (MA 3) (MA 4) V r sn g f) h := hv
  refine g_run 1 rfl ?_
  have hy6 : y = 0 ∨ y = 1 ∨ y = 2 ∨ y = 3 ∨ y = 4 ∨ y = 5 := by omega
  rcases hy6 with rfl | rfl | rfl | rfl | rfl | rfl
  · refine g_swk (off := 35) rfl (by decide) (by decide) ?_
    repeat (first | refine g_px rfl rfl rfl ?_ | refine g_get hv 0 rfl rfl rfl rfl ?_)
    rw [z_add]
    refine g_vI (L := 28) hv 5 (k := k) (by omega) (by decide) rfl rfl ?_
    rw [hV2 k hk6]
    refine g_callV hv [0] 0 rfl rfl rfl rfl rfl rfl rfl rfl (by decide) (s_Mgood sta d 0 tr wh (some q) rd F wd ac im lw tk st sh ru rz aw al sd _) (fun v w' h hp hk2 hv => ?_)
    obtain ⟨rfl, rfl⟩ := hp
    subst hT
    exact g_iret hv rfl rfl rfl rfl ⟨rfl, rfl⟩
  · refine g_swk (off := 48) rfl (by decide) (by decide) ?_
    repeat (first | refine g_px rfl rfl rfl ?_ | refine g_get hv 0 rfl rfl rfl rfl ?_ | refine g_get hv 1 rfl rfl rfl rfl ?_)
    refine g_n6 hv 2 hk6 rfl rfl ?_
    refine g_callV hv [0] 0 rfl rfl rfl rfl rfl rfl rfl rfl (by decide) (s_Mgood sta d 0 tr wh (some q) rd F wd ac im lw tk st sh ru rz aw al sd _) (fun v w' h hp hk2 hv => ?_)
    obtain ⟨rfl, rfl⟩ := hp
    subst hT
    exact g_iret hv rfl rfl rfl rfl ⟨rfl, rfl⟩
  · refine g_swk (off := 62) rfl (by decide) (by decide) ?_
    repeat (first | refine g_px rfl rfl rfl ?_ | refine g_get hv 0 rfl rfl rfl rfl ?_)
    rw [show (Int8.ofInt 6).toInt32 + nI k = nI (6 + k) from nI_add 6 k]
    refine g_vI (L := 28) hv 5 (k := 6 + k) (by omega) (by decide) rfl rfl ?_
    rw [hV3 k hk6]
    refine g_callV hv [0] 0 rfl rfl rfl rfl rfl rfl rfl rfl (by decide) (s_Mgood sta d 0 tr wh (some q) rd F wd ac im lw tk st sh ru rz aw al sd _) (fun v w' h hp hk2 hv => ?_)
    obtain ⟨rfl, rfl⟩ := hp
    subst hT
    exact g_iret hv rfl rfl rfl rfl ⟨rfl, rfl⟩
  · refine g_swk (off := 76) rfl (by decide) (by decide) ?_
    repeat (first | refine g_px rfl rfl rfl ?_ | refine g_get hv 0 rfl rfl rfl rfl ?_ | refine g_get hv 1 rfl rfl rfl rfl ?_)
    refine g_n6 hv 3 hk6 rfl rfl ?_
    refine g_callV hv [0] 0 rfl rfl rfl rfl rfl rfl rfl rfl (by decide) (s_Mgood sta d 0 tr wh (some q) rd F wd ac im lw tk st sh ru rz aw al sd _) (fun v w' h hp hk2 hv => ?_)
    obtain ⟨rfl, rfl⟩ := hp
    subst hT
    exact g_iret hv rfl rfl rfl rfl ⟨rfl, rfl⟩
  · refine g_swk (off := 90) rfl (by decide) (by decide) ?_
    repeat (first | refine g_px rfl rfl rfl ?_ | refine g_get hv 0 rfl rfl rfl rfl ?_ | refine g_get hv 1 rfl rfl rfl rfl ?_)
    refine g_n6 hv 4 hk6 rfl rfl ?_
    refine g_callV hv [0] 0 rfl rfl rfl rfl rfl rfl rfl rfl (by decide) (s_Mgood sta d 0 tr wh (some q) rd F wd ac im lw tk st sh ru rz aw al sd _) (fun v w' h hp hk2 hv => ?_)
    obtain ⟨rfl, rfl⟩ := hp
    subst hT
    exact g_iret hv rfl rfl rfl rfl ⟨rfl, rfl⟩
  · refine g_swd rfl (by decide) ?_
    repeat (first | refine g_px rfl rfl rfl ?_ | refine g_get hv 0 rfl rfl rfl rfl ?_)
    refine g_vI (L := 28) hv 5 (k := 25) (by decide) (by decide) rfl rfl ?_
    rw [hV1]
    repeat (first | refine g_px rfl rfl rfl ?_ | refine g_get hv 0 rfl rfl rfl rfl ?_)
    rw [z_add]
    refine g_vI (L := 28) hv 5 (k := k) (by omega) (by decide) rfl rfl ?_
    rw [hV2 k hk6]
    refine g_callS hv [] rfl rfl rfl rfl rfl rfl rfl (by decide) (s_Mbit sta d L (SN k) (by omega) (by omega)) (fun v w' h hp hk2 hv => ?_)
    obtain ⟨rfl, rfl⟩ := hp
    have hv : mj_Vw h0 (wg (mo 0 tr wh (some q) rd F wd ac im lw tk st sh ru rz aw al sd) q D hi er se (MA 1) (MA 3) (MA 4) V r sn g f) h := hv
    refine g_if rfl (fun cq => ?_) (fun cq => ?_)
    · have cq : bl (L.testBit (SN k)) = 0 := cq
      rw [bl_0] at cq
      refine g_run 1 rfl ?_
      refine g_callV hv [0] 0 rfl rfl rfl rfl rfl rfl rfl rfl (by decide) (s_Mgood sta d 0 tr wh (some q) rd F wd ac im lw tk st sh ru rz aw al sd _) (fun v w' h hp hk2 hv => ?_)
      obtain ⟨rfl, rfl⟩ := hp
      subst hT
      refine g_iret hv rfl rfl rfl rfl ?_
      exact ⟨by rw [show mManA MA L SN C k 5 = bl (L.testBit (SN k)) from rfl, cq]; rfl, rfl⟩
    · have cq : ¬ bl (L.testBit (SN k)) = 0 := cq
      rw [bl_0, Bool.not_eq_false] at cq
      refine g_run 2 rfl ?_
      refine g_callV hv [0] 0 rfl rfl rfl rfl rfl rfl rfl rfl (by decide) (s_Mgood sta d 0 tr wh (some q) rd F wd ac im lw tk st sh ru rz aw al sd _) (fun v w' h hp hk2 hv => ?_)
      obtain ⟨rfl, rfl⟩ := hp
      subst hT
      refine g_iret hv rfl rfl rfl rfl ?_
      exact ⟨by rw [show mManA MA L SN C k 5 = bl (L.testBit (SN k)) from rfl, cq]; rfl, rfl⟩
theorem s_Mman_y (k : Nat) (y : Int32) (hk : k < D 1) (hy : inR 6 y = false) (hn : D 1 ≤ 6) : mj_Sx sta (d + 2) 214 [.ref 151, (.int (nI k)), .int y] [(mo th tr wh (some q) rd F wd ac im lw tk st sh ru rz aw al sd), mdh q D hi er se] (fun v w => v = some (.int (-1)) ∧ w = [(mo 0 1 (-1) (some q) rd F wd ac im lw tk st sh ru rz aw al sd), mdh q D hi er se]) := by
  refine mj_Sx.mk m_X10_man (by decide) n_X10_man rfl (fun h0 hv => ?_)
  generalize hT : mj_rx m_X10_man h0 _ _ = T
  repeat (first | refine g_px rfl rfl rfl ?_)
  refine g_put hv 0 rfl rfl rfl rfl rfl rfl (fun h hv => ?_)
  have hv : mj_Vw h0 ([(mo 0 tr wh (some q) rd F wd ac im lw tk st sh ru rz aw al sd), mdh q D hi er se]) h := hv
  repeat (first | refine g_px rfl rfl rfl ?_)
  refine g_callV hv [0, 1] 0 rfl rfl rfl rfl rfl rfl rfl rfl (by decide) (s_MisMan sta d 0 tr wh q rd F wd ac im lw tk st sh ru rz aw al sd D hi er se (nI k) hn) (fun v w' h hp hk2 hv => ?_)
  obtain ⟨rfl, rfl⟩ := hp
  rw [inR_k hk (by omega)]
  refine g_if rfl (fun cq => absurd cq (show ¬ bl true = 0 by decide)) (fun cq => ?_)
  have hv : mj_Vw h0 ([(mo 0 tr wh (some q) rd F wd ac im lw tk st sh ru rz aw al sd), mdh q D hi er se]) h := hv
  repeat (first | refine g_px rfl rfl rfl ?_)
  refine g_callS hv [] rfl rfl rfl rfl rfl rfl rfl (by decide) (s_Min sta d y _ _) (fun v w' h hp hk2 hv => ?_)
  obtain ⟨rfl, rfl⟩ := hp
  rw [show (decide (Int32.ofInt 0 ≤ y) && decide (y ≤ Int32.ofInt 5)) = inR 6 y from in_R 5 (by decide) y, hy]
  refine g_if rfl (fun cq => absurd rfl cq) (fun cq => ?_)
  have hv : mj_Vw h0 ([(mo 0 tr wh (some q) rd F wd ac im lw tk st sh ru rz aw al sd), mdh q D hi er se]) h := hv
  repeat (first | refine g_px rfl rfl rfl ?_)
  refine g_callV hv [0] 0 rfl rfl rfl rfl rfl rfl rfl rfl (by decide) (s_Mrefused sta d 0 tr wh (some q) rd F wd ac im lw tk st sh ru rz aw al sd _) (fun v w' h hp hk2 hv => ?_)
  obtain ⟨rfl, rfl⟩ := hp
  subst hT
  exact g_iret hv rfl rfl rfl rfl ⟨rfl, rfl⟩
end Mn
