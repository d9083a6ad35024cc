/-! the reference: the doctor, agents -/
theorem s_Mleast (sta : mj_S) (d a b : Nat) (ha : a < 2 ^ 31) (hb : b < 2 ^ 31) : mj_Sx sta (d + 1) 255 [(.int (nI a)), (.int (nI b))] [] (fun v w => v = some (.int (nI (min a b))) ∧ w = []) := by
  refine mj_Sx.mk m_X10_least (by decide) n_X10_least rfl (fun h0 hv => ?_)
  generalize hT : mj_rx m_X10_least h0 _ _ = T
  repeat (first | refine g_px rfl rfl rfl ?_)
  refine g_ic rfl (fun cq => ?_) (fun cq => ?_)
  · have cq : nI b ≤ nI a := cq
    rw [nI_leI hb ha] at cq
    repeat (first | refine g_px rfl rfl rfl ?_)
    subst hT
    refine g_iret hv rfl rfl rfl rfl ?_
    exact ⟨by rw [Nat.min_eq_right cq], rfl⟩
  · have cq : ¬ nI b ≤ nI a := cq
    rw [nI_leI hb ha] at cq
    repeat (first | refine g_px rfl rfl rfl ?_)
    subst hT
    refine g_iret hv rfl rfl rfl rfl ?_
    exact ⟨by rw [Nat.min_eq_left (by omega)], rfl⟩
theorem s_Mgets (sta : mj_S) (d mn o r : Nat) (hm : mn < 100) (ho : o < 10) (hr : r < 10) : mj_Sx sta (d + 2) 256 [(.int (nI mn)), (.int (nI o)), (.int (nI r))] [] (fun v w => v = some (.int (gn mn o r)) ∧ w = []) := by
  refine mj_Sx.mk m_X10_gets (by decide) n_X10_gets rfl (fun h0 hv => ?_)
  generalize hT : mj_rx m_X10_gets h0 _ _ = T
  have fin : ∀ h l, mj_Vw h0 [] h → l = gsl mn o r → mj_go sta (mj_Cl sta (d + 1)) m_X10_gets T 39 [some (.int (nI mn)), some (.int (nI o)), some (.int (nI r)), none] [(.int (nI l))] h := by
    intro h l hv he
    repeat (first | refine g_px rfl rfl rfl ?_)
    subst hT
    refine g_iret hv rfl rfl rfl rfl ⟨?_, rfl⟩
    rw [gn, ← he]
    rfl
  repeat (first | refine g_px rfl rfl rfl ?_)
  refine g_ic rfl (fun cq => ?_) (fun cq => ?_)
  · simp (disch := omega) only [mj_cp, k_6, k_7, k_8, k_9, k_10, k_12, k_15, k_16, k_18, k_20, k_24, k_25, k_26, k_27, k_28, k_32, k_36, k_48, k_57, k_59, k_63, k_74, k_75, k_84, k_90, k_97, k_99, k_100, k_122, k_200, k_255, k_420, k_448, k_720, k_800, k_999, k_bit, k_shl, fa_and, nI_add, bl_1, bl_0, bl_n1, bl_n0, bl_i1, nI_lt0, nI_0le, nI_eq0, nI_eqT, nI_leI, nI_ltI, nI_eq, Nat.not_le, Nat.not_lt, Bool.not_eq_true, Bool.not_eq_false, not_true_eq_false, not_false_eq_true, Decidable.not_not] at cq
    repeat (first | refine g_px rfl rfl rfl ?_)
    refine g_ic rfl (fun cq => ?_) (fun cq => ?_)
    · have cq : ¬ nI o = nI r := cq
      rw [nI_eq (by omega) (by omega)] at cq
      repeat (first | refine g_px rfl rfl rfl ?_)
      refine g_callS hv [] rfl rfl rfl rfl rfl rfl rfl (by decide) (s_Mleast sta d 3 mn (by decide) (by omega)) (fun v w' h hp hk2 hv => ?_)
      obtain ⟨rfl, rfl⟩ := hp
      refine g_run 1 rfl ?_
      rw [pk_sub (by omega)]
      refine g_callS hv [] rfl rfl rfl rfl rfl rfl rfl (by decide) (s_Mleast sta d 3 (mn - min 3 mn) (by decide) (by omega)) (fun v w' h hp hk2 hv => ?_)
      obtain ⟨rfl, rfl⟩ := hp
      exact fin h _ hv (by rw [gsl, if_neg (by omega), if_pos (by omega), Nat.min_comm 3 mn, Nat.min_comm])
    · have cq : ¬ ¬ nI o = nI r := cq
      rw [nI_eq (by omega) (by omega), Decidable.not_not] at cq
      refine g_run 4 rfl ?_
      rw [show nI mn / Int32.ofInt 2 = nI (mn / 2) from pk_div (d := 2) (by omega) (by decide) (by decide)]
      refine g_callS hv [] rfl rfl rfl rfl rfl rfl rfl (by decide) (s_Mleast sta d 3 (mn / 2) (by decide) (by omega)) (fun v w' h hp hk2 hv => ?_)
      obtain ⟨rfl, rfl⟩ := hp
      refine g_run 1 rfl ?_
      exact fin h _ hv (by rw [gsl, if_pos cq, Nat.min_comm])
  · simp (disch := omega) only [mj_cp, k_6, k_7, k_8, k_9, k_10, k_12, k_15, k_16, k_18, k_20, k_24, k_25, k_26, k_27, k_28, k_32, k_36, k_48, k_57, k_59, k_63, k_74, k_75, k_84, k_90, k_97, k_99, k_100, k_122, k_200, k_255, k_420, k_448, k_720, k_800, k_999, k_bit, k_shl, fa_and, nI_add, bl_1, bl_0, bl_n1, bl_n0, bl_i1, nI_lt0, nI_0le, nI_eq0, nI_eqT, nI_leI, nI_ltI, nI_eq, Nat.not_le, Nat.not_lt, Bool.not_eq_true, Bool.not_eq_false, not_true_eq_false, not_false_eq_true, Decidable.not_not] at cq
    repeat (first | refine g_px rfl rfl rfl ?_)
    refine g_callS hv [] rfl rfl rfl rfl rfl rfl rfl (by decide) (s_Mleast sta d 3 mn (by decide) (by omega)) (fun v w' h hp hk2 hv => ?_)
    obtain ⟨rfl, rfl⟩ := hp
    refine g_run 1 rfl ?_
    exact fin h _ hv (by rw [gsl, if_neg (by omega), if_neg (by omega), Nat.min_comm])
theorem s_MisRest (sta : mj_S) (d mn o r : Nat) (hm : mn < 100) (ho : o < 10) (hr : r < 10) : mj_Sx sta (d + 3) 259 [(.int (nI mn)), (.int (nI o)), (.int (nI r))] [] (fun v w => v = some (.int (bl (rst mn o r))) ∧ w = []) := by
  refine mj_Sx.mk m_X10_isRest (by decide) n_X10_isRest rfl (fun h0 hv => ?_)
  generalize hT : mj_rx m_X10_isRest h0 _ _ = T
  have loop : ∀ j k h, k + j = 10 → bbr mn o r k = true → bbr mn r o k = true → mj_Vw h0 [] h → mj_go sta (mj_Cl sta (d + 2)) m_X10_isRest T 2 [some (.int (nI mn)), some (.int (nI o)), some (.int (nI r)), some (.int (nI k))] [] h := by
    intro j
    induction j with
    | zero =>
      intro k h hk hb hb2 hv
      have hk : k = 10 := by omega
      subst hk
      repeat (first | refine g_px rfl rfl rfl ?_)
      refine g_ic rfl (fun cq => ?_) (fun cq => absurd (cpT (by decide)) cq)
      repeat (first | refine g_px rfl rfl rfl ?_)
      subst hT
      exact g_iret hv rfl rfl rfl rfl ⟨by rw [rst, hb, hb2]; rfl, rfl⟩
    | succ j ih =>
      intro k h hk hb hb2 hv
      repeat (first | refine g_px rfl rfl rfl ?_)
      refine g_ic rfl (fun cq => ?_) (fun cq => ?_)
      · simp (disch := omega) only [mj_cp, k_6, k_7, k_8, k_9, k_10, k_12, k_15, k_16, k_18, k_20, k_24, k_25, k_26, k_27, k_28, k_32, k_36, k_48, k_57, k_59, k_63, k_74, k_75, k_84, k_90, k_97, k_99, k_100, k_122, k_200, k_255, k_420, k_448, k_720, k_800, k_999, k_bit, k_shl, fa_and, nI_add, bl_1, bl_0, bl_n1, bl_n0, bl_i1, nI_lt0, nI_0le, nI_eq0, nI_eqT, nI_leI, nI_ltI, nI_eq, Nat.not_le, Nat.not_lt, Bool.not_eq_true, Bool.not_eq_false, not_true_eq_false, not_false_eq_true, Decidable.not_not] at cq
        omega
      · repeat (first | refine g_px rfl rfl rfl ?_)
        refine g_callS hv [] rfl rfl rfl rfl rfl rfl rfl (by decide) (s_Mgets sta d mn k r hm (by omega) hr) (fun v w' h hp hk2 hv => ?_)
        obtain ⟨rfl, rfl⟩ := hp
        repeat (first | refine g_px rfl rfl rfl ?_)
        refine g_callS hv [] rfl rfl rfl rfl rfl rfl rfl (by decide) (s_Mgets sta d mn o r hm ho hr) (fun v w' h hp hk2 hv => ?_)
        obtain ⟨rfl, rfl⟩ := hp
        refine g_ic rfl (fun cq => ?_) (fun cq => ?_)
        · have cq : gn mn o r < gn mn k r := cq
          repeat (first | refine g_px rfl rfl rfl ?_)
          subst hT
          exact g_iret hv rfl rfl rfl rfl ⟨by rw [rst, bbr_no cq 10 (by omega)]; rfl, rfl⟩
        · have cq : ¬ gn mn o r < gn mn k r := cq
          have h1 := cq
          repeat (first | refine g_px rfl rfl rfl ?_)
          refine g_callS hv [] rfl rfl rfl rfl rfl rfl rfl (by decide) (s_Mgets sta d mn k o hm (by omega) ho) (fun v w' h hp hk2 hv => ?_)
          obtain ⟨rfl, rfl⟩ := hp
          repeat (first | refine g_px rfl rfl rfl ?_)
          refine g_callS hv [] rfl rfl rfl rfl rfl rfl rfl (by decide) (s_Mgets sta d mn r o hm hr ho) (fun v w' h hp hk2 hv => ?_)
          obtain ⟨rfl, rfl⟩ := hp
          refine g_ic rfl (fun cq => ?_) (fun cq => ?_)
          · have cq : gn mn k o ≤ gn mn r o := cq
            refine g_run 2 rfl ?_
            have hnx := ih (k + 1) h (by omega) (by rw [bbr, hb, decide_eq_false h1]; rfl) (by rw [bbr, hb2, decide_eq_false (Int32.not_lt.mpr cq)]; rfl) hv
            rw [nI_succ] at hnx
            exact hnx
          · have cq : ¬ gn mn k o ≤ gn mn r o := cq
            repeat (first | refine g_px rfl rfl rfl ?_)
            subst hT
            exact g_iret hv rfl rfl rfl rfl ⟨by rw [rst, bbr_no (Int32.not_le.mp cq) 10 (by omega), Bool.and_false]; rfl, rfl⟩
  refine g_run 2 rfl ?_
  exact loop 10 0 h0 (by omega) rfl rfl hv
section Md
variable (sta : mj_S) (d : Nat) (th tr wh : Int32) (q : Nat) (dr rd : Option Nat) (F : Nat → Int32) (wd : Int64) (ac im lw tk st : Int32) (sh ru : Int64) (rz aw al sd : Int32)
theorem s_Mrests (x : Nat) (hx : x < 100) : mj_Sx sta (d + 4) 260 [.ref 151, (.int (nI x))] [(mo th tr wh (some q) rd F wd ac im lw tk st sh ru rz aw al sd)] (fun v w => v = some (.int (nI (fb_ct (fun p => rst x (p / 10) (p % 10)) 100))) ∧ w = [(mo 0 0 (-1) (some q) rd F wd ac im lw tk st sh ru rz aw al sd)]) := by
  refine mj_Sx.mk m_X10_rests (by decide) n_X10_rests rfl (fun h0 hv => ?_)
  generalize hT : mj_rx m_X10_rests h0 _ _ = T
  have loop : ∀ j p h, p + j = 100 → mj_Vw h0 [(mo 0 tr wh (some q) rd F wd ac im lw tk st sh ru rz aw al sd)] h → mj_go sta (mj_Cl sta (d + 3)) m_X10_rests T 26 [some (.ref 151), some (.int (nI x)), some (.int 0), some (.int (nI (fb_ct (fun p => rst x (p / 10) (p % 10)) p))), some (.int (nI p))] [] h := by
    intro j
    induction j with
    | zero =>
      intro p h hp hv
      have hp : p = 100 := by omega
      subst hp
      repeat (first | refine g_px rfl rfl rfl ?_)
      refine g_ic rfl (fun cq => ?_) (fun cq => absurd (cpT (by decide)) cq)
      repeat (first | refine g_px rfl rfl rfl ?_)
      refine g_callV hv [0] 0 rfl rfl rfl rfl rfl rfl rfl rfl (by decide) (s_Mgood sta (d + 2) 0 tr wh (some q) rd F wd ac im lw tk st sh ru rz aw al sd _) (fun v w' h hp hk2 hv => ?_)
      obtain ⟨rfl, rfl⟩ := hp
      subst hT
      exact g_iret hv rfl rfl rfl rfl ⟨rfl, rfl⟩
    | succ j ih =>
      intro p h hp hv
      repeat (first | refine g_px rfl rfl rfl ?_)
      refine g_ic rfl (fun cq => ?_) (fun cq => ?_)
      · simp (disch := omega) only [mj_cp, k_6, k_7, k_8, k_9, k_10, k_12, k_15, k_16, k_18, k_20, k_24, k_25, k_26, k_27, k_28, k_32, k_36, k_48, k_57, k_59, k_63, k_74, k_75, k_84, k_90, k_97, k_99, k_100, k_122, k_200, k_255, k_420, k_448, k_720, k_800, k_999, k_bit, k_shl, fa_and, nI_add, bl_1, bl_0, bl_n1, bl_n0, bl_i1, nI_lt0, nI_0le, nI_eq0, nI_eqT, nI_leI, nI_ltI, nI_eq, Nat.not_le, Nat.not_lt, Bool.not_eq_true, Bool.not_eq_false, not_true_eq_false, not_false_eq_true, Decidable.not_not] at cq
        omega
      · refine g_run 5 rfl ?_
        rw [show nI p / (Int8.ofInt 10).toInt32 = nI (p / 10) from pk_div (d := 10) (by omega) (by decide) (by decide)]
        refine g_run 3 rfl ?_
        rw [show nI p - nI p / (Int8.ofInt 10).toInt32 * (Int8.ofInt 10).toInt32 = nI (p % 10) from pk_rem (d := 10) (by omega) (by decide) (by decide)]
        refine g_callS hv [] rfl rfl rfl rfl rfl rfl rfl (by decide) (s_MisRest sta d x (p / 10) (p % 10) hx (by omega) (by omega)) (fun v w' h hp hk2 hv => ?_)
        obtain ⟨rfl, rfl⟩ := hp
        have hv : mj_Vw h0 ([(mo 0 tr wh (some q) rd F wd ac im lw tk st sh ru rz aw al sd)]) h := hv
        have hnx := ih (p + 1) h (by omega) hv
        rw [nI_succ, fb_ct_succ] at hnx
        refine g_if rfl (fun cq => ?_) (fun cq => ?_)
        · have cq : bl (rst x (p / 10) (p % 10)) = 0 := cq
          rw [bl_0] at cq
          rw [cq, if_neg (by decide)] at hnx
          refine g_run 2 rfl ?_
          rw [show nI (fb_ct (fun p => rst x (p / 10) (p % 10)) p) + Int32.ofInt 0 = nI (fb_ct (fun p => rst x (p / 10) (p % 10)) p + 0) from nI_add _ 0]
          refine g_run 3 rfl ?_
          exact hnx
        · have cq : ¬ bl (rst x (p / 10) (p % 10)) = 0 := cq
          rw [bl_0, Bool.not_eq_false] at cq
          rw [cq, if_pos rfl] at hnx
          refine g_run 3 rfl ?_
          rw [show nI (fb_ct (fun p => rst x (p / 10) (p % 10)) p) + Int32.ofInt 1 = nI (fb_ct (fun p => rst x (p / 10) (p % 10)) p + 1) from nI_add _ 1]
          refine g_run 3 rfl ?_
          exact hnx
  repeat (first | refine g_px rfl rfl rfl ?_)
  refine g_put hv 0 rfl rfl rfl rfl rfl rfl (fun h hv => ?_)
  have hv : mj_Vw h0 ([(mo 0 tr wh (some q) rd F wd ac im lw tk st sh ru rz aw al sd)]) h := hv
  repeat (first | refine g_px rfl rfl rfl ?_)
  refine g_callV hv [0] 0 rfl rfl rfl rfl rfl rfl rfl rfl (by decide) (s_MrefusesMany sta (d + 1) 0 tr wh q rd F wd ac im lw tk st sh ru rz aw al sd (nI x)) (fun v w' h hp hk2 hv => ?_)
  obtain ⟨rfl, rfl⟩ := hp
  rw [inR_k hx (by decide)]
  have hv : mj_Vw h0 ([(mo 0 tr wh (some q) rd F wd ac im lw tk st sh ru rz aw al sd)]) h := hv
  repeat (first | refine g_px rfl rfl rfl ?_)
  refine g_if rfl (fun cq => ?_) (fun cq => absurd (cpT (by decide)) cq)
  refine g_run 4 rfl ?_
  exact loop 100 0 h (by omega) hv
theorem s_Mrest (x : Nat) (hx : x < 100) : mj_Sx sta (d + 4) 261 [.ref 151, (.int (nI x))] [(mo th tr wh (some q) rd F wd ac im lw tk st sh ru rz aw al sd)] (fun v w => v = some (.int (snd (frs (fun p => rst x (p / 10) (p % 10)) 100 0))) ∧ w = [(mo 0 0 (-1) (some q) rd F wd ac im lw tk st sh ru rz aw al sd)]) := by
  refine mj_Sx.mk m_X10_rest (by decide) n_X10_rest rfl (fun h0 hv => ?_)
  generalize hT : mj_rx m_X10_rest h0 _ _ = T
  generalize hR : frs (fun p => rst x (p / 10) (p % 10)) 100 0 = R at hT
  have loop : ∀ j p h, p + j = 100 → R = frs (fun p => rst x (p / 10) (p % 10)) j p → mj_Vw h0 [(mo 0 tr wh (some q) rd F wd ac im lw tk st sh ru rz aw al sd)] h → mj_go sta (mj_Cl sta (d + 3)) m_X10_rest T 23 [some (.ref 151), some (.int (nI x)), some (.int 0), some (.int (nI p))] [] h := by
    intro j
    induction j with
    | zero =>
      intro p h hp he hv
      have hp : p = 100 := by omega
      subst hp
      repeat (first | refine g_px rfl rfl rfl ?_)
      refine g_ic rfl (fun cq => ?_) (fun cq => absurd (cpT (by decide)) cq)
      repeat (first | refine g_px rfl rfl rfl ?_)
      refine g_callV hv [0] 0 rfl rfl rfl rfl rfl rfl rfl rfl (by decide) (s_Mgood sta (d + 2) 0 tr wh (some q) rd F wd ac im lw tk st sh ru rz aw al sd _) (fun v w' h hp hk2 hv => ?_)
      obtain ⟨rfl, rfl⟩ := hp
      subst hT
      exact g_iret hv rfl rfl rfl rfl ⟨by rw [he]; rfl, rfl⟩
    | succ j ih =>
      intro p h hp he hv
      rw [frs] at he
      repeat (first | refine g_px rfl rfl rfl ?_)
      refine g_ic rfl (fun cq => ?_) (fun cq => ?_)
      · simp (disch := omega) only [mj_cp, k_6, k_7, k_8, k_9, k_10, k_12, k_15, k_16, k_18, k_20, k_24, k_25, k_26, k_27, k_28, k_32, k_36, k_48, k_57, k_59, k_63, k_74, k_75, k_84, k_90, k_97, k_99, k_100, k_122, k_200, k_255, k_420, k_448, k_720, k_800, k_999, k_bit, k_shl, fa_and, nI_add, bl_1, bl_0, bl_n1, bl_n0, bl_i1, nI_lt0, nI_0le, nI_eq0, nI_eqT, nI_leI, nI_ltI, nI_eq, Nat.not_le, Nat.not_lt, Bool.not_eq_true, Bool.not_eq_false, not_true_eq_false, not_false_eq_true, Decidable.not_not] at cq
        omega
      · refine g_run 4 rfl ?_
        rw [show nI p / (Int8.ofInt 10).toInt32 = nI (p / 10) from pk_div (d := 10) (by omega) (by decide) (by decide)]
        refine g_run 3 rfl ?_
        rw [show nI p - nI p / (Int8.ofInt 10).toInt32 * (Int8.ofInt 10).toInt32 = nI (p % 10) from pk_rem (d := 10) (by omega) (by decide) (by decide)]
        refine g_callS hv [] rfl rfl rfl rfl rfl rfl rfl (by decide) (s_MisRest sta d x (p / 10) (p % 10) hx (by omega) (by omega)) (fun v w' h hp hk2 hv => ?_)
        obtain ⟨rfl, rfl⟩ := hp
        have hv : mj_Vw h0 ([(mo 0 tr wh (some q) rd F wd ac im lw tk st sh ru rz aw al sd)]) h := hv
        refine g_if rfl (fun cq => ?_) (fun cq => ?_)
        · have cq : bl (rst x (p / 10) (p % 10)) = 0 := cq
          rw [bl_0] at cq
          rw [cq, if_neg (by decide)] at he
          refine g_run 2 rfl ?_
          have hnx := ih (p + 1) h (by omega) he hv
          rw [nI_succ] at hnx
          exact hnx
        · have cq : ¬ bl (rst x (p / 10) (p % 10)) = 0 := cq
          rw [bl_0, Bool.not_eq_false] at cq
          rw [cq, if_pos rfl] at he
          repeat (first | refine g_px rfl rfl rfl ?_)
          refine g_callV hv [0] 0 rfl rfl rfl rfl rfl rfl rfl rfl (by decide) (s_Mgood sta (d + 2) 0 tr wh (some q) rd F wd ac im lw tk st sh ru rz aw al sd _) (fun v w' h hp hk2 hv => ?_)
          obtain ⟨rfl, rfl⟩ := hp
          subst hT
          exact g_iret hv rfl rfl rfl rfl ⟨by rw [he]; rfl, rfl⟩
  repeat (first | refine g_px rfl rfl rfl ?_)
  refine g_put hv 0 rfl rfl rfl rfl rfl rfl (fun h hv => ?_)
  have hv : mj_Vw h0 ([(mo 0 tr wh (some q) rd F wd ac im lw tk st sh ru rz aw al sd)]) h := hv
  repeat (first | refine g_px rfl rfl rfl ?_)
  refine g_callV hv [0] 0 rfl rfl rfl rfl rfl rfl rfl rfl (by decide) (s_MrefusesMany sta (d + 1) 0 tr wh q rd F wd ac im lw tk st sh ru rz aw al sd (nI x)) (fun v w' h hp hk2 hv => ?_)
  obtain ⟨rfl, rfl⟩ := hp
  rw [inR_k hx (by decide)]
  have hv : mj_Vw h0 ([(mo 0 tr wh (some q) rd F wd ac im lw tk st sh ru rz aw al sd)]) h := hv
  repeat (first | refine g_px rfl rfl rfl ?_)
  refine g_if rfl (fun cq => ?_) (fun cq => absurd (cpT (by decide)) cq)
  refine g_run 2 rfl ?_
  exact loop 100 0 h (by omega) hR.symm hv
theorem s_Magent_u (x y z u : Int32) : mj_Sx sta (d + 3) 258 [.ref 151, .int x, .int y, .int z, .int u] [(mo th tr wh none rd F wd ac im lw tk st sh ru rz aw al sd)] (fun v w => v = some (.int (-100)) ∧ w = [(mo 0 1 (-1) none rd F wd ac im lw tk st sh ru rz aw al sd)]) := by
  refine mj_Sx.mk m_X10_agent (by decide) n_X10_agent rfl (fun h0 hv => ?_)
  generalize hT : mj_rx m_X10_agent h0 _ _ = T
  repeat (first | refine g_px rfl rfl rfl ?_)
  refine g_put hv 0 rfl rfl rfl rfl rfl rfl (fun h hv => ?_)
  have hv : mj_Vw h0 ([(mo 0 tr wh none rd F wd ac im lw tk st sh ru rz aw al sd)]) h := hv
  repeat (first | refine g_px rfl rfl rfl ?_)
  refine g_callV hv [0] 0 rfl rfl rfl rfl rfl rfl rfl rfl (by decide) (s_MrefusesMany_u sta d 0 tr wh rd F wd ac im lw tk st sh ru rz aw al sd x) (fun v w' h hp hk2 hv => ?_)
  obtain ⟨rfl, rfl⟩ := hp
  have hv : mj_Vw h0 ([(mo 0 tr wh none rd F wd ac im lw tk st sh ru rz aw al sd)]) h := hv
  repeat (first | refine g_px rfl rfl rfl ?_)
  refine g_if rfl (fun cq => ?_) (fun cq => absurd (cpT (by decide)) cq)
  repeat (first | refine g_px rfl rfl rfl ?_)
  refine g_if rfl (fun cq => absurd cq (cpF (by decide))) (fun cq => ?_)
  repeat (first | refine g_px rfl rfl rfl ?_)
  refine g_callV hv [0] 0 rfl rfl rfl rfl rfl rfl rfl rfl (by decide) (s_Mlost sta d 0 tr wh none rd F wd ac im lw tk st sh ru rz aw al sd _) (fun v w' h hp hk2 hv => ?_)
  obtain ⟨rfl, rfl⟩ := hp
  repeat (first | refine g_px rfl rfl rfl ?_)
  subst hT
  exact g_iret hv rfl rfl rfl rfl ⟨rfl, rfl⟩
theorem s_Magent_2 (x y z u : Int32) (hno : (inR 100 x && (inR 10 y && inR 10 z)) = false) : mj_Sx sta (d + 3) 258 [.ref 151, .int x, .int y, .int z, .int u] [(mo th tr wh (some q) rd F wd ac im lw tk st sh ru rz aw al sd)] (fun v w => v = some (.int (-100)) ∧ w = [(mo 0 2 (-1) (some q) rd F wd ac im lw tk st sh ru rz aw al sd)]) := by
  refine mj_Sx.mk m_X10_agent (by decide) n_X10_agent rfl (fun h0 hv => ?_)
  generalize hT : mj_rx m_X10_agent h0 _ _ = T
  have no : ∀ h, mj_Vw h0 [(mo 0 tr wh (some q) rd F wd ac im lw tk st sh ru rz aw al sd)] h → mj_go sta (mj_Cl sta (d + 2)) m_X10_agent T 40 [some (.ref 151), some (.int x), some (.int y), some (.int z), some (.int u), some (.int 2)] [] h := by
    intro h hv
    repeat (first | refine g_px rfl rfl rfl ?_)
    refine g_if rfl (fun cq => absurd cq (cpF (by decide))) (fun cq => ?_)
    repeat (first | refine g_px rfl rfl rfl ?_)
    refine g_callV hv [0] 0 rfl rfl rfl rfl rfl rfl rfl rfl (by decide) (s_Mlost sta d 0 tr wh (some q) rd F wd ac im lw tk st sh ru rz aw al sd _) (fun v w' h hp hk2 hv => ?_)
    obtain ⟨rfl, rfl⟩ := hp
    repeat (first | refine g_px rfl rfl rfl ?_)
    subst hT
    exact g_iret hv rfl rfl rfl rfl ⟨rfl, rfl⟩
  repeat (first | refine g_px rfl rfl rfl ?_)
  refine g_put hv 0 rfl rfl rfl rfl rfl rfl (fun h hv => ?_)
  have hv : mj_Vw h0 ([(mo 0 tr wh (some q) rd F wd ac im lw tk st sh ru rz aw al sd)]) h := hv
  repeat (first | refine g_px rfl rfl rfl ?_)
  refine g_callV hv [0] 0 rfl rfl rfl rfl rfl rfl rfl rfl (by decide) (s_MrefusesMany sta d 0 tr wh q rd F wd ac im lw tk st sh ru rz aw al sd x) (fun v w' h hp hk2 hv => ?_)
  obtain ⟨rfl, rfl⟩ := hp
  have hv : mj_Vw h0 ([(mo 0 tr wh (some q) rd F wd ac im lw tk st sh ru rz aw al sd)]) h := hv
  cases h100 : inR 100 x with
  | false =>
    repeat (first | refine g_px rfl rfl rfl ?_)
    refine g_if rfl (fun cq => ?_) (fun cq => absurd (cpT (by decide)) cq)
    exact no h hv
  | true =>
    rw [h100, Bool.true_and] at hno
    repeat (first | refine g_px rfl rfl rfl ?_)
    refine g_if rfl (fun cq => absurd cq (cpF (by decide))) (fun cq => ?_)
    repeat (first | refine g_px rfl rfl rfl ?_)
    refine g_callS hv [] rfl rfl rfl rfl rfl rfl rfl (by decide) (s_Min sta (d + 1) y _ _) (fun v w' h hp hk2 hv => ?_)
    obtain ⟨rfl, rfl⟩ := hp
    rw [show (decide (Int32.ofInt 0 ≤ y) && decide (y ≤ (Int8.ofInt 9).toInt32)) = inR 10 y from in_R 9 (by decide) y]
    have hv : mj_Vw h0 ([(mo 0 tr wh (some q) rd F wd ac im lw tk st sh ru rz aw al sd)]) h := hv
    cases hy : inR 10 y with
    | false =>
      refine g_if rfl (fun cq => ?_) (fun cq => absurd rfl cq)
      refine g_run 2 rfl ?_
      exact no h hv
    | true =>
      rw [hy, Bool.true_and] at hno
      refine g_if rfl (fun cq => absurd cq (show ¬ bl true = 0 by decide)) (fun cq => ?_)
      repeat (first | refine g_px rfl rfl rfl ?_)
      refine g_callS hv [] rfl rfl rfl rfl rfl rfl rfl (by decide) (s_Min sta (d + 1) z _ _) (fun v w' h hp hk2 hv => ?_)
      obtain ⟨rfl, rfl⟩ := hp
      rw [show (decide (Int32.ofInt 0 ≤ z) && decide (z ≤ (Int8.ofInt 9).toInt32)) = inR 10 z from in_R 9 (by decide) z, hno]
      have hv : mj_Vw h0 ([(mo 0 tr wh (some q) rd F wd ac im lw tk st sh ru rz aw al sd)]) h := hv
      refine g_if rfl (fun cq => absurd rfl cq) (fun cq => ?_)
      refine g_run 2 rfl ?_
      exact no h hv
theorem s_Magent (x y z : Nat) (o : Bool) (hx : x < 100) (hy : y < 10) (hz : z < 10) : mj_Sx sta (d + 3) 258 [.ref 151, (.int (nI x)), (.int (nI y)), (.int (nI z)), .int (bl o)] [(mo th tr wh (some q) rd F wd ac im lw tk st sh ru rz aw al sd)] (fun v w => v = some (.int (if o then gn x z y else gn x y z)) ∧ w = [(mo 0 0 (-1) (some q) rd F wd ac im lw tk st sh ru rz aw al sd)]) := by
  refine mj_Sx.mk m_X10_agent (by decide) n_X10_agent rfl (fun h0 hv => ?_)
  generalize hT : mj_rx m_X10_agent h0 _ _ = T
  repeat (first | refine g_px rfl rfl rfl ?_)
  refine g_put hv 0 rfl rfl rfl rfl rfl rfl (fun h hv => ?_)
  have hv : mj_Vw h0 ([(mo 0 tr wh (some q) rd F wd ac im lw tk st sh ru rz aw al sd)]) h := hv
  repeat (first | refine g_px rfl rfl rfl ?_)
  refine g_callV hv [0] 0 rfl rfl rfl rfl rfl rfl rfl rfl (by decide) (s_MrefusesMany sta d 0 tr wh q rd F wd ac im lw tk st sh ru rz aw al sd (nI x)) (fun v w' h hp hk2 hv => ?_)
  obtain ⟨rfl, rfl⟩ := hp
  rw [inR_k hx (by decide)]
  have hv : mj_Vw h0 ([(mo 0 tr wh (some q) rd F wd ac im lw tk st sh ru rz aw al sd)]) h := hv
  repeat (first | refine g_px rfl rfl rfl ?_)
  refine g_if rfl (fun cq => absurd cq (cpF (by decide))) (fun cq => ?_)
  repeat (first | refine g_px rfl rfl rfl ?_)
  refine g_callS hv [] rfl rfl rfl rfl rfl rfl rfl (by decide) (s_Min sta (d + 1) (nI y) _ _) (fun v w' h hp hk2 hv => ?_)
  obtain ⟨rfl, rfl⟩ := hp
  rw [show (decide (Int32.ofInt 0 ≤ nI y) && decide (nI y ≤ (Int8.ofInt 9).toInt32)) = inR 10 (nI y) from in_R 9 (by decide) (nI y), inR_k hy (by decide)]
  have hv : mj_Vw h0 ([(mo 0 tr wh (some q) rd F wd ac im lw tk st sh ru rz aw al sd)]) h := hv
  refine g_if rfl (fun cq => absurd cq (show ¬ bl true = 0 by decide)) (fun cq => ?_)
  repeat (first | refine g_px rfl rfl rfl ?_)
  refine g_callS hv [] rfl rfl rfl rfl rfl rfl rfl (by decide) (s_Min sta (d + 1) (nI z) _ _) (fun v w' h hp hk2 hv => ?_)
  obtain ⟨rfl, rfl⟩ := hp
  rw [show (decide (Int32.ofInt 0 ≤ nI z) && decide (nI z ≤ (Int8.ofInt 9).toInt32)) = inR 10 (nI z) from in_R 9 (by decide) (nI z), inR_k hz (by decide)]
  have hv : mj_Vw h0 ([(mo 0 tr wh (some q) rd F wd ac im lw tk st sh ru rz aw al sd)]) h := hv
  refine g_if rfl (fun cq => ?_) (fun cq => absurd (show ¬ bl true = 0 by decide) cq)
  repeat (first | refine g_px rfl rfl rfl ?_)
  refine g_if rfl (fun cq => ?_) (fun cq => absurd (cpT (by decide)) cq)
  repeat (first | refine g_px rfl rfl rfl ?_)
  cases o with
  | false =>
    refine g_if rfl (fun cq => ?_) (fun cq => absurd rfl cq)
    repeat (first | refine g_px rfl rfl rfl ?_)
    refine g_callS hv [] rfl rfl rfl rfl rfl rfl rfl (by decide) (s_Mgets sta d x y z hx hy hz) (fun v w' h hp hk2 hv => ?_)
    obtain ⟨rfl, rfl⟩ := hp
    have hv : mj_Vw h0 ([(mo 0 tr wh (some q) rd F wd ac im lw tk st sh ru rz aw al sd)]) h := hv
    refine g_callV hv [0] 0 rfl rfl rfl rfl rfl rfl rfl rfl (by decide) (s_Mgood sta (d + 1) 0 tr wh (some q) rd F wd ac im lw tk st sh ru rz aw al sd _) (fun v w' h hp hk2 hv => ?_)
    obtain ⟨rfl, rfl⟩ := hp
    subst hT
    exact g_iret hv rfl rfl rfl rfl ⟨rfl, rfl⟩
  | true =>
    refine g_if rfl (fun cq => absurd cq (show ¬ bl true = 0 by decide)) (fun cq => ?_)
    repeat (first | refine g_px rfl rfl rfl ?_)
    refine g_callS hv [] rfl rfl rfl rfl rfl rfl rfl (by decide) (s_Mgets sta d x z y hx hz hy) (fun v w' h hp hk2 hv => ?_)
    obtain ⟨rfl, rfl⟩ := hp
    have hv : mj_Vw h0 ([(mo 0 tr wh (some q) rd F wd ac im lw tk st sh ru rz aw al sd)]) h := hv
    refine g_run 1 rfl ?_
    refine g_callV hv [0] 0 rfl rfl rfl rfl rfl rfl rfl rfl (by decide) (s_Mgood sta (d + 1) 0 tr wh (some q) rd F wd ac im lw tk st sh ru rz aw al sd _) (fun v w' h hp hk2 hv => ?_)
    obtain ⟨rfl, rfl⟩ := hp
    subst hT
    exact g_iret hv rfl rfl rfl rfl ⟨rfl, rfl⟩
variable (D : Nat → Nat) (hi er se : Int32)
theorem s_MrefusesDoctor_u : mj_Sx sta (d + 1) 252 [.ref 151] [(mo th tr wh none rd F wd ac im lw tk st sh ru rz aw al sd)] (fun v w => v = some (.int 1) ∧ w = [(mo th tr wh none rd F wd ac im lw tk st sh ru rz aw al sd)]) := by
  refine mj_Sx.mk m_X10_refusesDoctor (by decide) n_X10_refusesDoctor rfl (fun h0 hv => ?_)
  generalize hT : mj_rx m_X10_refusesDoctor h0 _ _ = T
  repeat (first | refine g_px rfl rfl rfl ?_ | refine g_get hv 0 rfl rfl rfl rfl ?_)
  subst hT
  exact g_iret hv rfl rfl rfl rfl ⟨rfl, rfl⟩
theorem s_MrefusesDoctor : mj_Sx sta (d + 1) 252 [.ref 151] [(mo th tr wh (some q) rd F wd ac im lw tk st sh ru rz aw al sd), mdh q D hi er se] (fun v w => v = some (.int (if hi = -1 then 6 else 0)) ∧ w = [(mo th tr wh (some q) rd F wd ac im lw tk st sh ru rz aw al sd), mdh q D hi er se]) := by
  refine mj_Sx.mk m_X10_refusesDoctor (by decide) n_X10_refusesDoctor rfl (fun h0 hv => ?_)
  generalize hT : mj_rx m_X10_refusesDoctor h0 _ _ = T
  repeat (first | refine g_px rfl rfl rfl ?_ | refine g_get hv 0 rfl rfl rfl rfl ?_ | refine g_get hv 1 rfl rfl rfl rfl ?_)
  refine g_ic rfl (fun cq => ?_) (fun cq => ?_)
  · have cq : ¬ hi = -1 := cq
    repeat (first | refine g_px rfl rfl rfl ?_)
    subst hT
    refine g_iret hv rfl rfl rfl rfl ?_
    exact ⟨by rw [if_neg cq]; rfl, rfl⟩
  · have cq : ¬ ¬ hi = -1 := cq
    rw [Decidable.not_not] at cq
    repeat (first | refine g_px rfl rfl rfl ?_)
    subst hT
    refine g_iret hv rfl rfl rfl rfl ?_
    exact ⟨by rw [if_pos cq]; rfl, rfl⟩
theorem s_Mbelieved_u (x : Int32) (lo : Bool) : mj_Sx sta (d + 2) 253 [.ref 151, .int x, .int (bl lo)] [(mo th tr wh none rd F wd ac im lw tk st sh ru rz aw al sd)] (fun v w => v = some (.long (-1 : Int32).toInt64) ∧ w = [(mo 0 1 (-1) none rd F wd ac im lw tk st sh ru rz aw al sd)]) := by
  refine mj_Sx.mk m_X10_believed (by decide) n_X10_believed rfl (fun h0 hv => ?_)
  generalize hT : mj_rx m_X10_believed h0 _ _ = T
  repeat (first | refine g_px rfl rfl rfl ?_)
  refine g_put hv 0 rfl rfl rfl rfl rfl rfl (fun h hv => ?_)
  have hv : mj_Vw h0 ([(mo 0 tr wh none rd F wd ac im lw tk st sh ru rz aw al sd)]) h := hv
  repeat (first | refine g_px rfl rfl rfl ?_)
  refine g_callV hv [0] 0 rfl rfl rfl rfl rfl rfl rfl rfl (by decide) (s_MrefusesDoctor_u sta d 0 tr wh rd F wd ac im lw tk st sh ru rz aw al sd) (fun v w' h hp hk2 hv => ?_)
  obtain ⟨rfl, rfl⟩ := hp
  have hv : mj_Vw h0 ([(mo 0 tr wh none rd F wd ac im lw tk st sh ru rz aw al sd)]) h := hv
  repeat (first | refine g_px rfl rfl rfl ?_)
  refine g_if rfl (fun cq => absurd cq (cpF (by decide))) (fun cq => ?_)
  repeat (first | refine g_px rfl rfl rfl ?_)
  refine g_callV hv [0] 0 rfl rfl rfl rfl rfl rfl rfl rfl (by decide) (s_Mrefused sta d 0 tr wh none rd F wd ac im lw tk st sh ru rz aw al sd _) (fun v w' h hp hk2 hv => ?_)
  obtain ⟨rfl, rfl⟩ := hp
  repeat (first | refine g_px rfl rfl rfl ?_)
  subst hT
  exact g_lret hv rfl rfl rfl ⟨rfl, rfl⟩
theorem s_Mwrong_u (lo : Bool) : mj_Sx sta (d + 2) 254 [.ref 151, .int (bl lo)] [(mo th tr wh none rd F wd ac im lw tk st sh ru rz aw al sd)] (fun v w => v = some (.long (-1 : Int32).toInt64) ∧ w = [(mo 0 1 (-1) none rd F wd ac im lw tk st sh ru rz aw al sd)]) := by
  refine mj_Sx.mk m_X10_wrong (by decide) n_X10_wrong rfl (fun h0 hv => ?_)
  generalize hT : mj_rx m_X10_wrong h0 _ _ = T
  repeat (first | refine g_px rfl rfl rfl ?_)
  refine g_put hv 0 rfl rfl rfl rfl rfl rfl (fun h hv => ?_)
  have hv : mj_Vw h0 ([(mo 0 tr wh none rd F wd ac im lw tk st sh ru rz aw al sd)]) h := hv
  repeat (first | refine g_px rfl rfl rfl ?_)
  refine g_callV hv [0] 0 rfl rfl rfl rfl rfl rfl rfl rfl (by decide) (s_MrefusesDoctor_u sta d 0 tr wh rd F wd ac im lw tk st sh ru rz aw al sd) (fun v w' h hp hk2 hv => ?_)
  obtain ⟨rfl, rfl⟩ := hp
  have hv : mj_Vw h0 ([(mo 0 tr wh none rd F wd ac im lw tk st sh ru rz aw al sd)]) h := hv
  repeat (first | refine g_px rfl rfl rfl ?_)
  refine g_if rfl (fun cq => absurd cq (cpF (by decide))) (fun cq => ?_)
  repeat (first | refine g_px rfl rfl rfl ?_)
  refine g_callV hv [0] 0 rfl rfl rfl rfl rfl rfl rfl rfl (by decide) (s_Mrefused sta d 0 tr wh none rd F wd ac im lw tk st sh ru rz aw al sd _) (fun v w' h hp hk2 hv => ?_)
  obtain ⟨rfl, rfl⟩ := hp
  repeat (first | refine g_px rfl rfl rfl ?_)
  subst hT
  exact g_lret hv rfl rfl rfl ⟨rfl, rfl⟩
theorem s_Mbelieved_6 (x : Int32) (lo : Bool) : mj_Sx sta (d + 2) 253 [.ref 151, .int x, .int (bl lo)] [(mo th tr wh (some q) rd F wd ac im lw tk st sh ru rz aw al sd), mdh q D (-1) er se] (fun v w => v = some (.long (-1 : Int32).toInt64) ∧ w = [(mo 0 6 (-1) (some q) rd F wd ac im lw tk st sh ru rz aw al sd), mdh q D (-1) er se]) := by
  refine mj_Sx.mk m_X10_believed (by decide) n_X10_believed rfl (fun h0 hv => ?_)
  generalize hT : mj_rx m_X10_believed h0 _ _ = T
  repeat (first | refine g_px rfl rfl rfl ?_)
  refine g_put hv 0 rfl rfl rfl rfl rfl rfl (fun h hv => ?_)
  have hv : mj_Vw h0 ([(mo 0 tr wh (some q) rd F wd ac im lw tk st sh ru rz aw al sd), mdh q D (-1) er se]) h := hv
  repeat (first | refine g_px rfl rfl rfl ?_)
  refine g_callV hv [0, 1] 0 rfl rfl rfl rfl rfl rfl rfl rfl (by decide) (s_MrefusesDoctor sta d 0 tr wh q rd F wd ac im lw tk st sh ru rz aw al sd D (-1) er se) (fun v w' h hp hk2 hv => ?_)
  obtain ⟨rfl, rfl⟩ := hp
  have hv : mj_Vw h0 ([(mo 0 tr wh (some q) rd F wd ac im lw tk st sh ru rz aw al sd), mdh q D (-1) er se]) h := hv
  repeat (first | refine g_px rfl rfl rfl ?_)
  refine g_if rfl (fun cq => absurd cq (cpF (by decide))) (fun cq => ?_)
  repeat (first | refine g_px rfl rfl rfl ?_)
  refine g_callV hv [0] 0 rfl rfl rfl rfl rfl rfl rfl rfl (by decide) (s_Mrefused sta d 0 tr wh (some q) rd F wd ac im lw tk st sh ru rz aw al sd _) (fun v w' h hp hk2 hv => ?_)
  obtain ⟨rfl, rfl⟩ := hp
  repeat (first | refine g_px rfl rfl rfl ?_)
  subst hT
  exact g_lret hv rfl rfl rfl ⟨rfl, rfl⟩
theorem s_Mwrong_6 (lo : Bool) : mj_Sx sta (d + 2) 254 [.ref 151, .int (bl lo)] [(mo th tr wh (some q) rd F wd ac im lw tk st sh ru rz aw al sd), mdh q D (-1) er se] (fun v w => v = some (.long (-1 : Int32).toInt64) ∧ w = [(mo 0 6 (-1) (some q) rd F wd ac im lw tk st sh ru rz aw al sd), mdh q D (-1) er se]) := by
  refine mj_Sx.mk m_X10_wrong (by decide) n_X10_wrong rfl (fun h0 hv => ?_)
  generalize hT : mj_rx m_X10_wrong h0 _ _ = T
  repeat (first | refine g_px rfl rfl rfl ?_)
  refine g_put hv 0 rfl rfl rfl rfl rfl rfl (fun h hv => ?_)
  have hv : mj_Vw h0 ([(mo 0 tr wh (some q) rd F wd ac im lw tk st sh ru rz aw al sd), mdh q D (-1) er se]) h := hv
  repeat (first | refine g_px rfl rfl rfl ?_)
  refine g_callV hv [0, 1] 0 rfl rfl rfl rfl rfl rfl rfl rfl (by decide) (s_MrefusesDoctor sta d 0 tr wh q rd F wd ac im lw tk st sh ru rz aw al sd D (-1) er se) (fun v w' h hp hk2 hv => ?_)
  obtain ⟨rfl, rfl⟩ := hp
  have hv : mj_Vw h0 ([(mo 0 tr wh (some q) rd F wd ac im lw tk st sh ru rz aw al sd), mdh q D (-1) er se]) h := hv
  repeat (first | refine g_px rfl rfl rfl ?_)
  refine g_if rfl (fun cq => absurd cq (cpF (by decide))) (fun cq => ?_)
  repeat (first | refine g_px rfl rfl rfl ?_)
  refine g_callV hv [0] 0 rfl rfl rfl rfl rfl rfl rfl rfl (by decide) (s_Mrefused sta d 0 tr wh (some q) rd F wd ac im lw tk st sh ru rz aw al sd _) (fun v w' h hp hk2 hv => ?_)
  obtain ⟨rfl, rfl⟩ := hp
  repeat (first | refine g_px rfl rfl rfl ?_)
  subst hT
  exact g_lret hv rfl rfl rfl ⟨rfl, rfl⟩
theorem s_Mwrong (x y z : Nat) (lo : Bool) (hx : x ≤ 100) (hy : y ≤ 100) (hz : z ≤ 100) : mj_Sx sta (d + 3) 254 [.ref 151, .int (bl lo)] [(mo th tr wh (some q) rd F wd ac im lw tk st sh ru rz aw al sd), mdh q D (nI x) (nI y) (nI z)] (fun v w => v = some (.long (lN (pfr (z * (100 - x) + (100 - z) * y) 10000 lo))) ∧ w = [(mo 0 0 (-1) (some q) rd F wd ac im lw tk st sh ru rz aw al sd), mdh q D (nI x) (nI y) (nI z)]) := by
  refine mj_Sx.mk m_X10_wrong (by decide) n_X10_wrong rfl (fun h0 hv => ?_)
  generalize hT : mj_rx m_X10_wrong h0 _ _ = T
  have hne : ¬ nI x = -1 := fun e => by
    have h1 : (nI x).toInt = (-1 : Int32).toInt := by rw [e]
    rw [nI_toInt (by omega), show (-1 : Int32).toInt = -1 by decide] at h1
    omega
  have m1 : ∀ x y, x ≤ 100 → y ≤ 100 → x * y ≤ 10000 := fun x y hx hy => by
    have := Nat.mul_le_mul hx hy
    omega
  have q1 := m1 z (100 - x) hz (by omega)
  have q2 := m1 (100 - z) y (by omega) hy
  repeat (first | refine g_px rfl rfl rfl ?_)
  refine g_put hv 0 rfl rfl rfl rfl rfl rfl (fun h hv => ?_)
  have hv : mj_Vw h0 ([(mo 0 tr wh (some q) rd F wd ac im lw tk st sh ru rz aw al sd), mdh q D (nI x) (nI y) (nI z)]) h := hv
  repeat (first | refine g_px rfl rfl rfl ?_)
  refine g_callV hv [0, 1] 0 rfl rfl rfl rfl rfl rfl rfl rfl (by decide) (s_MrefusesDoctor sta (d + 1) 0 tr wh q rd F wd ac im lw tk st sh ru rz aw al sd D (nI x) (nI y) (nI z)) (fun v w' h hp hk2 hv => ?_)
  obtain ⟨rfl, rfl⟩ := hp
  rw [if_neg hne]
  have hv : mj_Vw h0 ([(mo 0 tr wh (some q) rd F wd ac im lw tk st sh ru rz aw al sd), mdh q D (nI x) (nI y) (nI z)]) h := hv
  repeat (first | refine g_px rfl rfl rfl ?_)
  refine g_if rfl (fun cq => ?_) (fun cq => absurd (cpT (by decide)) cq)
  refine g_run 2 rfl ?_
  refine g_get hv 0 rfl rfl rfl rfl ?_
  refine g_get hv 1 rfl rfl rfl rfl ?_
  refine g_run 3 rfl ?_
  refine g_get hv 0 rfl rfl rfl rfl ?_
  refine g_get hv 1 rfl rfl rfl rfl ?_
  refine g_run 1 rfl ?_
  rw [k_100, pk_sub hx]
  refine g_run 2 rfl ?_
  rw [nI_l (by omega), nI_l (by omega), lN_mul]
  refine g_run 2 rfl ?_
  refine g_get hv 0 rfl rfl rfl rfl ?_
  refine g_get hv 1 rfl rfl rfl rfl ?_
  refine g_run 1 rfl ?_
  rw [k_100, pk_sub hz]
  refine g_run 2 rfl ?_
  refine g_get hv 0 rfl rfl rfl rfl ?_
  refine g_get hv 1 rfl rfl rfl rfl ?_
  refine g_run 2 rfl ?_
  rw [nI_l (by omega), nI_l (by omega), lN_mul]
  refine g_run 1 rfl ?_
  rw [lN_add]
  refine g_run 2 rfl ?_
  refine g_callV hv [0] 0 rfl rfl rfl rfl rfl rfl rfl rfl (by decide) (s_Mfraction sta d 0 tr wh (some q) rd F wd ac im lw tk st sh ru rz aw al sd (z * (100 - x) + (100 - z) * y) 10000 lo (by omega) (by decide) (by decide)) (fun v w' h hp hk2 hv => ?_)
  obtain ⟨rfl, rfl⟩ := hp
  subst hT
  exact g_lret hv rfl rfl rfl ⟨rfl, rfl⟩
theorem s_Mbelieved (x y z : Nat) (s lo : Bool) (hx : x ≤ 100) (hy : y ≤ 100) (hz : z ≤ 100) : mj_Sx sta (d + 3) 253 [.ref 151, .int (bl s), .int (bl lo)] [(mo th tr wh (some q) rd F wd ac im lw tk st sh ru rz aw al sd), mdh q D (nI x) (nI y) (nI z)] (fun v w => v = some (.long (lN (pfr (z * (if s then x else 100 - x)) (z * (if s then x else 100 - x) + (100 - z) * (if s then y else 100 - y)) lo))) ∧ w = [(mo 0 0 (-1) (some q) rd F wd ac im lw tk st sh ru rz aw al sd), mdh q D (nI x) (nI y) (nI z)]) := by
  refine mj_Sx.mk m_X10_believed (by decide) n_X10_believed rfl (fun h0 hv => ?_)
  generalize hT : mj_rx m_X10_believed h0 _ _ = T
  have hne : ¬ nI x = -1 := fun e => by
    have h1 : (nI x).toInt = (-1 : Int32).toInt := by rw [e]
    rw [nI_toInt (by omega), show (-1 : Int32).toInt = -1 by decide] at h1
    omega
  have m1 : ∀ x y, x ≤ 100 → y ≤ 100 → x * y ≤ 10000 := fun x y hx hy => by
    have := Nat.mul_le_mul hx hy
    omega
  have tail : ∀ u v w o h, u = (if s then x else 100 - x) → v = 100 - z → w = (if s then y else 100 - y) → mj_Vw h0 ([(mo 0 tr wh (some q) rd F wd ac im lw tk st sh ru rz aw al sd), mdh q D (nI x) (nI y) (nI z)]) h → mj_go sta (mj_Cl sta (d + 2)) m_X10_believed T 94 [some (.ref 151), some (.int (bl s)), some (.int (bl lo)), some (.int o), some (.long (lN (z * u))), none, none, none] [(.int (nI w)), (.long (lN v)), (.long (lN (z * u)))] h := by
    intro u v w o h hu hv' hw hv
    have hu1 : u ≤ 100 := by rw [hu]; split <;> omega
    have hw1 : w ≤ 100 := by rw [hw]; split <;> omega
    have q1 := m1 z u hz hu1
    have q2 := m1 v w (by omega) hw1
    refine g_run 2 rfl ?_
    rw [nI_l (by omega), lN_mul]
    refine g_run 1 rfl ?_
    rw [lN_add]
    repeat (first | refine g_px rfl rfl rfl ?_)
    refine g_if rfl (fun cq => ?_) (fun cq => ?_)
    · have cq : ¬ lg_cmp (lN (z * u + v * w)) (lN 0) = 0 := cq
      rw [lg_cmp_eq, pk_lEQ (by omega) (by decide)] at cq
      repeat (first | refine g_px rfl rfl rfl ?_)
      refine g_callV hv [0] 0 rfl rfl rfl rfl rfl rfl rfl rfl (by decide) (s_Mfraction sta d 0 tr wh (some q) rd F wd ac im lw tk st sh ru rz aw al sd (z * u) (z * u + v * w) lo (by omega) (by omega) (by omega)) (fun v w' h hp hk2 hv => ?_)
      obtain ⟨rfl, rfl⟩ := hp
      subst hT
      exact g_lret hv rfl rfl rfl ⟨by rw [hu, hv', hw], rfl⟩
    · have cq : ¬ ¬ lg_cmp (lN (z * u + v * w)) (lN 0) = 0 := cq
      rw [lg_cmp_eq, pk_lEQ (by omega) (by decide), Decidable.not_not] at cq
      repeat (first | refine g_px rfl rfl rfl ?_)
      refine g_callV hv [0] 0 rfl rfl rfl rfl rfl rfl rfl rfl (by decide) (s_Mfraction sta d 0 tr wh (some q) rd F wd ac im lw tk st sh ru rz aw al sd 0 1 lo (by decide) (by decide) (by decide)) (fun v w' h hp hk2 hv => ?_)
      obtain ⟨rfl, rfl⟩ := hp
      repeat (first | refine g_px rfl rfl rfl ?_)
      subst hT
      refine g_lret hv rfl rfl rfl ⟨?_, rfl⟩
      rw [← hu, ← hv', ← hw, cq, show z * u = 0 by omega]
      cases lo <;> rfl
  repeat (first | refine g_px rfl rfl rfl ?_)
  refine g_put hv 0 rfl rfl rfl rfl rfl rfl (fun h hv => ?_)
  have hv : mj_Vw h0 ([(mo 0 tr wh (some q) rd F wd ac im lw tk st sh ru rz aw al sd), mdh q D (nI x) (nI y) (nI z)]) h := hv
  repeat (first | refine g_px rfl rfl rfl ?_)
  refine g_callV hv [0, 1] 0 rfl rfl rfl rfl rfl rfl rfl rfl (by decide) (s_MrefusesDoctor sta (d + 1) 0 tr wh q rd F wd ac im lw tk st sh ru rz aw al sd D (nI x) (nI y) (nI z)) (fun v w' h hp hk2 hv => ?_)
  obtain ⟨rfl, rfl⟩ := hp
  rw [if_neg hne]
  have hv : mj_Vw h0 ([(mo 0 tr wh (some q) rd F wd ac im lw tk st sh ru rz aw al sd), mdh q D (nI x) (nI y) (nI z)]) h := hv
  repeat (first | refine g_px rfl rfl rfl ?_)
  refine g_if rfl (fun cq => ?_) (fun cq => absurd (cpT (by decide)) cq)
  refine g_run 1 rfl ?_
  refine g_get hv 0 rfl rfl rfl rfl ?_
  refine g_get hv 1 rfl rfl rfl rfl ?_
  refine g_run 2 rfl ?_
  cases s with
  | true =>
    refine g_if rfl (fun cq => absurd cq (show ¬ bl true = 0 by decide)) (fun cq => ?_)
    refine g_run 1 rfl ?_
    refine g_get hv 0 rfl rfl rfl rfl ?_
    refine g_get hv 1 rfl rfl rfl rfl ?_
    refine g_run 3 rfl ?_
    rw [nI_l (by omega), nI_l (by omega), lN_mul]
    refine g_run 4 rfl ?_
    refine g_get hv 0 rfl rfl rfl rfl ?_
    refine g_get hv 1 rfl rfl rfl rfl ?_
    refine g_run 1 rfl ?_
    rw [k_100, pk_sub hz]
    refine g_run 2 rfl ?_
    rw [nI_l (by omega)]
    refine g_if rfl (fun cq => absurd cq (show ¬ bl true = 0 by decide)) (fun cq => ?_)
    refine g_run 1 rfl ?_
    refine g_get hv 0 rfl rfl rfl rfl ?_
    refine g_get hv 1 rfl rfl rfl rfl ?_
    refine g_run 1 rfl ?_
    exact tail x (100 - z) y _ h rfl rfl rfl hv
  | false =>
    refine g_if rfl (fun cq => ?_) (fun cq => absurd rfl cq)
    refine g_run 2 rfl ?_
    refine g_get hv 0 rfl rfl rfl rfl ?_
    refine g_get hv 1 rfl rfl rfl rfl ?_
    refine g_run 1 rfl ?_
    rw [k_100, pk_sub hx]
    refine g_run 2 rfl ?_
    rw [nI_l (by omega), nI_l (by omega), lN_mul]
    refine g_run 4 rfl ?_
    refine g_get hv 0 rfl rfl rfl rfl ?_
    refine g_get hv 1 rfl rfl rfl rfl ?_
    refine g_run 1 rfl ?_
    rw [k_100, pk_sub hz]
    refine g_run 2 rfl ?_
    rw [nI_l (by omega)]
    refine g_if rfl (fun cq => ?_) (fun cq => absurd rfl cq)
    refine g_run 2 rfl ?_
    refine g_get hv 0 rfl rfl rfl rfl ?_
    refine g_get hv 1 rfl rfl rfl rfl ?_
    refine g_run 1 rfl ?_
    rw [k_100, pk_sub hy]
    exact tail (100 - x) (100 - z) (100 - y) _ h rfl rfl rfl hv
end Md
