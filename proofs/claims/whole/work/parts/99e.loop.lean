/-! a turn of the law, its loop -/
theorem L_turn {sta : mj_S} {Bd L n : Nat} {xs : Nat → Int32} {T : Nat → mj_L → List Value → mj_H → Prop} {h : mj_H} {a b : Option Value} (hs : sta (mj_SB + 101) = some (L, xs)) (hn : n + 6 ≤ L) (hL : L ≤ 3072) (hB : Bd < 2 ^ 20) (hI : LI sta Bd h) (hK : ∀ h a b, LI sta (Bd + 1) h → mj_go sta (mj_Cl sta 11) m_L_law T 2027 [some (.ref (mj_SB + 101)), some (.ref 0), some (.ref 151), some (.ref 165), some (.int (nI n)), a, b] [] h) : mj_go sta (mj_Cl sta 11) m_L_law T 33 [some (.ref (mj_SB + 101)), some (.ref 0), some (.ref 151), some (.ref 165), some (.int (nI n)), a, b] [] h := by
  have hin : ∀ k, k ≤ 5 → vp_in (nI n + nI k) L := fun k hk => by
    rw [nI_add]
    exact vp_in_nI (by omega) (by omega)
  have h0 : vp_in (nI n) L := vp_in_nI (by omega) (by omega)
  have h1 : vp_in (nI n + Int32.ofInt 1) L := hin 1 (by decide)
  have h2 : vp_in (nI n + Int32.ofInt 2) L := hin 2 (by decide)
  have h3 : vp_in (nI n + Int32.ofInt 3) L := hin 3 (by decide)
  have h4 : vp_in (nI n + Int32.ofInt 4) L := hin 4 (by decide)
  have h5 : vp_in (nI n + Int32.ofInt 5) L := hin 5 (by decide)
  have hI' := hI
  obtain ⟨tr, w, u, f, t, hJ, hv, hl, hz⟩ := hI'
  have hV := hv.V
  refine g_run 2 rfl ?_
  refine g_sald hV hs rfl h0 ?_
  refine g_run 2 rfl ?_
  generalize xs (nI n).toNatClampNeg &&& (Int8.ofInt 63).toInt32 = x
  by_cases hx : x.toInt < 0 ∨ 52 < x.toInt
  · exact g_swd rfl hx (hK h a b (LI_mono hI))
  have key : ∀ k : Nat, (x.toInt - 0).toNat = k → k ≤ 52 → mj_go sta (mj_Cl sta 11) m_L_law T 40 [some (.ref (mj_SB + 101)), some (.ref 0), some (.ref 151), some (.ref 165), some (.int (nI n)), a, b] [.int x] h := by
    intro k he hk
    match k, he, hk with
    | 0, he, _ => exact g_swk (off := 228) rfl hx (by rw [he]; rfl) (t_0 hs h1 h2 h3 h4 h5 hB hI hK)
    | 1, he, _ => exact g_swk (off := 301) rfl hx (by rw [he]; rfl) (t_1 hs h1 h2 h3 h4 h5 hB hI hK)
    | 2, he, _ => exact g_swk (off := 326) rfl hx (by rw [he]; rfl) (t_2 hs h1 h2 h3 h4 h5 hB hI hK)
    | 3, he, _ => exact g_swk (off := 339) rfl hx (by rw [he]; rfl) (t_3 hs h1 h2 h3 h4 h5 hB hI hK)
    | 4, he, _ => exact g_swk (off := 352) rfl hx (by rw [he]; rfl) (t_4 hs h1 h2 h3 h4 h5 hB hI hK)
    | 5, he, _ => exact g_swk (off := 389) rfl hx (by rw [he]; rfl) (t_5 hs h1 h2 h3 h4 h5 hB hI hK)
    | 6, he, _ => exact g_swk (off := 402) rfl hx (by rw [he]; rfl) (t_6 hs h1 h2 h3 h4 h5 hB hI hK)
    | 7, he, _ => exact g_swk (off := 427) rfl hx (by rw [he]; rfl) (t_7 hs h1 h2 h3 h4 h5 hB hI hK)
    | 8, he, _ => exact g_swk (off := 452) rfl hx (by rw [he]; rfl) (t_8 hs h1 h2 h3 h4 h5 hB hI hK)
    | 9, he, _ => exact g_swk (off := 477) rfl hx (by rw [he]; rfl) (t_9 hs h1 h2 h3 h4 h5 hB hI hK)
    | 10, he, _ => exact g_swk (off := 502) rfl hx (by rw [he]; rfl) (t_10 hs h1 h2 h3 h4 h5 hB hI hK)
    | 11, he, _ => exact g_swk (off := 539) rfl hx (by rw [he]; rfl) (t_11 hs h1 h2 h3 h4 h5 hB hI hK)
    | 12, he, _ => exact g_swk (off := 576) rfl hx (by rw [he]; rfl) (t_12 hs h1 h2 h3 h4 h5 hB hI hK)
    | 13, he, _ => exact g_swk (off := 601) rfl hx (by rw [he]; rfl) (t_13 hs h1 h2 h3 h4 h5 hB hI hK)
    | 14, he, _ => exact g_swk (off := 655) rfl hx (by rw [he]; rfl) (t_14 hs h1 h2 h3 h4 h5 hB hI hK)
    | 15, he, _ => exact g_swk (off := 709) rfl hx (by rw [he]; rfl) (t_15 hs h1 h2 h3 h4 h5 hB hI hK)
    | 16, he, _ => exact g_swk (off := 775) rfl hx (by rw [he]; rfl) (t_16 hs h1 h2 h3 h4 h5 hB hI hK)
    | 17, he, _ => exact g_swk (off := 829) rfl hx (by rw [he]; rfl) (t_17 hs h1 h2 h3 h4 h5 hB hI hK)
    | 18, he, _ => exact g_swk (off := 883) rfl hx (by rw [he]; rfl) (t_18 hs h1 h2 h3 h4 h5 hB hI hK)
    | 19, he, _ => exact g_swk (off := 949) rfl hx (by rw [he]; rfl) (t_19 hs h1 h2 h3 h4 h5 hB hI hK)
    | 20, he, _ => exact g_swk (off := 974) rfl hx (by rw [he]; rfl) (t_20 hs h1 h2 h3 h4 h5 hB hI hK)
    | 21, he, _ => exact g_swk (off := 1016) rfl hx (by rw [he]; rfl) (t_21 hs h1 h2 h3 h4 h5 hB hI hK)
    | 22, he, _ => exact g_swk (off := 1070) rfl hx (by rw [he]; rfl) (t_22 hs h1 h2 h3 h4 h5 hB hI hK)
    | 23, he, _ => exact g_swk (off := 1124) rfl hx (by rw [he]; rfl) (t_23 hs h1 h2 h3 h4 h5 hB hI hK)
    | 24, he, _ => exact g_swk (off := 1149) rfl hx (by rw [he]; rfl) (t_24 hs h1 h2 h3 h4 h5 hB hI hK)
    | 25, he, _ => exact g_swk (off := 1162) rfl hx (by rw [he]; rfl) (t_25 hs h1 h2 h3 h4 h5 hB hI hK)
    | 26, he, _ => exact g_swk (off := 1175) rfl hx (by rw [he]; rfl) (t_26 hs h1 h2 h3 h4 h5 hB hI hK)
    | 27, he, _ => exact g_swk (off := 1188) rfl hx (by rw [he]; rfl) (t_27 hs h1 h2 h3 h4 h5 hB hI hK)
    | 28, he, _ => exact g_swk (off := 1213) rfl hx (by rw [he]; rfl) (t_28 hs h1 h2 h3 h4 h5 hB hI hK)
    | 29, he, _ => exact g_swk (off := 1238) rfl hx (by rw [he]; rfl) (t_29 hs h1 h2 h3 h4 h5 hB hI hK)
    | 30, he, _ => exact g_swk (off := 1251) rfl hx (by rw [he]; rfl) (t_30 hs h1 h2 h3 h4 h5 hB hI hK)
    | 31, he, _ => exact g_swk (off := 1264) rfl hx (by rw [he]; rfl) (t_31 hs h1 h2 h3 h4 h5 hB hI hK)
    | 32, he, _ => exact g_swk (off := 1277) rfl hx (by rw [he]; rfl) (t_32 hs h1 h2 h3 h4 h5 hB hI hK)
    | 33, he, _ => exact g_swk (off := 1347) rfl hx (by rw [he]; rfl) (t_33 hs h1 h2 h3 h4 h5 hB hI hK)
    | 34, he, _ => exact g_swk (off := 1389) rfl hx (by rw [he]; rfl) (t_34 hs h1 h2 h3 h4 h5 hB hI hK)
    | 35, he, _ => exact g_swk (off := 1466) rfl hx (by rw [he]; rfl) (t_35 hs h1 h2 h3 h4 h5 hB hI hK)
    | 36, he, _ => exact g_swk (off := 1491) rfl hx (by rw [he]; rfl) (t_36 hs h1 h2 h3 h4 h5 hB hI hK)
    | 37, he, _ => exact g_swk (off := 1516) rfl hx (by rw [he]; rfl) (t_37 hs h1 h2 h3 h4 h5 hB hI hK)
    | 38, he, _ => exact g_swk (off := 1565) rfl hx (by rw [he]; rfl) (t_38 hs h1 h2 h3 h4 h5 hB hI hK)
    | 39, he, _ => exact g_swk (off := 1614) rfl hx (by rw [he]; rfl) (t_39 hs h1 h2 h3 h4 h5 hB hI hK)
    | 40, he, _ => exact g_swk (off := 1651) rfl hx (by rw [he]; rfl) (t_40 hs h1 h2 h3 h4 h5 hB hI hK)
    | 41, he, _ => exact g_swk (off := 1676) rfl hx (by rw [he]; rfl) (t_41 hs h1 h2 h3 h4 h5 hB hI hK)
    | 42, he, _ => exact g_swk (off := 1729) rfl hx (by rw [he]; rfl) (t_42 hs h1 h2 h3 h4 h5 hB hI hK)
    | 43, he, _ => exact g_swk (off := 1742) rfl hx (by rw [he]; rfl) (t_43 hs h1 h2 h3 h4 h5 hB hI hK)
    | 44, he, _ => exact g_swk (off := 1767) rfl hx (by rw [he]; rfl) (t_44 hs h1 h2 h3 h4 h5 hB hI hK)
    | 45, he, _ => exact g_swk (off := 1792) rfl hx (by rw [he]; rfl) (t_45 hs h1 h2 h3 h4 h5 hB hI hK)
    | 46, he, _ => exact g_swk (off := 1817) rfl hx (by rw [he]; rfl) (t_46 hs h1 h2 h3 h4 h5 hB hI hK)
    | 47, he, _ => exact g_swk (off := 1842) rfl hx (by rw [he]; rfl) (t_47 hs h1 h2 h3 h4 h5 hB hI hK)
    | 48, he, _ => exact g_swk (off := 1855) rfl hx (by rw [he]; rfl) (t_48 hs h1 h2 h3 h4 h5 hB hI hK)
    | 49, he, _ => exact g_swk (off := 1868) rfl hx (by rw [he]; rfl) (t_49 hs h1 h2 h3 h4 h5 hB hI hK)
    | 50, he, _ => exact g_swk (off := 1893) rfl hx (by rw [he]; rfl) (t_50 hs h1 h2 h3 h4 h5 hB hI hK)
    | 51, he, _ => exact g_swk (off := 1949) rfl hx (by rw [he]; rfl) (t_51 hs h1 h2 h3 h4 h5 hB hI hK)
    | 52, he, _ => exact g_swk (off := 1974) rfl hx (by rw [he]; rfl) (t_52 hs h1 h2 h3 h4 h5 hB hI hK)
    | k + 53, _, hk => exact absurd hk (by omega)
  exact key _ rfl (by omega)
theorem L_loop {sta : mj_S} {L : Nat} {xs : Nat → Int32} {T : Nat → mj_L → List Value → mj_H → Prop} (hs : sta (mj_SB + 101) = some (L, xs)) (hL : L ≤ 3072) (hE : ∀ h lv, h.1.length ≤ 4262 → h.2 ≤ 35648 → mj_go sta (mj_Cl sta 11) m_L_law T 2033 lv [] h) : ∀ (j Bd : Nat) (h : mj_H) (a b : Option Value), L < 6 * Bd + 6 * j → 6 * Bd ≤ L → LI sta Bd h → mj_go sta (mj_Cl sta 11) m_L_law T 23 [some (.ref (mj_SB + 101)), some (.ref 0), some (.ref 151), some (.ref 165), some (.int (nI (6 * Bd))), a, b] [] h := by
  intro j
  induction j with
  | zero => intro Bd h a b h1 h2; omega
  | succ j ih =>
    intro Bd h a b h1 h2 hI
    have hI' := hI
    obtain ⟨tr, w, u, f, t, hJ, hv, hl, hz⟩ := hI'
    refine g_run 2 rfl ?_
    refine g_slen hv.V hs rfl ?_
    refine g_run 2 rfl ?_
    refine g_ic rfl (fun cq => ?_) (fun cq => ?_)
    · exact hE h _ (by omega) (by omega)
    · have cq : ¬ (nI L - nI 6 < nI (6 * Bd)) := cq
      rw [Int32.lt_iff_toInt_lt, pk_sub_toInt (by omega) (by decide)] at cq
      have e0 : (nI (6 * Bd)).toInt = ((6 * Bd : Nat) : Int) := by
        have := pk_sub_toInt (a := 6 * Bd) (b := 0) (by omega) (by decide)
        rw [pk_sub (Nat.zero_le _)] at this
        simpa using this
      rw [e0] at cq
      refine L_turn hs (by omega) hL (by omega) hI (fun h a b hI => ?_)
      refine g_run 2 rfl ?_
      have hnx := ih (Bd + 1) h a b (by omega) (by omega) hI
      rw [show 6 * (Bd + 1) = 6 * Bd + 6 by omega, ← nI_add] at hnx
      exact hnx
