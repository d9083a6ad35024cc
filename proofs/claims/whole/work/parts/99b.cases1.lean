/-! the law's switch, case by case -/
theorem t_0 {sta : mj_S} {Bd L n : Nat} {xs : Nat → Int32} {T : Nat → mj_L → List Value → mj_H → Prop} {h : mj_H} {a b : Option Value} (hs : sta (mj_SB + 101) = some (L, xs)) (h1 : vp_in (nI n + Int32.ofInt 1) L) (h2 : vp_in (nI n + Int32.ofInt 2) L) (h3 : vp_in (nI n + Int32.ofInt 3) L) (h4 : vp_in (nI n + Int32.ofInt 4) L) (h5 : vp_in (nI n + Int32.ofInt 5) L) (hB : Bd < 2 ^ 20) (hI : LI sta Bd h) (hK : ∀ h a b, LI sta (Bd + 1) h → mj_go sta (mj_Cl sta 11) m_L_law T 2027 [some (.ref (mj_SB + 101)), some (.ref 0), some (.ref 151), some (.ref 165), some (.int (nI n)), a, b] [] h) : mj_go sta (mj_Cl sta 11) m_L_law T 268 [some (.ref (mj_SB + 101)), some (.ref 0), some (.ref 151), some (.ref 165), some (.int (nI n)), a, b] [] h := by
  obtain ⟨tr, w, u, f, t, hJ, hv, hl, hz⟩ := hI
  obtain ⟨fs, hf⟩ := (J_at hJ).2
  have hV := hv.V
  repeat (first | refine g_sald hV hs rfl (by assumption) ?_ | refine g_px rfl rfl rfl ?_ | refine L_bool rfl rfl rfl rfl ?_)
  refine L_oneI hv hJ rfl rfl rfl rfl rfl rfl rfl n_X8_feed rfl (J_feed (d := 2) (xs (nI n + Int32.ofInt 1).toNatClampNeg) (xs (nI n + Int32.ofInt 2).toNatClampNeg) (xs (nI n + Int32.ofInt 3).toNatClampNeg) (xs (nI n + Int32.ofInt 4).toNatClampNeg) (xs (nI n + Int32.ofInt 5).toNatClampNeg) hJ) (fun x MP w1 h6 s2 s3 hv e1 e2 => ?_)
  have hV := hv.V
  repeat (first | refine g_sald hV hs rfl (by assumption) ?_ | refine g_px rfl rfl rfl ?_ | refine L_bool rfl rfl rfl rfl ?_)
  refine L_twoV hv hf rfl rfl rfl rfl rfl rfl s2 (fun u1 h7 hp hv e3 e4 => ?_)
  obtain ⟨tr1, hJ1⟩ := s3 u1 hp
  exact g_ic rfl (fun _ => hK h7 a b ⟨tr1, w1, u1, f, t, hJ1, hv, by omega, by omega⟩) (fun cq => absurd rfl cq)
theorem t_2 {sta : mj_S} {Bd L n : Nat} {xs : Nat → Int32} {T : Nat → mj_L → List Value → mj_H → Prop} {h : mj_H} {a b : Option Value} (hs : sta (mj_SB + 101) = some (L, xs)) (h1 : vp_in (nI n + Int32.ofInt 1) L) (h2 : vp_in (nI n + Int32.ofInt 2) L) (h3 : vp_in (nI n + Int32.ofInt 3) L) (h4 : vp_in (nI n + Int32.ofInt 4) L) (h5 : vp_in (nI n + Int32.ofInt 5) L) (hB : Bd < 2 ^ 20) (hI : LI sta Bd h) (hK : ∀ h a b, LI sta (Bd + 1) h → mj_go sta (mj_Cl sta 11) m_L_law T 2027 [some (.ref (mj_SB + 101)), some (.ref 0), some (.ref 151), some (.ref 165), some (.int (nI n)), a, b] [] h) : mj_go sta (mj_Cl sta 11) m_L_law T 366 [some (.ref (mj_SB + 101)), some (.ref 0), some (.ref 151), some (.ref 165), some (.int (nI n)), a, b] [] h := by
  obtain ⟨tr, w, u, f, t, hJ, hv, hl, hz⟩ := hI
  have hB : Bd < 2 ^ 30 := Nat.lt_trans hB (by decide)
  obtain ⟨fs, hf⟩ := (J_at hJ).2
  have hV := hv.V
  repeat (first | refine g_sald hV hs rfl (by assumption) ?_ | refine g_px rfl rfl rfl ?_ | refine L_bool rfl rfl rfl rfl ?_)
  refine L_oneI hv hJ rfl rfl rfl rfl rfl rfl rfl n_X8_fault rfl (J_fault (d := 2)  hB hJ) (fun x MP w1 h6 s2 s3 hv e1 e2 => ?_)
  have hV := hv.V
  repeat (first | refine g_sald hV hs rfl (by assumption) ?_ | refine g_px rfl rfl rfl ?_ | refine L_bool rfl rfl rfl rfl ?_)
  refine L_twoV hv hf rfl rfl rfl rfl rfl rfl s2 (fun u1 h7 hp hv e3 e4 => ?_)
  obtain ⟨tr1, hJ1⟩ := s3 u1 hp
  exact g_ic rfl (fun _ => hK h7 a b ⟨tr1, w1, u1, f, t, hJ1, hv, by omega, by omega⟩) (fun cq => absurd rfl cq)
theorem t_3 {sta : mj_S} {Bd L n : Nat} {xs : Nat → Int32} {T : Nat → mj_L → List Value → mj_H → Prop} {h : mj_H} {a b : Option Value} (hs : sta (mj_SB + 101) = some (L, xs)) (h1 : vp_in (nI n + Int32.ofInt 1) L) (h2 : vp_in (nI n + Int32.ofInt 2) L) (h3 : vp_in (nI n + Int32.ofInt 3) L) (h4 : vp_in (nI n + Int32.ofInt 4) L) (h5 : vp_in (nI n + Int32.ofInt 5) L) (hB : Bd < 2 ^ 20) (hI : LI sta Bd h) (hK : ∀ h a b, LI sta (Bd + 1) h → mj_go sta (mj_Cl sta 11) m_L_law T 2027 [some (.ref (mj_SB + 101)), some (.ref 0), some (.ref 151), some (.ref 165), some (.int (nI n)), a, b] [] h) : mj_go sta (mj_Cl sta 11) m_L_law T 379 [some (.ref (mj_SB + 101)), some (.ref 0), some (.ref 151), some (.ref 165), some (.int (nI n)), a, b] [] h := by
  obtain ⟨tr, w, u, f, t, hJ, hv, hl, hz⟩ := hI
  have hB : Bd < 2 ^ 30 := Nat.lt_trans hB (by decide)
  obtain ⟨fs, hf⟩ := (J_at hJ).2
  have hV := hv.V
  repeat (first | refine g_sald hV hs rfl (by assumption) ?_ | refine g_px rfl rfl rfl ?_ | refine L_bool rfl rfl rfl rfl ?_)
  refine L_oneI hv hJ rfl rfl rfl rfl rfl rfl rfl n_X8_where rfl (J_where (d := 2)  hB hJ) (fun x MP w1 h6 s2 s3 hv e1 e2 => ?_)
  have hV := hv.V
  repeat (first | refine g_sald hV hs rfl (by assumption) ?_ | refine g_px rfl rfl rfl ?_ | refine L_bool rfl rfl rfl rfl ?_)
  refine L_twoV hv hf rfl rfl rfl rfl rfl rfl s2 (fun u1 h7 hp hv e3 e4 => ?_)
  obtain ⟨tr1, hJ1⟩ := s3 u1 hp
  exact g_ic rfl (fun _ => hK h7 a b ⟨tr1, w1, u1, f, t, hJ1, hv, by omega, by omega⟩) (fun cq => absurd rfl cq)
theorem t_4 {sta : mj_S} {Bd L n : Nat} {xs : Nat → Int32} {T : Nat → mj_L → List Value → mj_H → Prop} {h : mj_H} {a b : Option Value} (hs : sta (mj_SB + 101) = some (L, xs)) (h1 : vp_in (nI n + Int32.ofInt 1) L) (h2 : vp_in (nI n + Int32.ofInt 2) L) (h3 : vp_in (nI n + Int32.ofInt 3) L) (h4 : vp_in (nI n + Int32.ofInt 4) L) (h5 : vp_in (nI n + Int32.ofInt 5) L) (hB : Bd < 2 ^ 20) (hI : LI sta Bd h) (hK : ∀ h a b, LI sta (Bd + 1) h → mj_go sta (mj_Cl sta 11) m_L_law T 2027 [some (.ref (mj_SB + 101)), some (.ref 0), some (.ref 151), some (.ref 165), some (.int (nI n)), a, b] [] h) : mj_go sta (mj_Cl sta 11) m_L_law T 392 [some (.ref (mj_SB + 101)), some (.ref 0), some (.ref 151), some (.ref 165), some (.int (nI n)), a, b] [] h := by
  obtain ⟨tr, w, u, f, t, hJ, hv, hl, hz⟩ := hI
  have hB : Bd < 2 ^ 30 := Nat.lt_trans hB (by decide)
  obtain ⟨fs, hf⟩ := (J_at hJ).2
  have hV := hv.V
  repeat (first | refine g_sald hV hs rfl (by assumption) ?_ | refine g_px rfl rfl rfl ?_ | refine L_bool rfl rfl rfl rfl ?_)
  refine L_oneI hv hJ rfl rfl rfl rfl rfl rfl rfl n_X8_man rfl (J_man (d := 2) (xs (nI n + Int32.ofInt 1).toNatClampNeg) (xs (nI n + Int32.ofInt 2).toNatClampNeg) hB hJ) (fun x MP w1 h6 s2 s3 hv e1 e2 => ?_)
  have hV := hv.V
  repeat (first | refine g_sald hV hs rfl (by assumption) ?_ | refine g_px rfl rfl rfl ?_ | refine L_bool rfl rfl rfl rfl ?_)
  refine L_twoV hv hf rfl rfl rfl rfl rfl rfl s2 (fun u1 h7 hp hv e3 e4 => ?_)
  obtain ⟨tr1, hJ1⟩ := s3 u1 hp
  exact g_ic rfl (fun _ => hK h7 a b ⟨tr1, w1, u1, f, t, hJ1, hv, by omega, by omega⟩) (fun cq => absurd rfl cq)
theorem t_5 {sta : mj_S} {Bd L n : Nat} {xs : Nat → Int32} {T : Nat → mj_L → List Value → mj_H → Prop} {h : mj_H} {a b : Option Value} (hs : sta (mj_SB + 101) = some (L, xs)) (h1 : vp_in (nI n + Int32.ofInt 1) L) (h2 : vp_in (nI n + Int32.ofInt 2) L) (h3 : vp_in (nI n + Int32.ofInt 3) L) (h4 : vp_in (nI n + Int32.ofInt 4) L) (h5 : vp_in (nI n + Int32.ofInt 5) L) (hB : Bd < 2 ^ 20) (hI : LI sta Bd h) (hK : ∀ h a b, LI sta (Bd + 1) h → mj_go sta (mj_Cl sta 11) m_L_law T 2027 [some (.ref (mj_SB + 101)), some (.ref 0), some (.ref 151), some (.ref 165), some (.int (nI n)), a, b] [] h) : mj_go sta (mj_Cl sta 11) m_L_law T 429 [some (.ref (mj_SB + 101)), some (.ref 0), some (.ref 151), some (.ref 165), some (.int (nI n)), a, b] [] h := by
  obtain ⟨tr, w, u, f, t, hJ, hv, hl, hz⟩ := hI
  have hB : Bd < 2 ^ 30 := Nat.lt_trans hB (by decide)
  obtain ⟨fs, hf⟩ := (J_at hJ).2
  have hV := hv.V
  repeat (first | refine g_sald hV hs rfl (by assumption) ?_ | refine g_px rfl rfl rfl ?_ | refine L_bool rfl rfl rfl rfl ?_)
  refine L_oneI hv hJ rfl rfl rfl rfl rfl rfl rfl n_X8_spared rfl (J_spared (d := 2)  hB hJ) (fun x MP w1 h6 s2 s3 hv e1 e2 => ?_)
  have hV := hv.V
  repeat (first | refine g_sald hV hs rfl (by assumption) ?_ | refine g_px rfl rfl rfl ?_ | refine L_bool rfl rfl rfl rfl ?_)
  refine L_twoV hv hf rfl rfl rfl rfl rfl rfl s2 (fun u1 h7 hp hv e3 e4 => ?_)
  obtain ⟨tr1, hJ1⟩ := s3 u1 hp
  exact g_ic rfl (fun _ => hK h7 a b ⟨tr1, w1, u1, f, t, hJ1, hv, by omega, by omega⟩) (fun cq => absurd rfl cq)
theorem t_6 {sta : mj_S} {Bd L n : Nat} {xs : Nat → Int32} {T : Nat → mj_L → List Value → mj_H → Prop} {h : mj_H} {a b : Option Value} (hs : sta (mj_SB + 101) = some (L, xs)) (h1 : vp_in (nI n + Int32.ofInt 1) L) (h2 : vp_in (nI n + Int32.ofInt 2) L) (h3 : vp_in (nI n + Int32.ofInt 3) L) (h4 : vp_in (nI n + Int32.ofInt 4) L) (h5 : vp_in (nI n + Int32.ofInt 5) L) (hB : Bd < 2 ^ 20) (hI : LI sta Bd h) (hK : ∀ h a b, LI sta (Bd + 1) h → mj_go sta (mj_Cl sta 11) m_L_law T 2027 [some (.ref (mj_SB + 101)), some (.ref 0), some (.ref 151), some (.ref 165), some (.int (nI n)), a, b] [] h) : mj_go sta (mj_Cl sta 11) m_L_law T 442 [some (.ref (mj_SB + 101)), some (.ref 0), some (.ref 151), some (.ref 165), some (.int (nI n)), a, b] [] h := by
  obtain ⟨tr, w, u, f, t, hJ, hv, hl, hz⟩ := hI
  have hB : Bd < 2 ^ 30 := Nat.lt_trans hB (by decide)
  obtain ⟨fs, hf⟩ := (J_at hJ).2
  have hV := hv.V
  repeat (first | refine g_sald hV hs rfl (by assumption) ?_ | refine g_px rfl rfl rfl ?_ | refine L_bool rfl rfl rfl rfl ?_)
  refine L_oneI hv hJ rfl rfl rfl rfl rfl rfl rfl n_X8_many rfl (J_many (d := 2) (xs (nI n + Int32.ofInt 1).toNatClampNeg) hB hJ) (fun x MP w1 h6 s2 s3 hv e1 e2 => ?_)
  have hV := hv.V
  repeat (first | refine g_sald hV hs rfl (by assumption) ?_ | refine g_px rfl rfl rfl ?_ | refine L_bool rfl rfl rfl rfl ?_)
  refine L_twoV hv hf rfl rfl rfl rfl rfl rfl s2 (fun u1 h7 hp hv e3 e4 => ?_)
  obtain ⟨tr1, hJ1⟩ := s3 u1 hp
  exact g_ic rfl (fun _ => hK h7 a b ⟨tr1, w1, u1, f, t, hJ1, hv, by omega, by omega⟩) (fun cq => absurd rfl cq)
theorem t_7 {sta : mj_S} {Bd L n : Nat} {xs : Nat → Int32} {T : Nat → mj_L → List Value → mj_H → Prop} {h : mj_H} {a b : Option Value} (hs : sta (mj_SB + 101) = some (L, xs)) (h1 : vp_in (nI n + Int32.ofInt 1) L) (h2 : vp_in (nI n + Int32.ofInt 2) L) (h3 : vp_in (nI n + Int32.ofInt 3) L) (h4 : vp_in (nI n + Int32.ofInt 4) L) (h5 : vp_in (nI n + Int32.ofInt 5) L) (hB : Bd < 2 ^ 20) (hI : LI sta Bd h) (hK : ∀ h a b, LI sta (Bd + 1) h → mj_go sta (mj_Cl sta 11) m_L_law T 2027 [some (.ref (mj_SB + 101)), some (.ref 0), some (.ref 151), some (.ref 165), some (.int (nI n)), a, b] [] h) : mj_go sta (mj_Cl sta 11) m_L_law T 467 [some (.ref (mj_SB + 101)), some (.ref 0), some (.ref 151), some (.ref 165), some (.int (nI n)), a, b] [] h := by
  obtain ⟨tr, w, u, f, t, hJ, hv, hl, hz⟩ := hI
  have hB : Bd < 2 ^ 30 := Nat.lt_trans hB (by decide)
  obtain ⟨fs, hf⟩ := (J_at hJ).2
  have hV := hv.V
  repeat (first | refine g_sald hV hs rfl (by assumption) ?_ | refine g_px rfl rfl rfl ?_ | refine L_bool rfl rfl rfl rfl ?_)
  refine L_oneI hv hJ rfl rfl rfl rfl rfl rfl rfl n_X8_wouldGo rfl (J_wouldGo (d := 2) (xs (nI n + Int32.ofInt 1).toNatClampNeg) hB hJ) (fun x MP w1 h6 s2 s3 hv e1 e2 => ?_)
  have hV := hv.V
  repeat (first | refine g_sald hV hs rfl (by assumption) ?_ | refine g_px rfl rfl rfl ?_ | refine L_bool rfl rfl rfl rfl ?_)
  refine L_twoV hv hf rfl rfl rfl rfl rfl rfl s2 (fun u1 h7 hp hv e3 e4 => ?_)
  obtain ⟨tr1, hJ1⟩ := s3 u1 hp
  exact g_ic rfl (fun _ => hK h7 a b ⟨tr1, w1, u1, f, t, hJ1, hv, by omega, by omega⟩) (fun cq => absurd rfl cq)
theorem t_8 {sta : mj_S} {Bd L n : Nat} {xs : Nat → Int32} {T : Nat → mj_L → List Value → mj_H → Prop} {h : mj_H} {a b : Option Value} (hs : sta (mj_SB + 101) = some (L, xs)) (h1 : vp_in (nI n + Int32.ofInt 1) L) (h2 : vp_in (nI n + Int32.ofInt 2) L) (h3 : vp_in (nI n + Int32.ofInt 3) L) (h4 : vp_in (nI n + Int32.ofInt 4) L) (h5 : vp_in (nI n + Int32.ofInt 5) L) (hB : Bd < 2 ^ 20) (hI : LI sta Bd h) (hK : ∀ h a b, LI sta (Bd + 1) h → mj_go sta (mj_Cl sta 11) m_L_law T 2027 [some (.ref (mj_SB + 101)), some (.ref 0), some (.ref 151), some (.ref 165), some (.int (nI n)), a, b] [] h) : mj_go sta (mj_Cl sta 11) m_L_law T 492 [some (.ref (mj_SB + 101)), some (.ref 0), some (.ref 151), some (.ref 165), some (.int (nI n)), a, b] [] h := by
  obtain ⟨tr, w, u, f, t, hJ, hv, hl, hz⟩ := hI
  have hB : Bd < 2 ^ 30 := Nat.lt_trans hB (by decide)
  obtain ⟨fs, hf⟩ := (J_at hJ).2
  have hV := hv.V
  repeat (first | refine g_sald hV hs rfl (by assumption) ?_ | refine g_px rfl rfl rfl ?_ | refine L_bool rfl rfl rfl rfl ?_)
  refine L_oneI hv hJ rfl rfl rfl rfl rfl rfl rfl n_X8_takenBy rfl (J_takenBy (d := 2) (xs (nI n + Int32.ofInt 1).toNatClampNeg) hB hJ) (fun x MP w1 h6 s2 s3 hv e1 e2 => ?_)
  have hV := hv.V
  repeat (first | refine g_sald hV hs rfl (by assumption) ?_ | refine g_px rfl rfl rfl ?_ | refine L_bool rfl rfl rfl rfl ?_)
  refine L_twoV hv hf rfl rfl rfl rfl rfl rfl s2 (fun u1 h7 hp hv e3 e4 => ?_)
  obtain ⟨tr1, hJ1⟩ := s3 u1 hp
  exact g_ic rfl (fun _ => hK h7 a b ⟨tr1, w1, u1, f, t, hJ1, hv, by omega, by omega⟩) (fun cq => absurd rfl cq)
theorem t_9 {sta : mj_S} {Bd L n : Nat} {xs : Nat → Int32} {T : Nat → mj_L → List Value → mj_H → Prop} {h : mj_H} {a b : Option Value} (hs : sta (mj_SB + 101) = some (L, xs)) (h1 : vp_in (nI n + Int32.ofInt 1) L) (h2 : vp_in (nI n + Int32.ofInt 2) L) (h3 : vp_in (nI n + Int32.ofInt 3) L) (h4 : vp_in (nI n + Int32.ofInt 4) L) (h5 : vp_in (nI n + Int32.ofInt 5) L) (hB : Bd < 2 ^ 20) (hI : LI sta Bd h) (hK : ∀ h a b, LI sta (Bd + 1) h → mj_go sta (mj_Cl sta 11) m_L_law T 2027 [some (.ref (mj_SB + 101)), some (.ref 0), some (.ref 151), some (.ref 165), some (.int (nI n)), a, b] [] h) : mj_go sta (mj_Cl sta 11) m_L_law T 517 [some (.ref (mj_SB + 101)), some (.ref 0), some (.ref 151), some (.ref 165), some (.int (nI n)), a, b] [] h := by
  obtain ⟨tr, w, u, f, t, hJ, hv, hl, hz⟩ := hI
  have hB : Bd < 2 ^ 30 := Nat.lt_trans hB (by decide)
  obtain ⟨fs, hf⟩ := (J_at hJ).2
  have hV := hv.V
  repeat (first | refine g_sald hV hs rfl (by assumption) ?_ | refine g_px rfl rfl rfl ?_ | refine L_bool rfl rfl rfl rfl ?_)
  refine L_oneI hv hJ rfl rfl rfl rfl rfl rfl rfl n_X8_goesBy rfl (J_goesBy (d := 2) (xs (nI n + Int32.ofInt 1).toNatClampNeg) hB hJ) (fun x MP w1 h6 s2 s3 hv e1 e2 => ?_)
  have hV := hv.V
  repeat (first | refine g_sald hV hs rfl (by assumption) ?_ | refine g_px rfl rfl rfl ?_ | refine L_bool rfl rfl rfl rfl ?_)
  refine L_twoV hv hf rfl rfl rfl rfl rfl rfl s2 (fun u1 h7 hp hv e3 e4 => ?_)
  obtain ⟨tr1, hJ1⟩ := s3 u1 hp
  exact g_ic rfl (fun _ => hK h7 a b ⟨tr1, w1, u1, f, t, hJ1, hv, by omega, by omega⟩) (fun cq => absurd rfl cq)
theorem t_10 {sta : mj_S} {Bd L n : Nat} {xs : Nat → Int32} {T : Nat → mj_L → List Value → mj_H → Prop} {h : mj_H} {a b : Option Value} (hs : sta (mj_SB + 101) = some (L, xs)) (h1 : vp_in (nI n + Int32.ofInt 1) L) (h2 : vp_in (nI n + Int32.ofInt 2) L) (h3 : vp_in (nI n + Int32.ofInt 3) L) (h4 : vp_in (nI n + Int32.ofInt 4) L) (h5 : vp_in (nI n + Int32.ofInt 5) L) (hB : Bd < 2 ^ 20) (hI : LI sta Bd h) (hK : ∀ h a b, LI sta (Bd + 1) h → mj_go sta (mj_Cl sta 11) m_L_law T 2027 [some (.ref (mj_SB + 101)), some (.ref 0), some (.ref 151), some (.ref 165), some (.int (nI n)), a, b] [] h) : mj_go sta (mj_Cl sta 11) m_L_law T 542 [some (.ref (mj_SB + 101)), some (.ref 0), some (.ref 151), some (.ref 165), some (.int (nI n)), a, b] [] h := by
  obtain ⟨tr, w, u, f, t, hJ, hv, hl, hz⟩ := hI
  have hB : Bd < 2 ^ 30 := Nat.lt_trans hB (by decide)
  obtain ⟨fs, hf⟩ := (J_at hJ).2
  have hV := hv.V
  repeat (first | refine g_sald hV hs rfl (by assumption) ?_ | refine g_px rfl rfl rfl ?_ | refine L_bool rfl rfl rfl rfl ?_)
  refine L_oneI hv hJ rfl rfl rfl rfl rfl rfl rfl n_X8_sendsBy rfl (J_sendsBy (d := 2) (xs (nI n + Int32.ofInt 1).toNatClampNeg) (xs (nI n + Int32.ofInt 2).toNatClampNeg) hB hJ) (fun x MP w1 h6 s2 s3 hv e1 e2 => ?_)
  have hV := hv.V
  repeat (first | refine g_sald hV hs rfl (by assumption) ?_ | refine g_px rfl rfl rfl ?_ | refine L_bool rfl rfl rfl rfl ?_)
  refine L_twoV hv hf rfl rfl rfl rfl rfl rfl s2 (fun u1 h7 hp hv e3 e4 => ?_)
  obtain ⟨tr1, hJ1⟩ := s3 u1 hp
  exact g_ic rfl (fun _ => hK h7 a b ⟨tr1, w1, u1, f, t, hJ1, hv, by omega, by omega⟩) (fun cq => absurd rfl cq)
theorem t_11 {sta : mj_S} {Bd L n : Nat} {xs : Nat → Int32} {T : Nat → mj_L → List Value → mj_H → Prop} {h : mj_H} {a b : Option Value} (hs : sta (mj_SB + 101) = some (L, xs)) (h1 : vp_in (nI n + Int32.ofInt 1) L) (h2 : vp_in (nI n + Int32.ofInt 2) L) (h3 : vp_in (nI n + Int32.ofInt 3) L) (h4 : vp_in (nI n + Int32.ofInt 4) L) (h5 : vp_in (nI n + Int32.ofInt 5) L) (hB : Bd < 2 ^ 20) (hI : LI sta Bd h) (hK : ∀ h a b, LI sta (Bd + 1) h → mj_go sta (mj_Cl sta 11) m_L_law T 2027 [some (.ref (mj_SB + 101)), some (.ref 0), some (.ref 151), some (.ref 165), some (.int (nI n)), a, b] [] h) : mj_go sta (mj_Cl sta 11) m_L_law T 579 [some (.ref (mj_SB + 101)), some (.ref 0), some (.ref 151), some (.ref 165), some (.int (nI n)), a, b] [] h := by
  obtain ⟨tr, w, u, f, t, hJ, hv, hl, hz⟩ := hI
  have hB : Bd < 2 ^ 30 := Nat.lt_trans hB (by decide)
  obtain ⟨fs, hf⟩ := (J_at hJ).2
  have hV := hv.V
  repeat (first | refine g_sald hV hs rfl (by assumption) ?_ | refine g_px rfl rfl rfl ?_ | refine L_bool rfl rfl rfl rfl ?_)
  refine L_oneI hv hJ rfl rfl rfl rfl rfl rfl rfl n_X8_lossBy rfl (J_lossBy (d := 2) (xs (nI n + Int32.ofInt 1).toNatClampNeg) (xs (nI n + Int32.ofInt 2).toNatClampNeg) hB hJ) (fun x MP w1 h6 s2 s3 hv e1 e2 => ?_)
  have hV := hv.V
  repeat (first | refine g_sald hV hs rfl (by assumption) ?_ | refine g_px rfl rfl rfl ?_ | refine L_bool rfl rfl rfl rfl ?_)
  refine L_twoV hv hf rfl rfl rfl rfl rfl rfl s2 (fun u1 h7 hp hv e3 e4 => ?_)
  obtain ⟨tr1, hJ1⟩ := s3 u1 hp
  exact g_ic rfl (fun _ => hK h7 a b ⟨tr1, w1, u1, f, t, hJ1, hv, by omega, by omega⟩) (fun cq => absurd rfl cq)
theorem t_12 {sta : mj_S} {Bd L n : Nat} {xs : Nat → Int32} {T : Nat → mj_L → List Value → mj_H → Prop} {h : mj_H} {a b : Option Value} (hs : sta (mj_SB + 101) = some (L, xs)) (h1 : vp_in (nI n + Int32.ofInt 1) L) (h2 : vp_in (nI n + Int32.ofInt 2) L) (h3 : vp_in (nI n + Int32.ofInt 3) L) (h4 : vp_in (nI n + Int32.ofInt 4) L) (h5 : vp_in (nI n + Int32.ofInt 5) L) (hB : Bd < 2 ^ 20) (hI : LI sta Bd h) (hK : ∀ h a b, LI sta (Bd + 1) h → mj_go sta (mj_Cl sta 11) m_L_law T 2027 [some (.ref (mj_SB + 101)), some (.ref 0), some (.ref 151), some (.ref 165), some (.int (nI n)), a, b] [] h) : mj_go sta (mj_Cl sta 11) m_L_law T 616 [some (.ref (mj_SB + 101)), some (.ref 0), some (.ref 151), some (.ref 165), some (.int (nI n)), a, b] [] h := by
  obtain ⟨tr, w, u, f, t, hJ, hv, hl, hz⟩ := hI
  have hB : Bd < 2 ^ 30 := Nat.lt_trans hB (by decide)
  obtain ⟨fs, hf⟩ := (J_at hJ).2
  have hV := hv.V
  repeat (first | refine g_sald hV hs rfl (by assumption) ?_ | refine g_px rfl rfl rfl ?_ | refine L_bool rfl rfl rfl rfl ?_)
  refine L_oneI hv hJ rfl rfl rfl rfl rfl rfl rfl n_X8_firstTaken rfl (J_firstTaken (d := 2) (xs (nI n + Int32.ofInt 1).toNatClampNeg) hB hJ) (fun x MP w1 h6 s2 s3 hv e1 e2 => ?_)
  have hV := hv.V
  repeat (first | refine g_sald hV hs rfl (by assumption) ?_ | refine g_px rfl rfl rfl ?_ | refine L_bool rfl rfl rfl rfl ?_)
  refine L_twoV hv hf rfl rfl rfl rfl rfl rfl s2 (fun u1 h7 hp hv e3 e4 => ?_)
  obtain ⟨tr1, hJ1⟩ := s3 u1 hp
  exact g_ic rfl (fun _ => hK h7 a b ⟨tr1, w1, u1, f, t, hJ1, hv, by omega, by omega⟩) (fun cq => absurd rfl cq)
theorem t_13 {sta : mj_S} {Bd L n : Nat} {xs : Nat → Int32} {T : Nat → mj_L → List Value → mj_H → Prop} {h : mj_H} {a b : Option Value} (hs : sta (mj_SB + 101) = some (L, xs)) (h1 : vp_in (nI n + Int32.ofInt 1) L) (h2 : vp_in (nI n + Int32.ofInt 2) L) (h3 : vp_in (nI n + Int32.ofInt 3) L) (h4 : vp_in (nI n + Int32.ofInt 4) L) (h5 : vp_in (nI n + Int32.ofInt 5) L) (hB : Bd < 2 ^ 20) (hI : LI sta Bd h) (hK : ∀ h a b, LI sta (Bd + 1) h → mj_go sta (mj_Cl sta 11) m_L_law T 2027 [some (.ref (mj_SB + 101)), some (.ref 0), some (.ref 151), some (.ref 165), some (.int (nI n)), a, b] [] h) : mj_go sta (mj_Cl sta 11) m_L_law T 641 [some (.ref (mj_SB + 101)), some (.ref 0), some (.ref 151), some (.ref 165), some (.int (nI n)), a, b] [] h := by
  obtain ⟨tr, w, u, f, t, hJ, hv, hl, hz⟩ := hI
  have hB : Bd < 2 ^ 30 := Nat.lt_trans hB (by decide)
  obtain ⟨fs, hf⟩ := (J_at hJ).2
  have hV := hv.V
  repeat (first | refine g_sald hV hs rfl (by assumption) ?_ | refine g_px rfl rfl rfl ?_ | refine L_bool rfl rfl rfl rfl ?_)
  refine L_oneL hv hJ rfl rfl rfl rfl rfl rfl rfl n_X8_taken rfl (by decide +kernel) (J_taken (d := 2) (xs (nI n + Int32.ofInt 1).toNatClampNeg) (!decide ((xs (nI n + Int32.ofInt 2).toNatClampNeg) = 0)) hB hJ) (fun x MP w1 h6 s2 s3 hv e1 e2 => ?_)
  have hV := hv.V
  repeat (first | refine g_sald hV hs rfl (by assumption) ?_ | refine g_px rfl rfl rfl ?_ | refine L_bool rfl rfl rfl rfl ?_)
  refine L_twoV hv hf rfl rfl rfl rfl rfl rfl s2 (fun u1 h7 hp hv e3 e4 => ?_)
  obtain ⟨tr1, hJ1⟩ := s3 u1 hp
  refine g_px rfl rfl rfl ?_
  exact g_if rfl (fun _ => hK h7 a b ⟨tr1, w1, u1, f, t, hJ1, hv, by omega, by omega⟩) (fun cq => absurd (lgc_self x) cq)
theorem t_14 {sta : mj_S} {Bd L n : Nat} {xs : Nat → Int32} {T : Nat → mj_L → List Value → mj_H → Prop} {h : mj_H} {a b : Option Value} (hs : sta (mj_SB + 101) = some (L, xs)) (h1 : vp_in (nI n + Int32.ofInt 1) L) (h2 : vp_in (nI n + Int32.ofInt 2) L) (h3 : vp_in (nI n + Int32.ofInt 3) L) (h4 : vp_in (nI n + Int32.ofInt 4) L) (h5 : vp_in (nI n + Int32.ofInt 5) L) (hB : Bd < 2 ^ 20) (hI : LI sta Bd h) (hK : ∀ h a b, LI sta (Bd + 1) h → mj_go sta (mj_Cl sta 11) m_L_law T 2027 [some (.ref (mj_SB + 101)), some (.ref 0), some (.ref 151), some (.ref 165), some (.int (nI n)), a, b] [] h) : mj_go sta (mj_Cl sta 11) m_L_law T 695 [some (.ref (mj_SB + 101)), some (.ref 0), some (.ref 151), some (.ref 165), some (.int (nI n)), a, b] [] h := by
  obtain ⟨tr, w, u, f, t, hJ, hv, hl, hz⟩ := hI
  have hB : Bd < 2 ^ 30 := Nat.lt_trans hB (by decide)
  obtain ⟨fs, hf⟩ := (J_at hJ).2
  have hV := hv.V
  repeat (first | refine g_sald hV hs rfl (by assumption) ?_ | refine g_px rfl rfl rfl ?_ | refine L_bool rfl rfl rfl rfl ?_)
  refine L_oneL hv hJ rfl rfl rfl rfl rfl rfl rfl n_X8_goes rfl (by decide +kernel) (J_goes (d := 2) (xs (nI n + Int32.ofInt 1).toNatClampNeg) (!decide ((xs (nI n + Int32.ofInt 2).toNatClampNeg) = 0)) hB hJ) (fun x MP w1 h6 s2 s3 hv e1 e2 => ?_)
  have hV := hv.V
  repeat (first | refine g_sald hV hs rfl (by assumption) ?_ | refine g_px rfl rfl rfl ?_ | refine L_bool rfl rfl rfl rfl ?_)
  refine L_twoV hv hf rfl rfl rfl rfl rfl rfl s2 (fun u1 h7 hp hv e3 e4 => ?_)
  obtain ⟨tr1, hJ1⟩ := s3 u1 hp
  refine g_px rfl rfl rfl ?_
  exact g_if rfl (fun _ => hK h7 a b ⟨tr1, w1, u1, f, t, hJ1, hv, by omega, by omega⟩) (fun cq => absurd (lgc_self x) cq)
theorem t_15 {sta : mj_S} {Bd L n : Nat} {xs : Nat → Int32} {T : Nat → mj_L → List Value → mj_H → Prop} {h : mj_H} {a b : Option Value} (hs : sta (mj_SB + 101) = some (L, xs)) (h1 : vp_in (nI n + Int32.ofInt 1) L) (h2 : vp_in (nI n + Int32.ofInt 2) L) (h3 : vp_in (nI n + Int32.ofInt 3) L) (h4 : vp_in (nI n + Int32.ofInt 4) L) (h5 : vp_in (nI n + Int32.ofInt 5) L) (hB : Bd < 2 ^ 20) (hI : LI sta Bd h) (hK : ∀ h a b, LI sta (Bd + 1) h → mj_go sta (mj_Cl sta 11) m_L_law T 2027 [some (.ref (mj_SB + 101)), some (.ref 0), some (.ref 151), some (.ref 165), some (.int (nI n)), a, b] [] h) : mj_go sta (mj_Cl sta 11) m_L_law T 749 [some (.ref (mj_SB + 101)), some (.ref 0), some (.ref 151), some (.ref 165), some (.int (nI n)), a, b] [] h := by
  obtain ⟨tr, w, u, f, t, hJ, hv, hl, hz⟩ := hI
  have hB : Bd < 2 ^ 30 := Nat.lt_trans hB (by decide)
  obtain ⟨fs, hf⟩ := (J_at hJ).2
  have hV := hv.V
  repeat (first | refine g_sald hV hs rfl (by assumption) ?_ | refine g_px rfl rfl rfl ?_ | refine L_bool rfl rfl rfl rfl ?_)
  refine L_oneL hv hJ rfl rfl rfl rfl rfl rfl rfl n_X8_goesFor rfl (by decide +kernel) (J_goesFor (d := 2) (xs (nI n + Int32.ofInt 1).toNatClampNeg) (xs (nI n + Int32.ofInt 2).toNatClampNeg) (!decide ((xs (nI n + Int32.ofInt 3).toNatClampNeg) = 0)) hB hJ) (fun x MP w1 h6 s2 s3 hv e1 e2 => ?_)
  have hV := hv.V
  repeat (first | refine g_sald hV hs rfl (by assumption) ?_ | refine g_px rfl rfl rfl ?_ | refine L_bool rfl rfl rfl rfl ?_)
  refine L_twoV hv hf rfl rfl rfl rfl rfl rfl s2 (fun u1 h7 hp hv e3 e4 => ?_)
  obtain ⟨tr1, hJ1⟩ := s3 u1 hp
  refine g_px rfl rfl rfl ?_
  exact g_if rfl (fun _ => hK h7 a b ⟨tr1, w1, u1, f, t, hJ1, hv, by omega, by omega⟩) (fun cq => absurd (lgc_self x) cq)
theorem t_16 {sta : mj_S} {Bd L n : Nat} {xs : Nat → Int32} {T : Nat → mj_L → List Value → mj_H → Prop} {h : mj_H} {a b : Option Value} (hs : sta (mj_SB + 101) = some (L, xs)) (h1 : vp_in (nI n + Int32.ofInt 1) L) (h2 : vp_in (nI n + Int32.ofInt 2) L) (h3 : vp_in (nI n + Int32.ofInt 3) L) (h4 : vp_in (nI n + Int32.ofInt 4) L) (h5 : vp_in (nI n + Int32.ofInt 5) L) (hB : Bd < 2 ^ 20) (hI : LI sta Bd h) (hK : ∀ h a b, LI sta (Bd + 1) h → mj_go sta (mj_Cl sta 11) m_L_law T 2027 [some (.ref (mj_SB + 101)), some (.ref 0), some (.ref 151), some (.ref 165), some (.int (nI n)), a, b] [] h) : mj_go sta (mj_Cl sta 11) m_L_law T 815 [some (.ref (mj_SB + 101)), some (.ref 0), some (.ref 151), some (.ref 165), some (.int (nI n)), a, b] [] h := by
  obtain ⟨tr, w, u, f, t, hJ, hv, hl, hz⟩ := hI
  have hB : Bd < 2 ^ 30 := Nat.lt_trans hB (by decide)
  obtain ⟨fs, hf⟩ := (J_at hJ).2
  have hV := hv.V
  repeat (first | refine g_sald hV hs rfl (by assumption) ?_ | refine g_px rfl rfl rfl ?_ | refine L_bool rfl rfl rfl rfl ?_)
  refine L_oneL hv hJ rfl rfl rfl rfl rfl rfl rfl n_X8_loss rfl (by decide +kernel) (J_loss (d := 2) (xs (nI n + Int32.ofInt 1).toNatClampNeg) (!decide ((xs (nI n + Int32.ofInt 2).toNatClampNeg) = 0)) hB hJ) (fun x MP w1 h6 s2 s3 hv e1 e2 => ?_)
  have hV := hv.V
  repeat (first | refine g_sald hV hs rfl (by assumption) ?_ | refine g_px rfl rfl rfl ?_ | refine L_bool rfl rfl rfl rfl ?_)
  refine L_twoV hv hf rfl rfl rfl rfl rfl rfl s2 (fun u1 h7 hp hv e3 e4 => ?_)
  obtain ⟨tr1, hJ1⟩ := s3 u1 hp
  refine g_px rfl rfl rfl ?_
  exact g_if rfl (fun _ => hK h7 a b ⟨tr1, w1, u1, f, t, hJ1, hv, by omega, by omega⟩) (fun cq => absurd (lgc_self x) cq)
theorem t_17 {sta : mj_S} {Bd L n : Nat} {xs : Nat → Int32} {T : Nat → mj_L → List Value → mj_H → Prop} {h : mj_H} {a b : Option Value} (hs : sta (mj_SB + 101) = some (L, xs)) (h1 : vp_in (nI n + Int32.ofInt 1) L) (h2 : vp_in (nI n + Int32.ofInt 2) L) (h3 : vp_in (nI n + Int32.ofInt 3) L) (h4 : vp_in (nI n + Int32.ofInt 4) L) (h5 : vp_in (nI n + Int32.ofInt 5) L) (hB : Bd < 2 ^ 20) (hI : LI sta Bd h) (hK : ∀ h a b, LI sta (Bd + 1) h → mj_go sta (mj_Cl sta 11) m_L_law T 2027 [some (.ref (mj_SB + 101)), some (.ref 0), some (.ref 151), some (.ref 165), some (.int (nI n)), a, b] [] h) : mj_go sta (mj_Cl sta 11) m_L_law T 869 [some (.ref (mj_SB + 101)), some (.ref 0), some (.ref 151), some (.ref 165), some (.int (nI n)), a, b] [] h := by
  obtain ⟨tr, w, u, f, t, hJ, hv, hl, hz⟩ := hI
  have hB : Bd < 2 ^ 30 := Nat.lt_trans hB (by decide)
  obtain ⟨fs, hf⟩ := (J_at hJ).2
  have hV := hv.V
  repeat (first | refine g_sald hV hs rfl (by assumption) ?_ | refine g_px rfl rfl rfl ?_ | refine L_bool rfl rfl rfl rfl ?_)
  refine L_oneL hv hJ rfl rfl rfl rfl rfl rfl rfl n_X8_club rfl (by decide +kernel) (J_club (d := 2) (xs (nI n + Int32.ofInt 1).toNatClampNeg) (!decide ((xs (nI n + Int32.ofInt 2).toNatClampNeg) = 0)) hB hJ) (fun x MP w1 h6 s2 s3 hv e1 e2 => ?_)
  have hV := hv.V
  repeat (first | refine g_sald hV hs rfl (by assumption) ?_ | refine g_px rfl rfl rfl ?_ | refine L_bool rfl rfl rfl rfl ?_)
  refine L_twoV hv hf rfl rfl rfl rfl rfl rfl s2 (fun u1 h7 hp hv e3 e4 => ?_)
  obtain ⟨tr1, hJ1⟩ := s3 u1 hp
  refine g_px rfl rfl rfl ?_
  exact g_if rfl (fun _ => hK h7 a b ⟨tr1, w1, u1, f, t, hJ1, hv, by omega, by omega⟩) (fun cq => absurd (lgc_self x) cq)
