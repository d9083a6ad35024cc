/-! the law's switch, case by case -/
theorem t_18 {sta : mj_S} {Bd L n : Nat} {xs : Nat → Int32} {T : Nat → mj_L → List Value → mj_H → Prop} {h : mj_H} {a b : Option Value} (hs : sta (mj_SB + 101) = some (L, xs)) (h1 : vp_in (nI n + Int32.ofInt 1) L) (h2 : vp_in (nI n + Int32.ofInt 2) L) (h3 : vp_in (nI n + Int32.ofInt 3) L) (h4 : vp_in (nI n + Int32.ofInt 4) L) (h5 : vp_in (nI n + Int32.ofInt 5) L) (hB : Bd < 2 ^ 20) (hI : LI sta Bd h) (hK : ∀ h a b, LI sta (Bd + 1) h → mj_go sta (mj_Cl sta 11) m_L_law T 2027 [some (.ref (mj_SB + 101)), some (.ref 0), some (.ref 151), some (.ref 165), some (.int (nI n)), a, b] [] h) : mj_go sta (mj_Cl sta 11) m_L_law T 923 [some (.ref (mj_SB + 101)), some (.ref 0), some (.ref 151), some (.ref 165), some (.int (nI n)), a, b] [] h := by
  obtain ⟨tr, w, u, f, t, hJ, hv, hl, hz⟩ := hI
  have hB : Bd < 2 ^ 30 := Nat.lt_trans hB (by decide)
  obtain ⟨fs, hf⟩ := (J_at hJ).2
  have hV := hv.V
  repeat (first | refine g_sald hV hs rfl (by assumption) ?_ | refine g_px rfl rfl rfl ?_ | refine L_bool rfl rfl rfl rfl ?_)
  refine L_oneL hv hJ rfl rfl rfl rfl rfl rfl rfl n_X8_ruin rfl (by decide +kernel) (J_ruin (d := 2) (xs (nI n + Int32.ofInt 1).toNatClampNeg) (xs (nI n + Int32.ofInt 2).toNatClampNeg) (!decide ((xs (nI n + Int32.ofInt 3).toNatClampNeg) = 0)) hB hJ) (fun x MP w1 h6 s2 s3 hv e1 e2 => ?_)
  have hV := hv.V
  repeat (first | refine g_sald hV hs rfl (by assumption) ?_ | refine g_px rfl rfl rfl ?_ | refine L_bool rfl rfl rfl rfl ?_)
  refine L_twoV hv hf rfl rfl rfl rfl rfl rfl s2 (fun u1 h7 hp hv e3 e4 => ?_)
  obtain ⟨tr1, hJ1⟩ := s3 u1 hp
  refine g_px rfl rfl rfl ?_
  exact g_if rfl (fun _ => hK h7 a b ⟨tr1, w1, u1, f, t, hJ1, hv, by omega, by omega⟩) (fun cq => absurd (lgc_self x) cq)
theorem t_19 {sta : mj_S} {Bd L n : Nat} {xs : Nat → Int32} {T : Nat → mj_L → List Value → mj_H → Prop} {h : mj_H} {a b : Option Value} (hs : sta (mj_SB + 101) = some (L, xs)) (h1 : vp_in (nI n + Int32.ofInt 1) L) (h2 : vp_in (nI n + Int32.ofInt 2) L) (h3 : vp_in (nI n + Int32.ofInt 3) L) (h4 : vp_in (nI n + Int32.ofInt 4) L) (h5 : vp_in (nI n + Int32.ofInt 5) L) (hB : Bd < 2 ^ 20) (hI : LI sta Bd h) (hK : ∀ h a b, LI sta (Bd + 1) h → mj_go sta (mj_Cl sta 11) m_L_law T 2027 [some (.ref (mj_SB + 101)), some (.ref 0), some (.ref 151), some (.ref 165), some (.int (nI n)), a, b] [] h) : mj_go sta (mj_Cl sta 11) m_L_law T 989 [some (.ref (mj_SB + 101)), some (.ref 0), some (.ref 151), some (.ref 165), some (.int (nI n)), a, b] [] h := by
  obtain ⟨tr, w, u, f, t, hJ, hv, hl, hz⟩ := hI
  have hB : Bd < 2 ^ 30 := Nat.lt_trans hB (by decide)
  obtain ⟨fs, hf⟩ := (J_at hJ).2
  have hV := hv.V
  repeat (first | refine g_sald hV hs rfl (by assumption) ?_ | refine g_px rfl rfl rfl ?_ | refine L_bool rfl rfl rfl rfl ?_)
  refine L_oneI hv hJ rfl rfl rfl rfl rfl rfl rfl n_X8_toJoin rfl (J_toJoin (d := 2) (xs (nI n + Int32.ofInt 1).toNatClampNeg) hB hJ) (fun x MP w1 h6 s2 s3 hv e1 e2 => ?_)
  have hV := hv.V
  repeat (first | refine g_sald hV hs rfl (by assumption) ?_ | refine g_px rfl rfl rfl ?_ | refine L_bool rfl rfl rfl rfl ?_)
  refine L_twoV hv hf rfl rfl rfl rfl rfl rfl s2 (fun u1 h7 hp hv e3 e4 => ?_)
  obtain ⟨tr1, hJ1⟩ := s3 u1 hp
  exact g_ic rfl (fun _ => hK h7 a b ⟨tr1, w1, u1, f, t, hJ1, hv, by omega, by omega⟩) (fun cq => absurd rfl cq)
theorem t_20 {sta : mj_S} {Bd L n : Nat} {xs : Nat → Int32} {T : Nat → mj_L → List Value → mj_H → Prop} {h : mj_H} {a b : Option Value} (hs : sta (mj_SB + 101) = some (L, xs)) (h1 : vp_in (nI n + Int32.ofInt 1) L) (h2 : vp_in (nI n + Int32.ofInt 2) L) (h3 : vp_in (nI n + Int32.ofInt 3) L) (h4 : vp_in (nI n + Int32.ofInt 4) L) (h5 : vp_in (nI n + Int32.ofInt 5) L) (hB : Bd < 2 ^ 20) (hI : LI sta Bd h) (hK : ∀ h a b, LI sta (Bd + 1) h → mj_go sta (mj_Cl sta 11) m_L_law T 2027 [some (.ref (mj_SB + 101)), some (.ref 0), some (.ref 151), some (.ref 165), some (.int (nI n)), a, b] [] h) : mj_go sta (mj_Cl sta 11) m_L_law T 1014 [some (.ref (mj_SB + 101)), some (.ref 0), some (.ref 151), some (.ref 165), some (.int (nI n)), a, b] [] h := by
  obtain ⟨tr, w, u, f, t, hJ, hv, hl, hz⟩ := hI
  have hB : Bd < 2 ^ 30 := Nat.lt_trans hB (by decide)
  obtain ⟨fs, hf⟩ := (J_at hJ).2
  have hV := hv.V
  repeat (first | refine g_sald hV hs rfl (by assumption) ?_ | refine g_px rfl rfl rfl ?_ | refine L_bool rfl rfl rfl rfl ?_)
  refine L_oneL hv hJ rfl rfl rfl rfl rfl rfl rfl n_X8_shortOf rfl (by decide +kernel) (J_shortOf (d := 2) (!decide ((xs (nI n + Int32.ofInt 1).toNatClampNeg) = 0)) hB hJ) (fun x MP w1 h6 s2 s3 hv e1 e2 => ?_)
  have hV := hv.V
  repeat (first | refine g_sald hV hs rfl (by assumption) ?_ | refine g_px rfl rfl rfl ?_ | refine L_bool rfl rfl rfl rfl ?_)
  refine L_twoV hv hf rfl rfl rfl rfl rfl rfl s2 (fun u1 h7 hp hv e3 e4 => ?_)
  obtain ⟨tr1, hJ1⟩ := s3 u1 hp
  refine g_px rfl rfl rfl ?_
  exact g_if rfl (fun _ => hK h7 a b ⟨tr1, w1, u1, f, t, hJ1, hv, by omega, by omega⟩) (fun cq => absurd (lgc_self x) cq)
theorem t_21 {sta : mj_S} {Bd L n : Nat} {xs : Nat → Int32} {T : Nat → mj_L → List Value → mj_H → Prop} {h : mj_H} {a b : Option Value} (hs : sta (mj_SB + 101) = some (L, xs)) (h1 : vp_in (nI n + Int32.ofInt 1) L) (h2 : vp_in (nI n + Int32.ofInt 2) L) (h3 : vp_in (nI n + Int32.ofInt 3) L) (h4 : vp_in (nI n + Int32.ofInt 4) L) (h5 : vp_in (nI n + Int32.ofInt 5) L) (hB : Bd < 2 ^ 20) (hI : LI sta Bd h) (hK : ∀ h a b, LI sta (Bd + 1) h → mj_go sta (mj_Cl sta 11) m_L_law T 2027 [some (.ref (mj_SB + 101)), some (.ref 0), some (.ref 151), some (.ref 165), some (.int (nI n)), a, b] [] h) : mj_go sta (mj_Cl sta 11) m_L_law T 1056 [some (.ref (mj_SB + 101)), some (.ref 0), some (.ref 151), some (.ref 165), some (.int (nI n)), a, b] [] h := by
  obtain ⟨tr, w, u, f, t, hJ, hv, hl, hz⟩ := hI
  have hB : Bd < 2 ^ 30 := Nat.lt_trans hB (by decide)
  obtain ⟨fs, hf⟩ := (J_at hJ).2
  have hV := hv.V
  repeat (first | refine g_sald hV hs rfl (by assumption) ?_ | refine g_px rfl rfl rfl ?_ | refine L_bool rfl rfl rfl rfl ?_)
  refine L_oneL hv hJ rfl rfl rfl rfl rfl rfl rfl n_X8_ifMarried rfl (by decide +kernel) (J_ifMarried (d := 2) (xs (nI n + Int32.ofInt 1).toNatClampNeg) (!decide ((xs (nI n + Int32.ofInt 2).toNatClampNeg) = 0)) hB hJ) (fun x MP w1 h6 s2 s3 hv e1 e2 => ?_)
  have hV := hv.V
  repeat (first | refine g_sald hV hs rfl (by assumption) ?_ | refine g_px rfl rfl rfl ?_ | refine L_bool rfl rfl rfl rfl ?_)
  refine L_twoV hv hf rfl rfl rfl rfl rfl rfl s2 (fun u1 h7 hp hv e3 e4 => ?_)
  obtain ⟨tr1, hJ1⟩ := s3 u1 hp
  refine g_px rfl rfl rfl ?_
  exact g_if rfl (fun _ => hK h7 a b ⟨tr1, w1, u1, f, t, hJ1, hv, by omega, by omega⟩) (fun cq => absurd (lgc_self x) cq)
theorem t_22 {sta : mj_S} {Bd L n : Nat} {xs : Nat → Int32} {T : Nat → mj_L → List Value → mj_H → Prop} {h : mj_H} {a b : Option Value} (hs : sta (mj_SB + 101) = some (L, xs)) (h1 : vp_in (nI n + Int32.ofInt 1) L) (h2 : vp_in (nI n + Int32.ofInt 2) L) (h3 : vp_in (nI n + Int32.ofInt 3) L) (h4 : vp_in (nI n + Int32.ofInt 4) L) (h5 : vp_in (nI n + Int32.ofInt 5) L) (hB : Bd < 2 ^ 20) (hI : LI sta Bd h) (hK : ∀ h a b, LI sta (Bd + 1) h → mj_go sta (mj_Cl sta 11) m_L_law T 2027 [some (.ref (mj_SB + 101)), some (.ref 0), some (.ref 151), some (.ref 165), some (.int (nI n)), a, b] [] h) : mj_go sta (mj_Cl sta 11) m_L_law T 1110 [some (.ref (mj_SB + 101)), some (.ref 0), some (.ref 151), some (.ref 165), some (.int (nI n)), a, b] [] h := by
  obtain ⟨tr, w, u, f, t, hJ, hv, hl, hz⟩ := hI
  have hB : Bd < 2 ^ 30 := Nat.lt_trans hB (by decide)
  obtain ⟨fs, hf⟩ := (J_at hJ).2
  have hV := hv.V
  repeat (first | refine g_sald hV hs rfl (by assumption) ?_ | refine g_px rfl rfl rfl ?_ | refine L_bool rfl rfl rfl rfl ?_)
  refine L_oneL hv hJ rfl rfl rfl rfl rfl rfl rfl n_X8_harm rfl (by decide +kernel) (J_harm (d := 2) (xs (nI n + Int32.ofInt 1).toNatClampNeg) (!decide ((xs (nI n + Int32.ofInt 2).toNatClampNeg) = 0)) hB hJ) (fun x MP w1 h6 s2 s3 hv e1 e2 => ?_)
  have hV := hv.V
  repeat (first | refine g_sald hV hs rfl (by assumption) ?_ | refine g_px rfl rfl rfl ?_ | refine L_bool rfl rfl rfl rfl ?_)
  refine L_twoV hv hf rfl rfl rfl rfl rfl rfl s2 (fun u1 h7 hp hv e3 e4 => ?_)
  obtain ⟨tr1, hJ1⟩ := s3 u1 hp
  refine g_px rfl rfl rfl ?_
  exact g_if rfl (fun _ => hK h7 a b ⟨tr1, w1, u1, f, t, hJ1, hv, by omega, by omega⟩) (fun cq => absurd (lgc_self x) cq)
theorem t_23 {sta : mj_S} {Bd L n : Nat} {xs : Nat → Int32} {T : Nat → mj_L → List Value → mj_H → Prop} {h : mj_H} {a b : Option Value} (hs : sta (mj_SB + 101) = some (L, xs)) (h1 : vp_in (nI n + Int32.ofInt 1) L) (h2 : vp_in (nI n + Int32.ofInt 2) L) (h3 : vp_in (nI n + Int32.ofInt 3) L) (h4 : vp_in (nI n + Int32.ofInt 4) L) (h5 : vp_in (nI n + Int32.ofInt 5) L) (hB : Bd < 2 ^ 20) (hI : LI sta Bd h) (hK : ∀ h a b, LI sta (Bd + 1) h → mj_go sta (mj_Cl sta 11) m_L_law T 2027 [some (.ref (mj_SB + 101)), some (.ref 0), some (.ref 151), some (.ref 165), some (.int (nI n)), a, b] [] h) : mj_go sta (mj_Cl sta 11) m_L_law T 1164 [some (.ref (mj_SB + 101)), some (.ref 0), some (.ref 151), some (.ref 165), some (.int (nI n)), a, b] [] h := by
  obtain ⟨tr, w, u, f, t, hJ, hv, hl, hz⟩ := hI
  have hB : Bd < 2 ^ 30 := Nat.lt_trans hB (by decide)
  obtain ⟨fs, hf⟩ := (J_at hJ).2
  have hV := hv.V
  repeat (first | refine g_sald hV hs rfl (by assumption) ?_ | refine g_px rfl rfl rfl ?_ | refine L_bool rfl rfl rfl rfl ?_)
  refine L_oneI hv hJ rfl rfl rfl rfl rfl rfl rfl n_X8_fills rfl (J_fills (d := 2) (xs (nI n + Int32.ofInt 1).toNatClampNeg) hB hJ) (fun x MP w1 h6 s2 s3 hv e1 e2 => ?_)
  have hV := hv.V
  repeat (first | refine g_sald hV hs rfl (by assumption) ?_ | refine g_px rfl rfl rfl ?_ | refine L_bool rfl rfl rfl rfl ?_)
  refine L_twoV hv hf rfl rfl rfl rfl rfl rfl s2 (fun u1 h7 hp hv e3 e4 => ?_)
  obtain ⟨tr1, hJ1⟩ := s3 u1 hp
  exact g_ic rfl (fun _ => hK h7 a b ⟨tr1, w1, u1, f, t, hJ1, hv, by omega, by omega⟩) (fun cq => absurd rfl cq)
theorem t_24 {sta : mj_S} {Bd L n : Nat} {xs : Nat → Int32} {T : Nat → mj_L → List Value → mj_H → Prop} {h : mj_H} {a b : Option Value} (hs : sta (mj_SB + 101) = some (L, xs)) (h1 : vp_in (nI n + Int32.ofInt 1) L) (h2 : vp_in (nI n + Int32.ofInt 2) L) (h3 : vp_in (nI n + Int32.ofInt 3) L) (h4 : vp_in (nI n + Int32.ofInt 4) L) (h5 : vp_in (nI n + Int32.ofInt 5) L) (hB : Bd < 2 ^ 20) (hI : LI sta Bd h) (hK : ∀ h a b, LI sta (Bd + 1) h → mj_go sta (mj_Cl sta 11) m_L_law T 2027 [some (.ref (mj_SB + 101)), some (.ref 0), some (.ref 151), some (.ref 165), some (.int (nI n)), a, b] [] h) : mj_go sta (mj_Cl sta 11) m_L_law T 1189 [some (.ref (mj_SB + 101)), some (.ref 0), some (.ref 151), some (.ref 165), some (.int (nI n)), a, b] [] h := by
  obtain ⟨tr, w, u, f, t, hJ, hv, hl, hz⟩ := hI
  have hB : Bd < 2 ^ 30 := Nat.lt_trans hB (by decide)
  obtain ⟨fs, hf⟩ := (J_at hJ).2
  have hV := hv.V
  repeat (first | refine g_sald hV hs rfl (by assumption) ?_ | refine g_px rfl rfl rfl ?_ | refine L_bool rfl rfl rfl rfl ?_)
  refine L_oneI hv hJ rfl rfl rfl rfl rfl rfl rfl n_X8_bestLaw rfl (J_bestLaw (d := 2)  hB hJ) (fun x MP w1 h6 s2 s3 hv e1 e2 => ?_)
  have hV := hv.V
  repeat (first | refine g_sald hV hs rfl (by assumption) ?_ | refine g_px rfl rfl rfl ?_ | refine L_bool rfl rfl rfl rfl ?_)
  refine L_twoV hv hf rfl rfl rfl rfl rfl rfl s2 (fun u1 h7 hp hv e3 e4 => ?_)
  obtain ⟨tr1, hJ1⟩ := s3 u1 hp
  exact g_ic rfl (fun _ => hK h7 a b ⟨tr1, w1, u1, f, t, hJ1, hv, by omega, by omega⟩) (fun cq => absurd rfl cq)
theorem t_25 {sta : mj_S} {Bd L n : Nat} {xs : Nat → Int32} {T : Nat → mj_L → List Value → mj_H → Prop} {h : mj_H} {a b : Option Value} (hs : sta (mj_SB + 101) = some (L, xs)) (h1 : vp_in (nI n + Int32.ofInt 1) L) (h2 : vp_in (nI n + Int32.ofInt 2) L) (h3 : vp_in (nI n + Int32.ofInt 3) L) (h4 : vp_in (nI n + Int32.ofInt 4) L) (h5 : vp_in (nI n + Int32.ofInt 5) L) (hB : Bd < 2 ^ 20) (hI : LI sta Bd h) (hK : ∀ h a b, LI sta (Bd + 1) h → mj_go sta (mj_Cl sta 11) m_L_law T 2027 [some (.ref (mj_SB + 101)), some (.ref 0), some (.ref 151), some (.ref 165), some (.int (nI n)), a, b] [] h) : mj_go sta (mj_Cl sta 11) m_L_law T 1202 [some (.ref (mj_SB + 101)), some (.ref 0), some (.ref 151), some (.ref 165), some (.int (nI n)), a, b] [] h := by
  obtain ⟨tr, w, u, f, t, hJ, hv, hl, hz⟩ := hI
  have hB : Bd < 2 ^ 30 := Nat.lt_trans hB (by decide)
  obtain ⟨fs, hf⟩ := (J_at hJ).2
  have hV := hv.V
  repeat (first | refine g_sald hV hs rfl (by assumption) ?_ | refine g_px rfl rfl rfl ?_ | refine L_bool rfl rfl rfl rfl ?_)
  refine L_oneI hv hJ rfl rfl rfl rfl rfl rfl rfl n_X8_toSpare rfl (J_toSpare (d := 2)  hB hJ) (fun x MP w1 h6 s2 s3 hv e1 e2 => ?_)
  have hV := hv.V
  repeat (first | refine g_sald hV hs rfl (by assumption) ?_ | refine g_px rfl rfl rfl ?_ | refine L_bool rfl rfl rfl rfl ?_)
  refine L_twoV hv hf rfl rfl rfl rfl rfl rfl s2 (fun u1 h7 hp hv e3 e4 => ?_)
  obtain ⟨tr1, hJ1⟩ := s3 u1 hp
  exact g_ic rfl (fun _ => hK h7 a b ⟨tr1, w1, u1, f, t, hJ1, hv, by omega, by omega⟩) (fun cq => absurd rfl cq)
theorem t_26 {sta : mj_S} {Bd L n : Nat} {xs : Nat → Int32} {T : Nat → mj_L → List Value → mj_H → Prop} {h : mj_H} {a b : Option Value} (hs : sta (mj_SB + 101) = some (L, xs)) (h1 : vp_in (nI n + Int32.ofInt 1) L) (h2 : vp_in (nI n + Int32.ofInt 2) L) (h3 : vp_in (nI n + Int32.ofInt 3) L) (h4 : vp_in (nI n + Int32.ofInt 4) L) (h5 : vp_in (nI n + Int32.ofInt 5) L) (hB : Bd < 2 ^ 20) (hI : LI sta Bd h) (hK : ∀ h a b, LI sta (Bd + 1) h → mj_go sta (mj_Cl sta 11) m_L_law T 2027 [some (.ref (mj_SB + 101)), some (.ref 0), some (.ref 151), some (.ref 165), some (.int (nI n)), a, b] [] h) : mj_go sta (mj_Cl sta 11) m_L_law T 1215 [some (.ref (mj_SB + 101)), some (.ref 0), some (.ref 151), some (.ref 165), some (.int (nI n)), a, b] [] h := by
  obtain ⟨tr, w, u, f, t, hJ, hv, hl, hz⟩ := hI
  have hB : Bd < 2 ^ 30 := Nat.lt_trans hB (by decide)
  obtain ⟨fs, hf⟩ := (J_at hJ).2
  have hV := hv.V
  repeat (first | refine g_sald hV hs rfl (by assumption) ?_ | refine g_px rfl rfl rfl ?_ | refine L_bool rfl rfl rfl rfl ?_)
  refine L_oneI hv hJ rfl rfl rfl rfl rfl rfl rfl n_X8_rows rfl (J_rows (d := 2)  hB hJ) (fun x MP w1 h6 s2 s3 hv e1 e2 => ?_)
  have hV := hv.V
  repeat (first | refine g_sald hV hs rfl (by assumption) ?_ | refine g_px rfl rfl rfl ?_ | refine L_bool rfl rfl rfl rfl ?_)
  refine L_twoV hv hf rfl rfl rfl rfl rfl rfl s2 (fun u1 h7 hp hv e3 e4 => ?_)
  obtain ⟨tr1, hJ1⟩ := s3 u1 hp
  exact g_ic rfl (fun _ => hK h7 a b ⟨tr1, w1, u1, f, t, hJ1, hv, by omega, by omega⟩) (fun cq => absurd rfl cq)
theorem t_27 {sta : mj_S} {Bd L n : Nat} {xs : Nat → Int32} {T : Nat → mj_L → List Value → mj_H → Prop} {h : mj_H} {a b : Option Value} (hs : sta (mj_SB + 101) = some (L, xs)) (h1 : vp_in (nI n + Int32.ofInt 1) L) (h2 : vp_in (nI n + Int32.ofInt 2) L) (h3 : vp_in (nI n + Int32.ofInt 3) L) (h4 : vp_in (nI n + Int32.ofInt 4) L) (h5 : vp_in (nI n + Int32.ofInt 5) L) (hB : Bd < 2 ^ 20) (hI : LI sta Bd h) (hK : ∀ h a b, LI sta (Bd + 1) h → mj_go sta (mj_Cl sta 11) m_L_law T 2027 [some (.ref (mj_SB + 101)), some (.ref 0), some (.ref 151), some (.ref 165), some (.int (nI n)), a, b] [] h) : mj_go sta (mj_Cl sta 11) m_L_law T 1228 [some (.ref (mj_SB + 101)), some (.ref 0), some (.ref 151), some (.ref 165), some (.int (nI n)), a, b] [] h := by
  obtain ⟨tr, w, u, f, t, hJ, hv, hl, hz⟩ := hI
  have hB : Bd < 2 ^ 30 := Nat.lt_trans hB (by decide)
  obtain ⟨fs, hf⟩ := (J_at hJ).2
  have hV := hv.V
  repeat (first | refine g_sald hV hs rfl (by assumption) ?_ | refine g_px rfl rfl rfl ?_ | refine L_bool rfl rfl rfl rfl ?_)
  refine L_oneI hv hJ rfl rfl rfl rfl rfl rfl rfl n_X8_could rfl (J_could (d := 2) (xs (nI n + Int32.ofInt 1).toNatClampNeg) hB hJ) (fun x MP w1 h6 s2 s3 hv e1 e2 => ?_)
  have hV := hv.V
  repeat (first | refine g_sald hV hs rfl (by assumption) ?_ | refine g_px rfl rfl rfl ?_ | refine L_bool rfl rfl rfl rfl ?_)
  refine L_twoV hv hf rfl rfl rfl rfl rfl rfl s2 (fun u1 h7 hp hv e3 e4 => ?_)
  obtain ⟨tr1, hJ1⟩ := s3 u1 hp
  exact g_ic rfl (fun _ => hK h7 a b ⟨tr1, w1, u1, f, t, hJ1, hv, by omega, by omega⟩) (fun cq => absurd rfl cq)
theorem t_28 {sta : mj_S} {Bd L n : Nat} {xs : Nat → Int32} {T : Nat → mj_L → List Value → mj_H → Prop} {h : mj_H} {a b : Option Value} (hs : sta (mj_SB + 101) = some (L, xs)) (h1 : vp_in (nI n + Int32.ofInt 1) L) (h2 : vp_in (nI n + Int32.ofInt 2) L) (h3 : vp_in (nI n + Int32.ofInt 3) L) (h4 : vp_in (nI n + Int32.ofInt 4) L) (h5 : vp_in (nI n + Int32.ofInt 5) L) (hB : Bd < 2 ^ 20) (hI : LI sta Bd h) (hK : ∀ h a b, LI sta (Bd + 1) h → mj_go sta (mj_Cl sta 11) m_L_law T 2027 [some (.ref (mj_SB + 101)), some (.ref 0), some (.ref 151), some (.ref 165), some (.int (nI n)), a, b] [] h) : mj_go sta (mj_Cl sta 11) m_L_law T 1253 [some (.ref (mj_SB + 101)), some (.ref 0), some (.ref 151), some (.ref 165), some (.int (nI n)), a, b] [] h := by
  obtain ⟨tr, w, u, f, t, hJ, hv, hl, hz⟩ := hI
  have hB : Bd < 2 ^ 30 := Nat.lt_trans hB (by decide)
  obtain ⟨fs, hf⟩ := (J_at hJ).2
  have hV := hv.V
  repeat (first | refine g_sald hV hs rfl (by assumption) ?_ | refine g_px rfl rfl rfl ?_ | refine L_bool rfl rfl rfl rfl ?_)
  refine L_oneI hv hJ rfl rfl rfl rfl rfl rfl rfl n_X8_surely rfl (J_surely (d := 2) (xs (nI n + Int32.ofInt 1).toNatClampNeg) hB hJ) (fun x MP w1 h6 s2 s3 hv e1 e2 => ?_)
  have hV := hv.V
  repeat (first | refine g_sald hV hs rfl (by assumption) ?_ | refine g_px rfl rfl rfl ?_ | refine L_bool rfl rfl rfl rfl ?_)
  refine L_twoV hv hf rfl rfl rfl rfl rfl rfl s2 (fun u1 h7 hp hv e3 e4 => ?_)
  obtain ⟨tr1, hJ1⟩ := s3 u1 hp
  exact g_ic rfl (fun _ => hK h7 a b ⟨tr1, w1, u1, f, t, hJ1, hv, by omega, by omega⟩) (fun cq => absurd rfl cq)
theorem t_29 {sta : mj_S} {Bd L n : Nat} {xs : Nat → Int32} {T : Nat → mj_L → List Value → mj_H → Prop} {h : mj_H} {a b : Option Value} (hs : sta (mj_SB + 101) = some (L, xs)) (h1 : vp_in (nI n + Int32.ofInt 1) L) (h2 : vp_in (nI n + Int32.ofInt 2) L) (h3 : vp_in (nI n + Int32.ofInt 3) L) (h4 : vp_in (nI n + Int32.ofInt 4) L) (h5 : vp_in (nI n + Int32.ofInt 5) L) (hB : Bd < 2 ^ 20) (hI : LI sta Bd h) (hK : ∀ h a b, LI sta (Bd + 1) h → mj_go sta (mj_Cl sta 11) m_L_law T 2027 [some (.ref (mj_SB + 101)), some (.ref 0), some (.ref 151), some (.ref 165), some (.int (nI n)), a, b] [] h) : mj_go sta (mj_Cl sta 11) m_L_law T 1278 [some (.ref (mj_SB + 101)), some (.ref 0), some (.ref 151), some (.ref 165), some (.int (nI n)), a, b] [] h := by
  obtain ⟨tr, w, u, f, t, hJ, hv, hl, hz⟩ := hI
  have hB : Bd < 2 ^ 30 := Nat.lt_trans hB (by decide)
  obtain ⟨fs, hf⟩ := (J_at hJ).2
  have hV := hv.V
  repeat (first | refine g_sald hV hs rfl (by assumption) ?_ | refine g_px rfl rfl rfl ?_ | refine L_bool rfl rfl rfl rfl ?_)
  refine L_oneI hv hJ rfl rfl rfl rfl rfl rfl rfl n_X8_ask rfl (J_ask (d := 2)  hB hJ) (fun x MP w1 h6 s2 s3 hv e1 e2 => ?_)
  have hV := hv.V
  repeat (first | refine g_sald hV hs rfl (by assumption) ?_ | refine g_px rfl rfl rfl ?_ | refine L_bool rfl rfl rfl rfl ?_)
  refine L_twoV hv hf rfl rfl rfl rfl rfl rfl s2 (fun u1 h7 hp hv e3 e4 => ?_)
  obtain ⟨tr1, hJ1⟩ := s3 u1 hp
  exact g_ic rfl (fun _ => hK h7 a b ⟨tr1, w1, u1, f, t, hJ1, hv, by omega, by omega⟩) (fun cq => absurd rfl cq)
theorem t_30 {sta : mj_S} {Bd L n : Nat} {xs : Nat → Int32} {T : Nat → mj_L → List Value → mj_H → Prop} {h : mj_H} {a b : Option Value} (hs : sta (mj_SB + 101) = some (L, xs)) (h1 : vp_in (nI n + Int32.ofInt 1) L) (h2 : vp_in (nI n + Int32.ofInt 2) L) (h3 : vp_in (nI n + Int32.ofInt 3) L) (h4 : vp_in (nI n + Int32.ofInt 4) L) (h5 : vp_in (nI n + Int32.ofInt 5) L) (hB : Bd < 2 ^ 20) (hI : LI sta Bd h) (hK : ∀ h a b, LI sta (Bd + 1) h → mj_go sta (mj_Cl sta 11) m_L_law T 2027 [some (.ref (mj_SB + 101)), some (.ref 0), some (.ref 151), some (.ref 165), some (.int (nI n)), a, b] [] h) : mj_go sta (mj_Cl sta 11) m_L_law T 1291 [some (.ref (mj_SB + 101)), some (.ref 0), some (.ref 151), some (.ref 165), some (.int (nI n)), a, b] [] h := by
  obtain ⟨tr, w, u, f, t, hJ, hv, hl, hz⟩ := hI
  have hB : Bd < 2 ^ 30 := Nat.lt_trans hB (by decide)
  obtain ⟨fs, hf⟩ := (J_at hJ).2
  have hV := hv.V
  repeat (first | refine g_sald hV hs rfl (by assumption) ?_ | refine g_px rfl rfl rfl ?_ | refine L_bool rfl rfl rfl rfl ?_)
  refine L_oneI hv hJ rfl rfl rfl rfl rfl rfl rfl n_X8_askLeaves rfl (J_askLeaves (d := 2)  hB hJ) (fun x MP w1 h6 s2 s3 hv e1 e2 => ?_)
  have hV := hv.V
  repeat (first | refine g_sald hV hs rfl (by assumption) ?_ | refine g_px rfl rfl rfl ?_ | refine L_bool rfl rfl rfl rfl ?_)
  refine L_twoV hv hf rfl rfl rfl rfl rfl rfl s2 (fun u1 h7 hp hv e3 e4 => ?_)
  obtain ⟨tr1, hJ1⟩ := s3 u1 hp
  exact g_ic rfl (fun _ => hK h7 a b ⟨tr1, w1, u1, f, t, hJ1, hv, by omega, by omega⟩) (fun cq => absurd rfl cq)
theorem t_31 {sta : mj_S} {Bd L n : Nat} {xs : Nat → Int32} {T : Nat → mj_L → List Value → mj_H → Prop} {h : mj_H} {a b : Option Value} (hs : sta (mj_SB + 101) = some (L, xs)) (h1 : vp_in (nI n + Int32.ofInt 1) L) (h2 : vp_in (nI n + Int32.ofInt 2) L) (h3 : vp_in (nI n + Int32.ofInt 3) L) (h4 : vp_in (nI n + Int32.ofInt 4) L) (h5 : vp_in (nI n + Int32.ofInt 5) L) (hB : Bd < 2 ^ 20) (hI : LI sta Bd h) (hK : ∀ h a b, LI sta (Bd + 1) h → mj_go sta (mj_Cl sta 11) m_L_law T 2027 [some (.ref (mj_SB + 101)), some (.ref 0), some (.ref 151), some (.ref 165), some (.int (nI n)), a, b] [] h) : mj_go sta (mj_Cl sta 11) m_L_law T 1304 [some (.ref (mj_SB + 101)), some (.ref 0), some (.ref 151), some (.ref 165), some (.int (nI n)), a, b] [] h := by
  obtain ⟨tr, w, u, f, t, hJ, hv, hl, hz⟩ := hI
  have hB : Bd < 2 ^ 30 := Nat.lt_trans hB (by decide)
  obtain ⟨fs, hf⟩ := (J_at hJ).2
  have hV := hv.V
  repeat (first | refine g_sald hV hs rfl (by assumption) ?_ | refine g_px rfl rfl rfl ?_ | refine L_bool rfl rfl rfl rfl ?_)
  refine L_oneI hv hJ rfl rfl rfl rfl rfl rfl rfl n_X8_surelyTaken rfl (J_surelyTaken (d := 2)  hB hJ) (fun x MP w1 h6 s2 s3 hv e1 e2 => ?_)
  have hV := hv.V
  repeat (first | refine g_sald hV hs rfl (by assumption) ?_ | refine g_px rfl rfl rfl ?_ | refine L_bool rfl rfl rfl rfl ?_)
  refine L_twoV hv hf rfl rfl rfl rfl rfl rfl s2 (fun u1 h7 hp hv e3 e4 => ?_)
  obtain ⟨tr1, hJ1⟩ := s3 u1 hp
  exact g_ic rfl (fun _ => hK h7 a b ⟨tr1, w1, u1, f, t, hJ1, hv, by omega, by omega⟩) (fun cq => absurd rfl cq)
theorem t_32 {sta : mj_S} {Bd L n : Nat} {xs : Nat → Int32} {T : Nat → mj_L → List Value → mj_H → Prop} {h : mj_H} {a b : Option Value} (hs : sta (mj_SB + 101) = some (L, xs)) (h1 : vp_in (nI n + Int32.ofInt 1) L) (h2 : vp_in (nI n + Int32.ofInt 2) L) (h3 : vp_in (nI n + Int32.ofInt 3) L) (h4 : vp_in (nI n + Int32.ofInt 4) L) (h5 : vp_in (nI n + Int32.ofInt 5) L) (hB : Bd < 2 ^ 20) (hI : LI sta Bd h) (hK : ∀ h a b, LI sta (Bd + 1) h → mj_go sta (mj_Cl sta 11) m_L_law T 2027 [some (.ref (mj_SB + 101)), some (.ref 0), some (.ref 151), some (.ref 165), some (.int (nI n)), a, b] [] h) : mj_go sta (mj_Cl sta 11) m_L_law T 1317 [some (.ref (mj_SB + 101)), some (.ref 0), some (.ref 151), some (.ref 165), some (.int (nI n)), a, b] [] h := by
  obtain ⟨tr, w, u, f, t, hJ, hv, hl, hz⟩ := hI
  have hB : Bd < 2 ^ 30 := Nat.lt_trans hB (by decide)
  obtain ⟨fs, hf⟩ := (J_at hJ).2
  have hV := hv.V
  repeat (first | refine g_sald hV hs rfl (by assumption) ?_ | refine g_px rfl rfl rfl ?_ | refine L_bool rfl rfl rfl rfl ?_)
  refine L_oneL hv hJ rfl rfl rfl rfl rfl rfl rfl n_X8_believed rfl (by decide +kernel) (J_believed (d := 2) (!decide ((xs (nI n + Int32.ofInt 1).toNatClampNeg) = 0)) (!decide ((xs (nI n + Int32.ofInt 2).toNatClampNeg) = 0)) hB hJ) (fun x MP w1 h6 s2 s3 hv e1 e2 => ?_)
  have hV := hv.V
  repeat (first | refine g_sald hV hs rfl (by assumption) ?_ | refine g_px rfl rfl rfl ?_ | refine L_bool rfl rfl rfl rfl ?_)
  refine L_twoV hv hf rfl rfl rfl rfl rfl rfl s2 (fun u1 h7 hp hv e3 e4 => ?_)
  obtain ⟨tr1, hJ1⟩ := s3 u1 hp
  refine g_px rfl rfl rfl ?_
  exact g_if rfl (fun _ => hK h7 a b ⟨tr1, w1, u1, f, t, hJ1, hv, by omega, by omega⟩) (fun cq => absurd (lgc_self x) cq)
theorem t_33 {sta : mj_S} {Bd L n : Nat} {xs : Nat → Int32} {T : Nat → mj_L → List Value → mj_H → Prop} {h : mj_H} {a b : Option Value} (hs : sta (mj_SB + 101) = some (L, xs)) (h1 : vp_in (nI n + Int32.ofInt 1) L) (h2 : vp_in (nI n + Int32.ofInt 2) L) (h3 : vp_in (nI n + Int32.ofInt 3) L) (h4 : vp_in (nI n + Int32.ofInt 4) L) (h5 : vp_in (nI n + Int32.ofInt 5) L) (hB : Bd < 2 ^ 20) (hI : LI sta Bd h) (hK : ∀ h a b, LI sta (Bd + 1) h → mj_go sta (mj_Cl sta 11) m_L_law T 2027 [some (.ref (mj_SB + 101)), some (.ref 0), some (.ref 151), some (.ref 165), some (.int (nI n)), a, b] [] h) : mj_go sta (mj_Cl sta 11) m_L_law T 1387 [some (.ref (mj_SB + 101)), some (.ref 0), some (.ref 151), some (.ref 165), some (.int (nI n)), a, b] [] h := by
  obtain ⟨tr, w, u, f, t, hJ, hv, hl, hz⟩ := hI
  have hB : Bd < 2 ^ 30 := Nat.lt_trans hB (by decide)
  obtain ⟨fs, hf⟩ := (J_at hJ).2
  have hV := hv.V
  repeat (first | refine g_sald hV hs rfl (by assumption) ?_ | refine g_px rfl rfl rfl ?_ | refine L_bool rfl rfl rfl rfl ?_)
  refine L_oneL hv hJ rfl rfl rfl rfl rfl rfl rfl n_X8_wrong rfl (by decide +kernel) (J_wrong (d := 2) (!decide ((xs (nI n + Int32.ofInt 1).toNatClampNeg) = 0)) hB hJ) (fun x MP w1 h6 s2 s3 hv e1 e2 => ?_)
  have hV := hv.V
  repeat (first | refine g_sald hV hs rfl (by assumption) ?_ | refine g_px rfl rfl rfl ?_ | refine L_bool rfl rfl rfl rfl ?_)
  refine L_twoV hv hf rfl rfl rfl rfl rfl rfl s2 (fun u1 h7 hp hv e3 e4 => ?_)
  obtain ⟨tr1, hJ1⟩ := s3 u1 hp
  refine g_px rfl rfl rfl ?_
  exact g_if rfl (fun _ => hK h7 a b ⟨tr1, w1, u1, f, t, hJ1, hv, by omega, by omega⟩) (fun cq => absurd (lgc_self x) cq)
theorem t_34 {sta : mj_S} {Bd L n : Nat} {xs : Nat → Int32} {T : Nat → mj_L → List Value → mj_H → Prop} {h : mj_H} {a b : Option Value} (hs : sta (mj_SB + 101) = some (L, xs)) (h1 : vp_in (nI n + Int32.ofInt 1) L) (h2 : vp_in (nI n + Int32.ofInt 2) L) (h3 : vp_in (nI n + Int32.ofInt 3) L) (h4 : vp_in (nI n + Int32.ofInt 4) L) (h5 : vp_in (nI n + Int32.ofInt 5) L) (hB : Bd < 2 ^ 20) (hI : LI sta Bd h) (hK : ∀ h a b, LI sta (Bd + 1) h → mj_go sta (mj_Cl sta 11) m_L_law T 2027 [some (.ref (mj_SB + 101)), some (.ref 0), some (.ref 151), some (.ref 165), some (.int (nI n)), a, b] [] h) : mj_go sta (mj_Cl sta 11) m_L_law T 1429 [some (.ref (mj_SB + 101)), some (.ref 0), some (.ref 151), some (.ref 165), some (.int (nI n)), a, b] [] h := by
  obtain ⟨tr, w, u, f, t, hJ, hv, hl, hz⟩ := hI
  have hB : Bd < 2 ^ 30 := Nat.lt_trans hB (by decide)
  obtain ⟨fs, hf⟩ := (J_at hJ).2
  have hV := hv.V
  repeat (first | refine g_sald hV hs rfl (by assumption) ?_ | refine g_px rfl rfl rfl ?_ | refine L_bool rfl rfl rfl rfl ?_)
  refine L_oneI hv hJ rfl rfl rfl rfl rfl rfl rfl n_X8_agent rfl (J_agent (d := 2) (xs (nI n + Int32.ofInt 1).toNatClampNeg) (xs (nI n + Int32.ofInt 2).toNatClampNeg) (xs (nI n + Int32.ofInt 3).toNatClampNeg) (!decide ((xs (nI n + Int32.ofInt 4).toNatClampNeg) = 0)) hB hJ) (fun x MP w1 h6 s2 s3 hv e1 e2 => ?_)
  have hV := hv.V
  repeat (first | refine g_sald hV hs rfl (by assumption) ?_ | refine g_px rfl rfl rfl ?_ | refine L_bool rfl rfl rfl rfl ?_)
  refine L_twoV hv hf rfl rfl rfl rfl rfl rfl s2 (fun u1 h7 hp hv e3 e4 => ?_)
  obtain ⟨tr1, hJ1⟩ := s3 u1 hp
  exact g_ic rfl (fun _ => hK h7 a b ⟨tr1, w1, u1, f, t, hJ1, hv, by omega, by omega⟩) (fun cq => absurd rfl cq)
