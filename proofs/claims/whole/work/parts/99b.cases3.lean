/-! the law's switch, case by case -/
theorem t_35 {sta : mj_S} {Bd L n : Nat} {xs : Nat → Int32} {T : Nat → mj_L → List Value → mj_H → Prop} {h : mj_H} {a b : Option Value} (hs : sta (mj_SB + 101) = some (L, xs)) (h1 : vp_in (nI n + Int32.ofInt 1) L) (h2 : vp_in (nI n + Int32.ofInt 2) L) (h3 : vp_in (nI n + Int32.ofInt 3) L) (h4 : vp_in (nI n + Int32.ofInt 4) L) (h5 : vp_in (nI n + Int32.ofInt 5) L) (hB : Bd < 2 ^ 20) (hI : LI sta Bd h) (hK : ∀ h a b, LI sta (Bd + 1) h → mj_go sta (mj_Cl sta 11) m_L_law T 2027 [some (.ref (mj_SB + 101)), some (.ref 0), some (.ref 151), some (.ref 165), some (.int (nI n)), a, b] [] h) : mj_go sta (mj_Cl sta 11) m_L_law T 1506 [some (.ref (mj_SB + 101)), some (.ref 0), some (.ref 151), some (.ref 165), some (.int (nI n)), a, b] [] h := by
  obtain ⟨tr, w, u, f, t, hJ, hv, hl, hz⟩ := hI
  have hB : Bd < 2 ^ 30 := Nat.lt_trans hB (by decide)
  obtain ⟨fs, hf⟩ := (J_at hJ).2
  have hV := hv.V
  repeat (first | refine g_sald hV hs rfl (by assumption) ?_ | refine g_px rfl rfl rfl ?_ | refine L_bool rfl rfl rfl rfl ?_)
  refine L_oneI hv hJ rfl rfl rfl rfl rfl rfl rfl n_X8_rests rfl (J_rests (d := 2) (xs (nI n + Int32.ofInt 1).toNatClampNeg) hB hJ) (fun x MP w1 h6 s2 s3 hv e1 e2 => ?_)
  have hV := hv.V
  repeat (first | refine g_sald hV hs rfl (by assumption) ?_ | refine g_px rfl rfl rfl ?_ | refine L_bool rfl rfl rfl rfl ?_)
  refine L_twoV hv hf rfl rfl rfl rfl rfl rfl s2 (fun u1 h7 hp hv e3 e4 => ?_)
  obtain ⟨tr1, hJ1⟩ := s3 u1 hp
  exact g_ic rfl (fun _ => hK h7 a b ⟨tr1, w1, u1, f, t, hJ1, hv, by omega, by omega⟩) (fun cq => absurd rfl cq)
theorem t_36 {sta : mj_S} {Bd L n : Nat} {xs : Nat → Int32} {T : Nat → mj_L → List Value → mj_H → Prop} {h : mj_H} {a b : Option Value} (hs : sta (mj_SB + 101) = some (L, xs)) (h1 : vp_in (nI n + Int32.ofInt 1) L) (h2 : vp_in (nI n + Int32.ofInt 2) L) (h3 : vp_in (nI n + Int32.ofInt 3) L) (h4 : vp_in (nI n + Int32.ofInt 4) L) (h5 : vp_in (nI n + Int32.ofInt 5) L) (hB : Bd < 2 ^ 20) (hI : LI sta Bd h) (hK : ∀ h a b, LI sta (Bd + 1) h → mj_go sta (mj_Cl sta 11) m_L_law T 2027 [some (.ref (mj_SB + 101)), some (.ref 0), some (.ref 151), some (.ref 165), some (.int (nI n)), a, b] [] h) : mj_go sta (mj_Cl sta 11) m_L_law T 1531 [some (.ref (mj_SB + 101)), some (.ref 0), some (.ref 151), some (.ref 165), some (.int (nI n)), a, b] [] h := by
  obtain ⟨tr, w, u, f, t, hJ, hv, hl, hz⟩ := hI
  have hB : Bd < 2 ^ 30 := Nat.lt_trans hB (by decide)
  obtain ⟨fs, hf⟩ := (J_at hJ).2
  have hV := hv.V
  repeat (first | refine g_sald hV hs rfl (by assumption) ?_ | refine g_px rfl rfl rfl ?_ | refine L_bool rfl rfl rfl rfl ?_)
  refine L_oneI hv hJ rfl rfl rfl rfl rfl rfl rfl n_X8_rest rfl (J_rest (d := 2) (xs (nI n + Int32.ofInt 1).toNatClampNeg) hB hJ) (fun x MP w1 h6 s2 s3 hv e1 e2 => ?_)
  have hV := hv.V
  repeat (first | refine g_sald hV hs rfl (by assumption) ?_ | refine g_px rfl rfl rfl ?_ | refine L_bool rfl rfl rfl rfl ?_)
  refine L_twoV hv hf rfl rfl rfl rfl rfl rfl s2 (fun u1 h7 hp hv e3 e4 => ?_)
  obtain ⟨tr1, hJ1⟩ := s3 u1 hp
  exact g_ic rfl (fun _ => hK h7 a b ⟨tr1, w1, u1, f, t, hJ1, hv, by omega, by omega⟩) (fun cq => absurd rfl cq)
theorem t_37 {sta : mj_S} {Bd L n : Nat} {xs : Nat → Int32} {T : Nat → mj_L → List Value → mj_H → Prop} {h : mj_H} {a b : Option Value} (hs : sta (mj_SB + 101) = some (L, xs)) (h1 : vp_in (nI n + Int32.ofInt 1) L) (h2 : vp_in (nI n + Int32.ofInt 2) L) (h3 : vp_in (nI n + Int32.ofInt 3) L) (h4 : vp_in (nI n + Int32.ofInt 4) L) (h5 : vp_in (nI n + Int32.ofInt 5) L) (hB : Bd < 2 ^ 20) (hI : LI sta Bd h) (hK : ∀ h a b, LI sta (Bd + 1) h → mj_go sta (mj_Cl sta 11) m_L_law T 2027 [some (.ref (mj_SB + 101)), some (.ref 0), some (.ref 151), some (.ref 165), some (.int (nI n)), a, b] [] h) : mj_go sta (mj_Cl sta 11) m_L_law T 1556 [some (.ref (mj_SB + 101)), some (.ref 0), some (.ref 151), some (.ref 165), some (.int (nI n)), a, b] [] h := by
  obtain ⟨tr, w, u, f, t, hJ, hv, hl, hz⟩ := hI
  have hB : Bd < 2 ^ 30 := Nat.lt_trans hB (by decide)
  obtain ⟨fs, hf⟩ := (J_at hJ).2
  have hV := hv.V
  repeat (first | refine g_sald hV hs rfl (by assumption) ?_ | refine g_px rfl rfl rfl ?_ | refine L_bool rfl rfl rfl rfl ?_)
  refine L_oneI hv hJ rfl rfl rfl rfl rfl rfl rfl n_X8_drafts rfl (J_drafts (d := 2) (xs (nI n + Int32.ofInt 1).toNatClampNeg) (xs (nI n + Int32.ofInt 2).toNatClampNeg) (xs (nI n + Int32.ofInt 3).toNatClampNeg) hB hJ) (fun x MP w1 h6 s2 s3 hv e1 e2 => ?_)
  have hV := hv.V
  repeat (first | refine g_sald hV hs rfl (by assumption) ?_ | refine g_px rfl rfl rfl ?_ | refine L_bool rfl rfl rfl rfl ?_)
  refine L_twoV hv hf rfl rfl rfl rfl rfl rfl s2 (fun u1 h7 hp hv e3 e4 => ?_)
  obtain ⟨tr1, hJ1⟩ := s3 u1 hp
  exact g_ic rfl (fun _ => hK h7 a b ⟨tr1, w1, u1, f, t, hJ1, hv, by omega, by omega⟩) (fun cq => absurd rfl cq)
theorem t_38 {sta : mj_S} {Bd L n : Nat} {xs : Nat → Int32} {T : Nat → mj_L → List Value → mj_H → Prop} {h : mj_H} {a b : Option Value} (hs : sta (mj_SB + 101) = some (L, xs)) (h1 : vp_in (nI n + Int32.ofInt 1) L) (h2 : vp_in (nI n + Int32.ofInt 2) L) (h3 : vp_in (nI n + Int32.ofInt 3) L) (h4 : vp_in (nI n + Int32.ofInt 4) L) (h5 : vp_in (nI n + Int32.ofInt 5) L) (hB : Bd < 2 ^ 20) (hI : LI sta Bd h) (hK : ∀ h a b, LI sta (Bd + 1) h → mj_go sta (mj_Cl sta 11) m_L_law T 2027 [some (.ref (mj_SB + 101)), some (.ref 0), some (.ref 151), some (.ref 165), some (.int (nI n)), a, b] [] h) : mj_go sta (mj_Cl sta 11) m_L_law T 1605 [some (.ref (mj_SB + 101)), some (.ref 0), some (.ref 151), some (.ref 165), some (.int (nI n)), a, b] [] h := by
  obtain ⟨tr, w, u, f, t, hJ, hv, hl, hz⟩ := hI
  have hB : Bd < 2 ^ 30 := Nat.lt_trans hB (by decide)
  obtain ⟨fs, hf⟩ := (J_at hJ).2
  have hV := hv.V
  repeat (first | refine g_sald hV hs rfl (by assumption) ?_ | refine g_px rfl rfl rfl ?_ | refine L_bool rfl rfl rfl rfl ?_)
  refine L_oneI hv hJ rfl rfl rfl rfl rfl rfl rfl n_X8_sentIn rfl (J_sentIn (d := 2) (xs (nI n + Int32.ofInt 1).toNatClampNeg) (xs (nI n + Int32.ofInt 2).toNatClampNeg) (xs (nI n + Int32.ofInt 3).toNatClampNeg) hB hJ) (fun x MP w1 h6 s2 s3 hv e1 e2 => ?_)
  have hV := hv.V
  repeat (first | refine g_sald hV hs rfl (by assumption) ?_ | refine g_px rfl rfl rfl ?_ | refine L_bool rfl rfl rfl rfl ?_)
  refine L_twoV hv hf rfl rfl rfl rfl rfl rfl s2 (fun u1 h7 hp hv e3 e4 => ?_)
  obtain ⟨tr1, hJ1⟩ := s3 u1 hp
  exact g_ic rfl (fun _ => hK h7 a b ⟨tr1, w1, u1, f, t, hJ1, hv, by omega, by omega⟩) (fun cq => absurd rfl cq)
theorem t_39 {sta : mj_S} {Bd L n : Nat} {xs : Nat → Int32} {T : Nat → mj_L → List Value → mj_H → Prop} {h : mj_H} {a b : Option Value} (hs : sta (mj_SB + 101) = some (L, xs)) (h1 : vp_in (nI n + Int32.ofInt 1) L) (h2 : vp_in (nI n + Int32.ofInt 2) L) (h3 : vp_in (nI n + Int32.ofInt 3) L) (h4 : vp_in (nI n + Int32.ofInt 4) L) (h5 : vp_in (nI n + Int32.ofInt 5) L) (hB : Bd < 2 ^ 20) (hI : LI sta Bd h) (hK : ∀ h a b, LI sta (Bd + 1) h → mj_go sta (mj_Cl sta 11) m_L_law T 2027 [some (.ref (mj_SB + 101)), some (.ref 0), some (.ref 151), some (.ref 165), some (.int (nI n)), a, b] [] h) : mj_go sta (mj_Cl sta 11) m_L_law T 1654 [some (.ref (mj_SB + 101)), some (.ref 0), some (.ref 151), some (.ref 165), some (.int (nI n)), a, b] [] h := by
  obtain ⟨tr, w, u, f, t, hJ, hv, hl, hz⟩ := hI
  have hB : Bd < 2 ^ 30 := Nat.lt_trans hB (by decide)
  obtain ⟨fs, hf⟩ := (J_at hJ).2
  have hV := hv.V
  repeat (first | refine g_sald hV hs rfl (by assumption) ?_ | refine g_px rfl rfl rfl ?_ | refine L_bool rfl rfl rfl rfl ?_)
  refine L_oneI hv hJ rfl rfl rfl rfl rfl rfl rfl n_X8_lossIn rfl (J_lossIn (d := 2) (xs (nI n + Int32.ofInt 1).toNatClampNeg) (xs (nI n + Int32.ofInt 2).toNatClampNeg) hB hJ) (fun x MP w1 h6 s2 s3 hv e1 e2 => ?_)
  have hV := hv.V
  repeat (first | refine g_sald hV hs rfl (by assumption) ?_ | refine g_px rfl rfl rfl ?_ | refine L_bool rfl rfl rfl rfl ?_)
  refine L_twoV hv hf rfl rfl rfl rfl rfl rfl s2 (fun u1 h7 hp hv e3 e4 => ?_)
  obtain ⟨tr1, hJ1⟩ := s3 u1 hp
  exact g_ic rfl (fun _ => hK h7 a b ⟨tr1, w1, u1, f, t, hJ1, hv, by omega, by omega⟩) (fun cq => absurd rfl cq)
theorem t_40 {sta : mj_S} {Bd L n : Nat} {xs : Nat → Int32} {T : Nat → mj_L → List Value → mj_H → Prop} {h : mj_H} {a b : Option Value} (hs : sta (mj_SB + 101) = some (L, xs)) (h1 : vp_in (nI n + Int32.ofInt 1) L) (h2 : vp_in (nI n + Int32.ofInt 2) L) (h3 : vp_in (nI n + Int32.ofInt 3) L) (h4 : vp_in (nI n + Int32.ofInt 4) L) (h5 : vp_in (nI n + Int32.ofInt 5) L) (hB : Bd < 2 ^ 20) (hI : LI sta Bd h) (hK : ∀ h a b, LI sta (Bd + 1) h → mj_go sta (mj_Cl sta 11) m_L_law T 2027 [some (.ref (mj_SB + 101)), some (.ref 0), some (.ref 151), some (.ref 165), some (.int (nI n)), a, b] [] h) : mj_go sta (mj_Cl sta 11) m_L_law T 1691 [some (.ref (mj_SB + 101)), some (.ref 0), some (.ref 151), some (.ref 165), some (.int (nI n)), a, b] [] h := by
  obtain ⟨tr, w, u, f, t, hJ, hv, hl, hz⟩ := hI
  obtain ⟨fs, hf⟩ := (J_at hJ).2
  have hV := hv.V
  repeat (first | refine g_sald hV hs rfl (by assumption) ?_ | refine g_px rfl rfl rfl ?_ | refine L_bool rfl rfl rfl rfl ?_)
  refine L_oneI hv hJ rfl rfl rfl rfl rfl rfl rfl n_X8_marry rfl (J_marry (d := 2) (xs (nI n + Int32.ofInt 1).toNatClampNeg) hJ) (fun x MP w1 h6 s2 s3 hv e1 e2 => ?_)
  have hV := hv.V
  repeat (first | refine g_sald hV hs rfl (by assumption) ?_ | refine g_px rfl rfl rfl ?_ | refine L_bool rfl rfl rfl rfl ?_)
  refine L_twoV hv hf rfl rfl rfl rfl rfl rfl s2 (fun u1 h7 hp hv e3 e4 => ?_)
  obtain ⟨tr1, hJ1⟩ := s3 u1 hp
  exact g_ic rfl (fun _ => hK h7 a b ⟨tr1, w1, u1, f, t, hJ1, hv, by omega, by omega⟩) (fun cq => absurd rfl cq)
theorem t_41 {sta : mj_S} {Bd L n : Nat} {xs : Nat → Int32} {T : Nat → mj_L → List Value → mj_H → Prop} {h : mj_H} {a b : Option Value} (hs : sta (mj_SB + 101) = some (L, xs)) (h1 : vp_in (nI n + Int32.ofInt 1) L) (h2 : vp_in (nI n + Int32.ofInt 2) L) (h3 : vp_in (nI n + Int32.ofInt 3) L) (h4 : vp_in (nI n + Int32.ofInt 4) L) (h5 : vp_in (nI n + Int32.ofInt 5) L) (hB : Bd < 2 ^ 20) (hI : LI sta Bd h) (hK : ∀ h a b, LI sta (Bd + 1) h → mj_go sta (mj_Cl sta 11) m_L_law T 2027 [some (.ref (mj_SB + 101)), some (.ref 0), some (.ref 151), some (.ref 165), some (.int (nI n)), a, b] [] h) : mj_go sta (mj_Cl sta 11) m_L_law T 1716 [some (.ref (mj_SB + 101)), some (.ref 0), some (.ref 151), some (.ref 165), some (.int (nI n)), a, b] [] h := by
  obtain ⟨tr, w, u, f, t, hJ, hv, hl, hz⟩ := hI
  obtain ⟨fs, hf⟩ := (J_at hJ).2
  have hV := hv.V
  repeat (first | refine g_sald hV hs rfl (by assumption) ?_ | refine g_px rfl rfl rfl ?_ | refine L_bool rfl rfl rfl rfl ?_)
  refine L_oneI hv hJ rfl rfl rfl rfl rfl rfl rfl n_X8_spare rfl (J_spare (d := 2) (xs (nI n + Int32.ofInt 1).toNatClampNeg) (!decide ((xs (nI n + Int32.ofInt 2).toNatClampNeg) = 0)) hJ) (fun x MP w1 h6 s2 s3 hv e1 e2 => ?_)
  have hV := hv.V
  repeat (first | refine g_sald hV hs rfl (by assumption) ?_ | refine g_px rfl rfl rfl ?_ | refine L_bool rfl rfl rfl rfl ?_)
  refine L_twoV hv hf rfl rfl rfl rfl rfl rfl s2 (fun u1 h7 hp hv e3 e4 => ?_)
  obtain ⟨tr1, hJ1⟩ := s3 u1 hp
  exact g_ic rfl (fun _ => hK h7 a b ⟨tr1, w1, u1, f, t, hJ1, hv, by omega, by omega⟩) (fun cq => absurd rfl cq)
theorem t_42 {sta : mj_S} {Bd L n : Nat} {xs : Nat → Int32} {T : Nat → mj_L → List Value → mj_H → Prop} {h : mj_H} {a b : Option Value} (hs : sta (mj_SB + 101) = some (L, xs)) (h1 : vp_in (nI n + Int32.ofInt 1) L) (h2 : vp_in (nI n + Int32.ofInt 2) L) (h3 : vp_in (nI n + Int32.ofInt 3) L) (h4 : vp_in (nI n + Int32.ofInt 4) L) (h5 : vp_in (nI n + Int32.ofInt 5) L) (hB : Bd < 2 ^ 20) (hI : LI sta Bd h) (hK : ∀ h a b, LI sta (Bd + 1) h → mj_go sta (mj_Cl sta 11) m_L_law T 2027 [some (.ref (mj_SB + 101)), some (.ref 0), some (.ref 151), some (.ref 165), some (.int (nI n)), a, b] [] h) : mj_go sta (mj_Cl sta 11) m_L_law T 1769 [some (.ref (mj_SB + 101)), some (.ref 0), some (.ref 151), some (.ref 165), some (.int (nI n)), a, b] [] h := by
  obtain ⟨tr, w, u, f, t, hJ, hv, hl, hz⟩ := hI
  obtain ⟨fs, hf⟩ := (J_at hJ).2
  have hV := hv.V
  repeat (first | refine g_sald hV hs rfl (by assumption) ?_ | refine g_px rfl rfl rfl ?_ | refine L_bool rfl rfl rfl rfl ?_)
  refine L_oneI hv hJ rfl rfl rfl rfl rfl rfl rfl n_X8_hold rfl (J_hold (d := 2)  hJ) (fun x MP w1 h6 s2 s3 hv e1 e2 => ?_)
  have hV := hv.V
  repeat (first | refine g_sald hV hs rfl (by assumption) ?_ | refine g_px rfl rfl rfl ?_ | refine L_bool rfl rfl rfl rfl ?_)
  refine L_twoV hv hf rfl rfl rfl rfl rfl rfl s2 (fun u1 h7 hp hv e3 e4 => ?_)
  obtain ⟨tr1, hJ1⟩ := s3 u1 hp
  exact g_ic rfl (fun _ => hK h7 a b ⟨tr1, w1, u1, f, t, hJ1, hv, by omega, by omega⟩) (fun cq => absurd rfl cq)
theorem t_43 {sta : mj_S} {Bd L n : Nat} {xs : Nat → Int32} {T : Nat → mj_L → List Value → mj_H → Prop} {h : mj_H} {a b : Option Value} (hs : sta (mj_SB + 101) = some (L, xs)) (h1 : vp_in (nI n + Int32.ofInt 1) L) (h2 : vp_in (nI n + Int32.ofInt 2) L) (h3 : vp_in (nI n + Int32.ofInt 3) L) (h4 : vp_in (nI n + Int32.ofInt 4) L) (h5 : vp_in (nI n + Int32.ofInt 5) L) (hB : Bd < 2 ^ 20) (hI : LI sta Bd h) (hK : ∀ h a b, LI sta (Bd + 1) h → mj_go sta (mj_Cl sta 11) m_L_law T 2027 [some (.ref (mj_SB + 101)), some (.ref 0), some (.ref 151), some (.ref 165), some (.int (nI n)), a, b] [] h) : mj_go sta (mj_Cl sta 11) m_L_law T 1782 [some (.ref (mj_SB + 101)), some (.ref 0), some (.ref 151), some (.ref 165), some (.int (nI n)), a, b] [] h := by
  obtain ⟨tr, w, u, f, t, hJ, hv, hl, hz⟩ := hI
  obtain ⟨fs, hf⟩ := (J_at hJ).2
  have hV := hv.V
  repeat (first | refine g_sald hV hs rfl (by assumption) ?_ | refine g_px rfl rfl rfl ?_ | refine L_bool rfl rfl rfl rfl ?_)
  refine L_oneI hv hJ rfl rfl rfl rfl rfl rfl rfl n_X8_desert rfl (J_desert (d := 2) (xs (nI n + Int32.ofInt 1).toNatClampNeg) hJ) (fun x MP w1 h6 s2 s3 hv e1 e2 => ?_)
  have hV := hv.V
  repeat (first | refine g_sald hV hs rfl (by assumption) ?_ | refine g_px rfl rfl rfl ?_ | refine L_bool rfl rfl rfl rfl ?_)
  refine L_twoV hv hf rfl rfl rfl rfl rfl rfl s2 (fun u1 h7 hp hv e3 e4 => ?_)
  obtain ⟨tr1, hJ1⟩ := s3 u1 hp
  exact g_ic rfl (fun _ => hK h7 a b ⟨tr1, w1, u1, f, t, hJ1, hv, by omega, by omega⟩) (fun cq => absurd rfl cq)
theorem t_44 {sta : mj_S} {Bd L n : Nat} {xs : Nat → Int32} {T : Nat → mj_L → List Value → mj_H → Prop} {h : mj_H} {a b : Option Value} (hs : sta (mj_SB + 101) = some (L, xs)) (h1 : vp_in (nI n + Int32.ofInt 1) L) (h2 : vp_in (nI n + Int32.ofInt 2) L) (h3 : vp_in (nI n + Int32.ofInt 3) L) (h4 : vp_in (nI n + Int32.ofInt 4) L) (h5 : vp_in (nI n + Int32.ofInt 5) L) (hB : Bd < 2 ^ 20) (hI : LI sta Bd h) (hK : ∀ h a b, LI sta (Bd + 1) h → mj_go sta (mj_Cl sta 11) m_L_law T 2027 [some (.ref (mj_SB + 101)), some (.ref 0), some (.ref 151), some (.ref 165), some (.int (nI n)), a, b] [] h) : mj_go sta (mj_Cl sta 11) m_L_law T 1807 [some (.ref (mj_SB + 101)), some (.ref 0), some (.ref 151), some (.ref 165), some (.int (nI n)), a, b] [] h := by
  obtain ⟨tr, w, u, f, t, hJ, hv, hl, hz⟩ := hI
  have hB : Bd < 2 ^ 30 := Nat.lt_trans hB (by decide)
  obtain ⟨fs, hf⟩ := (J_at hJ).2
  have hV := hv.V
  repeat (first | refine g_sald hV hs rfl (by assumption) ?_ | refine g_px rfl rfl rfl ?_ | refine L_bool rfl rfl rfl rfl ?_)
  refine L_oneI hv hJ rfl rfl rfl rfl rfl rfl rfl n_X8_fate rfl (J_fate (d := 2) (xs (nI n + Int32.ofInt 1).toNatClampNeg) hB hJ) (fun x MP w1 h6 s2 s3 hv e1 e2 => ?_)
  have hV := hv.V
  repeat (first | refine g_sald hV hs rfl (by assumption) ?_ | refine g_px rfl rfl rfl ?_ | refine L_bool rfl rfl rfl rfl ?_)
  refine L_twoV hv hf rfl rfl rfl rfl rfl rfl s2 (fun u1 h7 hp hv e3 e4 => ?_)
  obtain ⟨tr1, hJ1⟩ := s3 u1 hp
  exact g_ic rfl (fun _ => hK h7 a b ⟨tr1, w1, u1, f, t, hJ1, hv, by omega, by omega⟩) (fun cq => absurd rfl cq)
theorem t_45 {sta : mj_S} {Bd L n : Nat} {xs : Nat → Int32} {T : Nat → mj_L → List Value → mj_H → Prop} {h : mj_H} {a b : Option Value} (hs : sta (mj_SB + 101) = some (L, xs)) (h1 : vp_in (nI n + Int32.ofInt 1) L) (h2 : vp_in (nI n + Int32.ofInt 2) L) (h3 : vp_in (nI n + Int32.ofInt 3) L) (h4 : vp_in (nI n + Int32.ofInt 4) L) (h5 : vp_in (nI n + Int32.ofInt 5) L) (hB : Bd < 2 ^ 20) (hI : LI sta Bd h) (hK : ∀ h a b, LI sta (Bd + 1) h → mj_go sta (mj_Cl sta 11) m_L_law T 2027 [some (.ref (mj_SB + 101)), some (.ref 0), some (.ref 151), some (.ref 165), some (.int (nI n)), a, b] [] h) : mj_go sta (mj_Cl sta 11) m_L_law T 1832 [some (.ref (mj_SB + 101)), some (.ref 0), some (.ref 151), some (.ref 165), some (.int (nI n)), a, b] [] h := by
  obtain ⟨tr, w, u, f, t, hJ, hv, hl, hz⟩ := hI
  have hB : Bd < 2 ^ 30 := Nat.lt_trans hB (by decide)
  obtain ⟨fs, hf⟩ := (J_at hJ).2
  have hV := hv.V
  repeat (first | refine g_sald hV hs rfl (by assumption) ?_ | refine g_px rfl rfl rfl ?_ | refine L_bool rfl rfl rfl rfl ?_)
  refine L_oneI hv hJ rfl rfl rfl rfl rfl rfl rfl n_X8_lot rfl (J_lot (d := 2) (xs (nI n + Int32.ofInt 1).toNatClampNeg) hB hJ) (fun x MP w1 h6 s2 s3 hv e1 e2 => ?_)
  have hV := hv.V
  repeat (first | refine g_sald hV hs rfl (by assumption) ?_ | refine g_px rfl rfl rfl ?_ | refine L_bool rfl rfl rfl rfl ?_)
  refine L_twoV hv hf rfl rfl rfl rfl rfl rfl s2 (fun u1 h7 hp hv e3 e4 => ?_)
  obtain ⟨tr1, hJ1⟩ := s3 u1 hp
  exact g_ic rfl (fun _ => hK h7 a b ⟨tr1, w1, u1, f, t, hJ1, hv, by omega, by omega⟩) (fun cq => absurd rfl cq)
theorem t_46 {sta : mj_S} {Bd L n : Nat} {xs : Nat → Int32} {T : Nat → mj_L → List Value → mj_H → Prop} {h : mj_H} {a b : Option Value} (hs : sta (mj_SB + 101) = some (L, xs)) (h1 : vp_in (nI n + Int32.ofInt 1) L) (h2 : vp_in (nI n + Int32.ofInt 2) L) (h3 : vp_in (nI n + Int32.ofInt 3) L) (h4 : vp_in (nI n + Int32.ofInt 4) L) (h5 : vp_in (nI n + Int32.ofInt 5) L) (hB : Bd < 2 ^ 20) (hI : LI sta Bd h) (hK : ∀ h a b, LI sta (Bd + 1) h → mj_go sta (mj_Cl sta 11) m_L_law T 2027 [some (.ref (mj_SB + 101)), some (.ref 0), some (.ref 151), some (.ref 165), some (.int (nI n)), a, b] [] h) : mj_go sta (mj_Cl sta 11) m_L_law T 1857 [some (.ref (mj_SB + 101)), some (.ref 0), some (.ref 151), some (.ref 165), some (.int (nI n)), a, b] [] h := by
  obtain ⟨tr, w, u, f, t, hJ, hv, hl, hz⟩ := hI
  obtain ⟨fs, hf⟩ := (J_at hJ).2
  have hV := hv.V
  repeat (first | refine g_sald hV hs rfl (by assumption) ?_ | refine g_px rfl rfl rfl ?_ | refine L_bool rfl rfl rfl rfl ?_)
  refine L_oneI hv hJ rfl rfl rfl rfl rfl rfl rfl n_X8_seed rfl (J_seed (d := 2) (xs (nI n + Int32.ofInt 1).toNatClampNeg) hJ) (fun x MP w1 h6 s2 s3 hv e1 e2 => ?_)
  have hV := hv.V
  repeat (first | refine g_sald hV hs rfl (by assumption) ?_ | refine g_px rfl rfl rfl ?_ | refine L_bool rfl rfl rfl rfl ?_)
  refine L_twoV hv hf rfl rfl rfl rfl rfl rfl s2 (fun u1 h7 hp hv e3 e4 => ?_)
  obtain ⟨tr1, hJ1⟩ := s3 u1 hp
  exact g_ic rfl (fun _ => hK h7 a b ⟨tr1, w1, u1, f, t, hJ1, hv, by omega, by omega⟩) (fun cq => absurd rfl cq)
theorem t_47 {sta : mj_S} {Bd L n : Nat} {xs : Nat → Int32} {T : Nat → mj_L → List Value → mj_H → Prop} {h : mj_H} {a b : Option Value} (hs : sta (mj_SB + 101) = some (L, xs)) (h1 : vp_in (nI n + Int32.ofInt 1) L) (h2 : vp_in (nI n + Int32.ofInt 2) L) (h3 : vp_in (nI n + Int32.ofInt 3) L) (h4 : vp_in (nI n + Int32.ofInt 4) L) (h5 : vp_in (nI n + Int32.ofInt 5) L) (hB : Bd < 2 ^ 20) (hI : LI sta Bd h) (hK : ∀ h a b, LI sta (Bd + 1) h → mj_go sta (mj_Cl sta 11) m_L_law T 2027 [some (.ref (mj_SB + 101)), some (.ref 0), some (.ref 151), some (.ref 165), some (.int (nI n)), a, b] [] h) : mj_go sta (mj_Cl sta 11) m_L_law T 1882 [some (.ref (mj_SB + 101)), some (.ref 0), some (.ref 151), some (.ref 165), some (.int (nI n)), a, b] [] h := by
  obtain ⟨tr, w, u, f, t, hJ, hv, hl, hz⟩ := hI
  obtain ⟨fs, hf⟩ := (J_at hJ).2
  have hV := hv.V
  repeat (first | refine g_sald hV hs rfl (by assumption) ?_ | refine g_px rfl rfl rfl ?_ | refine L_bool rfl rfl rfl rfl ?_)
  refine L_oneI hv hJ rfl rfl rfl rfl rfl rfl rfl n_X8_undo rfl (J_undo (d := 2)  hJ) (fun x MP w1 h6 s2 s3 hv e1 e2 => ?_)
  have hV := hv.V
  repeat (first | refine g_sald hV hs rfl (by assumption) ?_ | refine g_px rfl rfl rfl ?_ | refine L_bool rfl rfl rfl rfl ?_)
  refine L_twoV hv hf rfl rfl rfl rfl rfl rfl s2 (fun u1 h7 hp hv e3 e4 => ?_)
  obtain ⟨tr1, hJ1⟩ := s3 u1 hp
  exact g_ic rfl (fun _ => hK h7 a b ⟨tr1, w1, u1, f, t, hJ1, hv, by omega, by omega⟩) (fun cq => absurd rfl cq)
theorem t_48 {sta : mj_S} {Bd L n : Nat} {xs : Nat → Int32} {T : Nat → mj_L → List Value → mj_H → Prop} {h : mj_H} {a b : Option Value} (hs : sta (mj_SB + 101) = some (L, xs)) (h1 : vp_in (nI n + Int32.ofInt 1) L) (h2 : vp_in (nI n + Int32.ofInt 2) L) (h3 : vp_in (nI n + Int32.ofInt 3) L) (h4 : vp_in (nI n + Int32.ofInt 4) L) (h5 : vp_in (nI n + Int32.ofInt 5) L) (hB : Bd < 2 ^ 20) (hI : LI sta Bd h) (hK : ∀ h a b, LI sta (Bd + 1) h → mj_go sta (mj_Cl sta 11) m_L_law T 2027 [some (.ref (mj_SB + 101)), some (.ref 0), some (.ref 151), some (.ref 165), some (.int (nI n)), a, b] [] h) : mj_go sta (mj_Cl sta 11) m_L_law T 1895 [some (.ref (mj_SB + 101)), some (.ref 0), some (.ref 151), some (.ref 165), some (.int (nI n)), a, b] [] h := by
  obtain ⟨tr, w, u, f, t, hJ, hv, hl, hz⟩ := hI
  obtain ⟨fs, hf⟩ := (J_at hJ).2
  have hV := hv.V
  repeat (first | refine g_sald hV hs rfl (by assumption) ?_ | refine g_px rfl rfl rfl ?_ | refine L_bool rfl rfl rfl rfl ?_)
  refine L_oneI hv hJ rfl rfl rfl rfl rfl rfl rfl n_X8_image rfl (J_image (d := 2)  hJ) (fun x MP w1 h6 s2 s3 hv e1 e2 => ?_)
  have hV := hv.V
  repeat (first | refine g_sald hV hs rfl (by assumption) ?_ | refine g_px rfl rfl rfl ?_ | refine L_bool rfl rfl rfl rfl ?_)
  refine L_twoV hv hf rfl rfl rfl rfl rfl rfl s2 (fun u1 h7 hp hv e3 e4 => ?_)
  obtain ⟨tr1, hJ1⟩ := s3 u1 hp
  exact g_ic rfl (fun _ => hK h7 a b ⟨tr1, w1, u1, f, t, hJ1, hv, by omega, by omega⟩) (fun cq => absurd rfl cq)
theorem t_49 {sta : mj_S} {Bd L n : Nat} {xs : Nat → Int32} {T : Nat → mj_L → List Value → mj_H → Prop} {h : mj_H} {a b : Option Value} (hs : sta (mj_SB + 101) = some (L, xs)) (h1 : vp_in (nI n + Int32.ofInt 1) L) (h2 : vp_in (nI n + Int32.ofInt 2) L) (h3 : vp_in (nI n + Int32.ofInt 3) L) (h4 : vp_in (nI n + Int32.ofInt 4) L) (h5 : vp_in (nI n + Int32.ofInt 5) L) (hB : Bd < 2 ^ 20) (hI : LI sta Bd h) (hK : ∀ h a b, LI sta (Bd + 1) h → mj_go sta (mj_Cl sta 11) m_L_law T 2027 [some (.ref (mj_SB + 101)), some (.ref 0), some (.ref 151), some (.ref 165), some (.int (nI n)), a, b] [] h) : mj_go sta (mj_Cl sta 11) m_L_law T 1908 [some (.ref (mj_SB + 101)), some (.ref 0), some (.ref 151), some (.ref 165), some (.int (nI n)), a, b] [] h := by
  obtain ⟨tr, w, u, f, t, hJ, hv, hl, hz⟩ := hI
  obtain ⟨fs, hf⟩ := (J_at hJ).2
  have hV := hv.V
  repeat (first | refine g_sald hV hs rfl (by assumption) ?_ | refine g_px rfl rfl rfl ?_ | refine L_bool rfl rfl rfl rfl ?_)
  refine L_oneI hv hJ rfl rfl rfl rfl rfl rfl rfl n_X8_back rfl (J_back (d := 2) (xs (nI n + Int32.ofInt 1).toNatClampNeg) hJ) (fun x MP w1 h6 s2 s3 hv e1 e2 => ?_)
  have hV := hv.V
  repeat (first | refine g_sald hV hs rfl (by assumption) ?_ | refine g_px rfl rfl rfl ?_ | refine L_bool rfl rfl rfl rfl ?_)
  refine L_twoV hv hf rfl rfl rfl rfl rfl rfl s2 (fun u1 h7 hp hv e3 e4 => ?_)
  obtain ⟨tr1, hJ1⟩ := s3 u1 hp
  exact g_ic rfl (fun _ => hK h7 a b ⟨tr1, w1, u1, f, t, hJ1, hv, by omega, by omega⟩) (fun cq => absurd rfl cq)
theorem t_51 {sta : mj_S} {Bd L n : Nat} {xs : Nat → Int32} {T : Nat → mj_L → List Value → mj_H → Prop} {h : mj_H} {a b : Option Value} (hs : sta (mj_SB + 101) = some (L, xs)) (h1 : vp_in (nI n + Int32.ofInt 1) L) (h2 : vp_in (nI n + Int32.ofInt 2) L) (h3 : vp_in (nI n + Int32.ofInt 3) L) (h4 : vp_in (nI n + Int32.ofInt 4) L) (h5 : vp_in (nI n + Int32.ofInt 5) L) (hB : Bd < 2 ^ 20) (hI : LI sta Bd h) (hK : ∀ h a b, LI sta (Bd + 1) h → mj_go sta (mj_Cl sta 11) m_L_law T 2027 [some (.ref (mj_SB + 101)), some (.ref 0), some (.ref 151), some (.ref 165), some (.int (nI n)), a, b] [] h) : mj_go sta (mj_Cl sta 11) m_L_law T 1989 [some (.ref (mj_SB + 101)), some (.ref 0), some (.ref 151), some (.ref 165), some (.int (nI n)), a, b] [] h := by
  obtain ⟨tr, w, u, f, t, hJ, hv, hl, hz⟩ := hI
  have hB : Bd < 2 ^ 30 := Nat.lt_trans hB (by decide)
  obtain ⟨fs, hf⟩ := (J_at hJ).2
  have hV := hv.V
  repeat (first | refine g_sald hV hs rfl (by assumption) ?_ | refine g_px rfl rfl rfl ?_ | refine L_bool rfl rfl rfl rfl ?_)
  refine L_oneI hv hJ rfl rfl rfl rfl rfl rfl rfl n_X8_size rfl (J_size (d := 2) (xs (nI n + Int32.ofInt 1).toNatClampNeg) hB hJ) (fun x MP w1 h6 s2 s3 hv e1 e2 => ?_)
  have hV := hv.V
  repeat (first | refine g_sald hV hs rfl (by assumption) ?_ | refine g_px rfl rfl rfl ?_ | refine L_bool rfl rfl rfl rfl ?_)
  refine L_twoV hv hf rfl rfl rfl rfl rfl rfl s2 (fun u1 h7 hp hv e3 e4 => ?_)
  obtain ⟨tr1, hJ1⟩ := s3 u1 hp
  exact g_ic rfl (fun _ => hK h7 a b ⟨tr1, w1, u1, f, t, hJ1, hv, by omega, by omega⟩) (fun cq => absurd rfl cq)
theorem t_52 {sta : mj_S} {Bd L n : Nat} {xs : Nat → Int32} {T : Nat → mj_L → List Value → mj_H → Prop} {h : mj_H} {a b : Option Value} (hs : sta (mj_SB + 101) = some (L, xs)) (h1 : vp_in (nI n + Int32.ofInt 1) L) (h2 : vp_in (nI n + Int32.ofInt 2) L) (h3 : vp_in (nI n + Int32.ofInt 3) L) (h4 : vp_in (nI n + Int32.ofInt 4) L) (h5 : vp_in (nI n + Int32.ofInt 5) L) (hB : Bd < 2 ^ 20) (hI : LI sta Bd h) (hK : ∀ h a b, LI sta (Bd + 1) h → mj_go sta (mj_Cl sta 11) m_L_law T 2027 [some (.ref (mj_SB + 101)), some (.ref 0), some (.ref 151), some (.ref 165), some (.int (nI n)), a, b] [] h) : mj_go sta (mj_Cl sta 11) m_L_law T 2014 [some (.ref (mj_SB + 101)), some (.ref 0), some (.ref 151), some (.ref 165), some (.int (nI n)), a, b] [] h := by
  obtain ⟨tr, w, u, f, t, hJ, hv, hl, hz⟩ := hI
  have hB : Bd < 2 ^ 30 := Nat.lt_trans hB (by decide)
  obtain ⟨fs, hf⟩ := (J_at hJ).2
  have hV := hv.V
  repeat (first | refine g_sald hV hs rfl (by assumption) ?_ | refine g_px rfl rfl rfl ?_ | refine L_bool rfl rfl rfl rfl ?_)
  refine L_oneI hv hJ rfl rfl rfl rfl rfl rfl rfl n_X8_trouble rfl (J_trouble (d := 2)  hB hJ) (fun x MP w1 h6 s2 s3 hv e1 e2 => ?_)
  have hV := hv.V
  repeat (first | refine g_sald hV hs rfl (by assumption) ?_ | refine g_px rfl rfl rfl ?_ | refine L_bool rfl rfl rfl rfl ?_)
  refine L_twoV hv hf rfl rfl rfl rfl rfl rfl s2 (fun u1 h7 hp hv e3 e4 => ?_)
  obtain ⟨tr1, hJ1⟩ := s3 u1 hp
  exact g_ic rfl (fun _ => hK h7 a b ⟨tr1, w1, u1, f, t, hJ1, hv, by omega, by omega⟩) (fun cq => absurd rfl cq)
