/-! Kept -/
abbrev kob (nx ac im : Int32) : List Value := [.ref 30, .ref 31, .int nx, .int ac, .int im]
abbrev ar (n : Nat) (f : Nat → Option Nat) : va_E := .inl (3, n, .inr (.inr (.inr (.inr f))))
/-- a now: numbers and rows -/
abbrev mj_N : Type := (Int32 × Int32 × Int32 × Int32) × (Nat → Nat) × (Nat → Nat) × (Nat → Nat) × (Nat → Option Nat)
abbrev wn (c : Nat) (N : mj_N) : mj_W := [(c, .inr (5, nob c N.1.1 N.1.2.1 N.1.2.2.1 N.1.2.2.2)), (c + 1, an N.2.1), (c + 2, an N.2.2.1), (c + 3, an N.2.2.2.1), (c + 4, sq N.2.2.2.2)]
theorem s_takeN (sta : mj_S) (d c c' : Nat) (N N' : mj_N) : mj_Sx sta (d + 1) 35 [.ref c, .ref c'] (wn c N ++ wn c' N') (fun v w => v = none ∧ w = wn c N' ++ wn c' N') :=
  s_take sta d c c' N'.1.1 N'.1.2.1 N'.1.2.2.1 N'.1.2.2.2 N.2.1 N.2.2.1 N.2.2.2.1 N'.2.1 N'.2.2.1 N'.2.2.2.1 N.2.2.2.2 N'.2.2.2.2 N.1.1 N.1.2.1 N.1.2.2.1 N.1.2.2.2
theorem s_kclear (sta : mj_S) (d : Nat) (nx ac im : Int32) : mj_Sx sta (d + 1) 20 [.ref 29] [(29, .inr (2, kob nx ac im))] (fun v w => v = none ∧ w = [(29, .inr (2, kob nx 0 0))]) := by
  refine mj_Sx.mk m_X2_clear (by decide) n_X2_clear rfl (fun h0 hv => ?_)
  repeat (first | refine g_px rfl rfl rfl ?_ | refine g_get hv 0 rfl rfl rfl rfl ?_)
  refine g_put hv 0 rfl rfl rfl rfl rfl rfl (fun h hv => ?_)
  repeat (first | refine g_px rfl rfl rfl ?_ | refine g_get hv 0 rfl rfl rfl rfl ?_)
  refine g_put hv 0 rfl rfl rfl rfl rfl rfl (fun h hv => ?_)
  exact g_vret hv rfl rfl rfl ⟨rfl, rfl⟩
theorem rem16 {a : Nat} (ha : a < 1000) : nI a - nI a / (Int8.ofInt 16).toInt32 * (Int8.ofInt 16).toInt32 = nI (a % 16) := by
  rw [show (Int8.ofInt 16).toInt32 = nI 16 from rfl]
  exact pk_rem (by omega) (by decide) (by decide)
theorem s_keep (sta : mj_S) (d x a : Nat) (im : Int32) (rg : Nat → Option Nat) (N O : mj_N) (hx : x < 16) (ha : a ≤ 16) (hrg : rg x = some (32 + 5 * x)) :
    mj_Sx sta (d + 2) 21 [.ref 29, .ref 19] ([(29, .inr (2, kob (nI x) (nI a) im)), (30, ar 16 rg)] ++ (wn (32 + 5 * x) O ++ wn 19 N)) (fun v w => v = none ∧ w = [(29, .inr (2, kob (nI ((x + 1) % 16)) (nI (min (a + 1) 16)) im)), (30, ar 16 rg)] ++ (wn (32 + 5 * x) N ++ wn 19 N)) := by
  refine mj_Sx.mk m_X2_keep (by decide) n_X2_keep rfl (fun h0 hv => ?_)
  repeat (first | refine g_px rfl rfl rfl ?_ | refine g_get hv 0 rfl rfl rfl rfl ?_ | refine g_get hv 1 rfl rfl rfl rfl ?_)
  refine g_aald hv 1 rfl rfl (vp_in_nI hx (by decide)) ?_
  rw [nI_clamp (by omega), hrg]
  repeat (first | refine g_px rfl rfl rfl ?_ | refine g_get hv 0 rfl rfl rfl rfl ?_ | refine g_get hv 1 rfl rfl rfl rfl ?_)
  refine g_callV hv [2, 3, 4, 5, 6, 7, 8, 9, 10, 11] 2 rfl rfl rfl rfl rfl rfl rfl rfl (by decide) (s_takeN sta d (32 + 5 * x) 19 O N) (fun v w' h hp hk hv => ?_)
  obtain ⟨rfl, rfl⟩ := hp
  refine g_run 2 rfl ?_
  refine g_get hv 0 rfl rfl rfl rfl ?_
  refine g_run 4 rfl ?_
  rw [show nI x + Int32.ofInt 1 = nI (x + 1) from (nI_succ x).symm, rem16 (by omega)]
  refine g_put hv 0 rfl rfl rfl rfl rfl rfl (fun h hv => ?_)
  repeat (first | refine g_px rfl rfl rfl ?_ | refine g_get hv 0 rfl rfl rfl rfl ?_)
  rw [show nI a + Int32.ofInt 1 = nI (a + 1) from (nI_succ a).symm]
  refine g_callS hv [] rfl rfl rfl rfl rfl rfl rfl (by decide) (s_min sta d _ _) (fun v w' h hp hk hv => ?_)
  obtain ⟨rfl, rfl⟩ := hp
  have e : (if nI (a + 1) ≤ (Int8.ofInt 16).toInt32 then nI (a + 1) else (Int8.ofInt 16).toInt32) = nI (min (a + 1) 16) := by
    rw [show (Int8.ofInt 16).toInt32 = nI 16 from rfl]
    by_cases h1 : a + 1 ≤ 16
    · rw [if_pos (nI_le h1 (by decide)), Nat.min_eq_left h1]
    · rw [if_neg (fun q => h1 ((nI_leI (by omega) (by decide)).mp q)), Nat.min_eq_right (by omega)]
  rw [e]
  refine g_put hv 0 rfl rfl rfl rfl rfl rfl (fun h hv => ?_)
  exact g_vret hv rfl rfl rfl ⟨rfl, rfl⟩
theorem s_takeBack0 (sta : mj_S) (d : Nat) (nx im : Int32) (c : Nat) : mj_Sx sta (d + 1) 22 [.ref 29, .ref c] [(29, .inr (2, kob nx 0 im))] (fun v w => v = some (.int 0) ∧ w = [(29, .inr (2, kob nx 0 im))]) := by
  refine mj_Sx.mk m_X2_takeBack (by decide) n_X2_takeBack rfl (fun h0 hv => ?_)
  repeat (first | refine g_px rfl rfl rfl ?_ | refine g_get hv 0 rfl rfl rfl rfl ?_)
  refine g_if rfl (fun cq => absurd rfl cq) (fun cq => ?_)
  repeat (first | refine g_px rfl rfl rfl ?_ | refine g_get hv 0 rfl rfl rfl rfl ?_)
  exact g_iret hv rfl rfl rfl rfl ⟨rfl, rfl⟩
theorem s_takeBack (sta : mj_S) (d x a : Nat) (im : Int32) (rg : Nat → Option Nat) (N O : mj_N) (hx : x < 16) (ha : a < 16) (hrg : rg ((x + 15) % 16) = some (32 + 5 * ((x + 15) % 16))) :
    mj_Sx sta (d + 2) 22 [.ref 29, .ref 19] ([(29, .inr (2, kob (nI x) (nI (a + 1)) im)), (30, ar 16 rg)] ++ (wn 19 N ++ wn (32 + 5 * ((x + 15) % 16)) O)) (fun v w => v = some (.int 1) ∧ w = [(29, .inr (2, kob (nI ((x + 15) % 16)) (nI a) im)), (30, ar 16 rg)] ++ (wn 19 O ++ wn (32 + 5 * ((x + 15) % 16)) O)) := by
  refine mj_Sx.mk m_X2_takeBack (by decide) n_X2_takeBack rfl (fun h0 hv => ?_)
  generalize hy : (x + 15) % 16 = y at hrg hv ⊢
  have hy16 : y < 16 := by omega
  repeat (first | refine g_px rfl rfl rfl ?_ | refine g_get hv 0 rfl rfl rfl rfl ?_ | refine g_get hv 1 rfl rfl rfl rfl ?_)
  refine g_if rfl (fun cq => ?_) (fun cq => absurd (nI_ne0 (n := a + 1) (by omega) (by omega)) cq)
  repeat (first | refine g_px rfl rfl rfl ?_ | refine g_get hv 0 rfl rfl rfl rfl ?_)
  rw [show nI x + (Int8.ofInt 16).toInt32 - Int32.ofInt 1 = nI (x + 15) by rw [show (Int8.ofInt 16).toInt32 = nI 16 from rfl, nI_add]; exact pk_sub (a := x + 16) (b := 1) (by omega)]
  rw [rem16 (by omega), hy]
  refine g_put hv 0 rfl rfl rfl rfl rfl rfl (fun h hv => ?_)
  repeat (first | refine g_px rfl rfl rfl ?_ | refine g_get hv 0 rfl rfl rfl rfl ?_)
  rw [show nI (a + 1) - Int32.ofInt 1 = nI a from nI_pred a]
  refine g_put hv 0 rfl rfl rfl rfl rfl rfl (fun h hv => ?_)
  repeat (first | refine g_px rfl rfl rfl ?_ | refine g_get hv 0 rfl rfl rfl rfl ?_)
  refine g_aald hv 1 rfl rfl (vp_in_nI hy16 (by decide)) ?_
  rw [nI_clamp (by omega), hrg]
  refine g_callV hv [2, 3, 4, 5, 6, 7, 8, 9, 10, 11] 2 rfl rfl rfl rfl rfl rfl rfl rfl (by decide) (s_takeN sta d 19 (32 + 5 * y) N O) (fun v w' h hp hk hv => ?_)
  obtain ⟨rfl, rfl⟩ := hp
  repeat (first | refine g_px rfl rfl rfl ?_ | refine g_get hv 0 rfl rfl rfl rfl ?_)
  exact g_iret hv rfl rfl rfl rfl ⟨rfl, rfl⟩
theorem s_paint3 (sta : mj_S) (d : Nat) (nx ac : Int32) (c : Nat) : mj_Sx sta (d + 1) 23 [.ref 29, .ref c] [(29, .inr (2, kob nx ac 3))] (fun v w => v = some (.int (-1)) ∧ w = [(29, .inr (2, kob nx ac 3))]) := by
  refine mj_Sx.mk m_X2_paint (by decide) n_X2_paint rfl (fun h0 hv => ?_)
  repeat (first | refine g_px rfl rfl rfl ?_ | refine g_get hv 0 rfl rfl rfl rfl ?_)
  refine g_ic rfl (fun cq => absurd cq (show ¬ (3 : Int32) < 3 by decide)) (fun cq => ?_)
  repeat (first | refine g_px rfl rfl rfl ?_ | refine g_get hv 0 rfl rfl rfl rfl ?_)
  exact g_iret hv rfl rfl rfl rfl ⟨rfl, rfl⟩
theorem s_paint (sta : mj_S) (d i : Nat) (nx ac : Int32) (pa : Nat → Option Nat) (N O : mj_N) (hi : i < 3) (hpa : pa i = some (112 + 5 * i)) :
    mj_Sx sta (d + 2) 23 [.ref 29, .ref 19] ([(29, .inr (2, kob nx ac (nI i))), (31, ar 3 pa)] ++ (wn (112 + 5 * i) O ++ wn 19 N)) (fun v w => v = some (.int (nI i)) ∧ w = [(29, .inr (2, kob nx ac (nI (i + 1)))), (31, ar 3 pa)] ++ (wn (112 + 5 * i) N ++ wn 19 N)) := by
  refine mj_Sx.mk m_X2_paint (by decide) n_X2_paint rfl (fun h0 hv => ?_)
  repeat (first | refine g_px rfl rfl rfl ?_ | refine g_get hv 0 rfl rfl rfl rfl ?_ | refine g_get hv 1 rfl rfl rfl rfl ?_)
  refine g_ic rfl (fun cq => ?_) (fun cq => absurd (nI_lt (a := i) (b := 3) hi (by decide)) cq)
  repeat (first | refine g_px rfl rfl rfl ?_ | refine g_get hv 0 rfl rfl rfl rfl ?_ | refine g_get hv 1 rfl rfl rfl rfl ?_)
  refine g_aald hv 1 rfl rfl (vp_in_nI hi (by decide)) ?_
  rw [nI_clamp (by omega), hpa]
  repeat (first | refine g_px rfl rfl rfl ?_ | refine g_get hv 0 rfl rfl rfl rfl ?_ | refine g_get hv 1 rfl rfl rfl rfl ?_)
  refine g_callV hv [2, 3, 4, 5, 6, 7, 8, 9, 10, 11] 2 rfl rfl rfl rfl rfl rfl rfl rfl (by decide) (s_takeN sta d (112 + 5 * i) 19 O N) (fun v w' h hp hk hv => ?_)
  obtain ⟨rfl, rfl⟩ := hp
  refine g_run 2 rfl ?_
  refine g_get hv 0 rfl rfl rfl rfl ?_
  refine g_run 2 rfl ?_
  rw [show nI i + Int32.ofInt 1 = nI (i + 1) from (nI_succ i).symm]
  refine g_put hv 0 rfl rfl rfl rfl rfl rfl (fun h hv => ?_)
  repeat (first | refine g_px rfl rfl rfl ?_ | refine g_get hv 0 rfl rfl rfl rfl ?_)
  rw [show nI (i + 1) - Int32.ofInt 1 = nI i from nI_pred i]
  exact g_iret hv rfl rfl rfl rfl ⟨rfl, rfl⟩
theorem s_goBack0 (sta : mj_S) (d c : Nat) (nx ac im x : Int32) (hx : x < 0 ∨ im ≤ x) : mj_Sx sta (d + 1) 24 [.ref 29, .int x, .ref c] [(29, .inr (2, kob nx ac im))] (fun v w => v = some (.int 0) ∧ w = [(29, .inr (2, kob nx ac im))]) := by
  refine mj_Sx.mk m_X2_goBack (by decide) n_X2_goBack rfl (fun h0 hv => ?_)
  repeat (first | refine g_px rfl rfl rfl ?_ | refine g_get hv 0 rfl rfl rfl rfl ?_)
  refine g_if rfl (fun cq => ?_) (fun cq => ?_)
  · repeat (first | refine g_px rfl rfl rfl ?_ | refine g_get hv 0 rfl rfl rfl rfl ?_)
    exact g_iret hv rfl rfl rfl rfl ⟨rfl, rfl⟩
  · have cq : ¬ x < 0 := cq
    repeat (first | refine g_px rfl rfl rfl ?_ | refine g_get hv 0 rfl rfl rfl rfl ?_)
    refine g_ic rfl (fun cq2 => ?_) (fun cq2 => ?_)
    · have cq2 : x < im := cq2
      rcases hx with h1 | h1
      · exact absurd h1 cq
      · exact absurd cq2 (Int32.not_lt.mpr h1)
    · repeat (first | refine g_px rfl rfl rfl ?_ | refine g_get hv 0 rfl rfl rfl rfl ?_)
      exact g_iret hv rfl rfl rfl rfl ⟨rfl, rfl⟩
theorem s_goBack (sta : mj_S) (d i im : Nat) (nx ac : Int32) (pa : Nat → Option Nat) (N O : mj_N) (hi : i < im) (him : im ≤ 3) (hpa : pa i = some (112 + 5 * i)) :
    mj_Sx sta (d + 2) 24 [.ref 29, .int (nI i), .ref 19] ([(29, .inr (2, kob nx ac (nI im))), (31, ar 3 pa)] ++ (wn 19 N ++ wn (112 + 5 * i) O)) (fun v w => v = some (.int 1) ∧ w = [(29, .inr (2, kob nx 0 (nI im))), (31, ar 3 pa)] ++ (wn 19 O ++ wn (112 + 5 * i) O)) := by
  refine mj_Sx.mk m_X2_goBack (by decide) n_X2_goBack rfl (fun h0 hv => ?_)
  repeat (first | refine g_px rfl rfl rfl ?_ | refine g_get hv 0 rfl rfl rfl rfl ?_ | refine g_get hv 1 rfl rfl rfl rfl ?_)
  refine g_if rfl (fun cq => absurd cq (nI_pos (by omega))) (fun cq => ?_)
  repeat (first | refine g_px rfl rfl rfl ?_ | refine g_get hv 0 rfl rfl rfl rfl ?_ | refine g_get hv 1 rfl rfl rfl rfl ?_)
  refine g_ic rfl (fun cq => ?_) (fun cq => absurd (nI_lt hi (by omega)) cq)
  repeat (first | refine g_px rfl rfl rfl ?_ | refine g_get hv 0 rfl rfl rfl rfl ?_ | refine g_get hv 1 rfl rfl rfl rfl ?_)
  refine g_aald hv 1 rfl rfl (vp_in_nI (show i < 3 by omega) (by decide)) ?_
  rw [nI_clamp (by omega), hpa]
  refine g_callV hv [2, 3, 4, 5, 6, 7, 8, 9, 10, 11] 2 rfl rfl rfl rfl rfl rfl rfl rfl (by decide) (s_takeN sta d 19 (112 + 5 * i) N O) (fun v w' h hp hk hv => ?_)
  obtain ⟨rfl, rfl⟩ := hp
  refine g_run 2 rfl ?_
  refine g_put hv 0 rfl rfl rfl rfl rfl rfl (fun h hv => ?_)
  repeat (first | refine g_px rfl rfl rfl ?_ | refine g_get hv 0 rfl rfl rfl rfl ?_)
  exact g_iret hv rfl rfl rfl rfl ⟨rfl, rfl⟩
