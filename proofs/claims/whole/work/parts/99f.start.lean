/-! the law's start: both objects are made -/
def mj_ix (p : Nat) : List va_E → mj_W
  | [] => []
  | e :: t => (p, e) :: mj_ix (p + 1) t
theorem ix_app : ∀ (l m : List va_E) (p : Nat), mj_ix p (l ++ m) = mj_ix p l ++ mj_ix (p + l.length) m
  | [], m, p => rfl
  | e :: t, m, p => by
    show (p, e) :: mj_ix (p + 1) (t ++ m) = (p, e) :: (mj_ix (p + 1) t ++ mj_ix (p + (t.length + 1)) m)
    rw [ix_app t m (p + 1), show p + 1 + t.length = p + (t.length + 1) by omega]
theorem ix_at : ∀ (l : List va_E) (p j a : Nat) (e : va_E), mj_nth (mj_ix p l) j = some (a, e) → a = p + j ∧ mj_nth l j = some e
  | [], _, _, _, _, h => by cases h
  | x :: t, p, 0, a, e, h => by cases h; exact ⟨rfl, rfl⟩
  | x :: t, p, j + 1, a, e, h => by
    obtain ⟨h1, h2⟩ := ix_at t (p + 1) j a e h
    exact ⟨by omega, h2⟩
theorem ix_ks : ∀ (l : List va_E) (p : Nat), mj_ks (mj_ix p l) = List.range' p l.length
  | [], p => rfl
  | x :: t, p => by
    show p :: mj_ks (mj_ix (p + 1) t) = _
    rw [ix_ks t (p + 1)]
    rfl
theorem ix_vw (l : List va_E) (z : Nat) (hl : l.length ≤ mj_SB) : mj_vw (mj_ix 0 l) (l, z) := by
  refine ⟨⟨by rw [ix_ks]; exact List.nodup_range', hl⟩, fun j a e hj => ?_⟩
  obtain ⟨h1, h2⟩ := ix_at l 0 j a e hj
  rw [h1, Nat.zero_add]
  exact h2
def H0 : HN := (fun _ => 0, fun _ _ => 0, fun _ => some 0)
def X0 : CX := ((0, 0, 0, 0), (fun _ => 0), (fun _ => some 0), 0, (fun _ => 0), (fun _ _ => none), fun _ => 0)
theorem ix_5 (p : Nat) : mj_ix p (cs_X5 p) = nvH p H0 := by
  show [(p, .inr (5, nob p 0 0 0 0)), (p + 1, zI 6), (p + 2, zI 6), (p + 3, zI 6), (p + 4, zI 6)] = [(p, .inr (5, nob p 0 0 0 0)), (p + 1, an (fun _ => 0)), (p + 2, an (fun _ => 0)), (p + 3, an (fun _ => 0)), (p + 4, sq (fun _ => some 0))]
  rw [← z_an, ← z_sq]
theorem ix_1 (p : Nat) : mj_ix p (cs_X1 p) = dv p (fun _ => 0) (fun _ _ => 0) := by
  show [(p, .inr (1, dob p 0 0 0 0 0 0 0 0 0)), (p + 1, zI 6), (p + 2, zI 6), (p + 3, zI 6), (p + 4, zI 6), (p + 5, zI 6), (p + 6, zI 3)] = [(p, .inr (1, dob p 0 0 0 0 0 0 0 0 0)), (p + 1, an (fun _ => 0)), (p + 2, an (fun _ => 0)), (p + 3, an (fun _ => 0)), (p + 4, an (fun _ => 0)), (p + 5, an (fun _ => 0)), (p + 6, aN 3 (fun _ => 0))]
  rw [← z_an, ← z_aN]
theorem ix_6 : mj_ix 1 (cs_X6 1) = [(1, .inr (6, tpg 0 0 0 0 0 0 0 0 0)), (2, ab (fun _ => 0)), (3, an (fun _ => 0)), (4, an (fun _ => 0))] := by
  rw [← z_ab, ← z_an]
  rfl
theorem pkn_0 : ∀ k, pkn (fun _ => none) k = 0
  | 0 => rfl
  | k + 1 => by rw [pkn, pkn_0 k]; rfl
theorem ix_0 (p : Nat) : mj_ix p (cs_X0 p) = cs7 p X0 := by
  have e : a7 (fun k => pkn (X0.2.2.2.2.2.1 k) 6) = a7 (fun _ => 0) := by
    have : (fun k => pkn (X0.2.2.2.2.2.1 k) 6) = fun _ => 0 := by funext k; exact pkn_0 6
    rw [this]
  show [(p, .inr (0, cob p 0 0)), (p + 1, .inr (4, lob (p + 1) 0 0 0)), (p + 2, zI 6), (p + 3, zI 6), (p + 4, zI 720), (p + 5, zI 720), (p + 6, zI 720)] = [(p, .inr (0, cob p 0 0)), (p + 1, .inr (4, lob (p + 1) 0 0 0)), (p + 2, sq (fun _ => some 0)), (p + 3, an (fun _ => 0)), (p + 4, aN 720 (fun _ => 0)), (p + 5, a7 (fun k => pkn (X0.2.2.2.2.2.1 k) 6)), (p + 6, aN 720 (fun _ => 0))]
  rw [e, ← z_an, ← z_sq, ← z_aN]
  show _ = [(p, .inr (0, cob p 0 0)), (p + 1, .inr (4, lob (p + 1) 0 0 0)), (p + 2, zI 6), (p + 3, zI 6), (p + 4, zI 720), (p + 5, aN 720 (fun _ => 0)), (p + 6, zI 720)]
  rw [← z_aN]
theorem ix_7 : mj_ix 146 (cs_X7 146) = wwt 0 0 (fun _ _ => 0) := by
  show [(146, .inr (7, [.int 0, .int 0, .ref 147])), (147, wct), (148, zI 6), (149, zI 6), (150, zI 6)] = [(146, .inr (7, [.int 0, .int 0, .ref 147])), (147, wct), (148, an (fun _ => 0)), (149, an (fun _ => 0)), (150, an (fun _ => 0))]
  rw [← z_an]
theorem ix_nws (p b : Nat) (hp : p + 3 = b) : ∀ k, mj_ix b (nws p k) = fam b (fun _ => H0) 0 k
  | 0 => rfl
  | k + 1 => by
    rw [nws, ix_app, nws_len, ix_nws p b hp k, fam_split (x := k) (j := 1), Nat.zero_add]
    show _ ++ mj_ix (b + 5 * k) (cs_X5 (p + 3 + 5 * k)) = _ ++ (nvH (b + 5 * k) H0 ++ [])
    rw [hp, ix_5, List.append_nil]
theorem fam_b {b : Nat} {R : Nat → HN} : ∀ (j x k : Nat), fam b R (x + k) j = fam (b + 5 * x) (fun i => R (x + i)) k j
  | 0, _, _ => rfl
  | j + 1, x, k => by
    rw [fam, fam, show x + k + 1 = x + (k + 1) by omega, fam_b j x (k + 1), show b + 5 * (x + k) = b + 5 * x + 5 * k by omega]
theorem ix_2 : mj_ix 29 (cs_X2 29) = kh (rgf 29 0 16) (rgf 29 16 3) 0 0 0 ++ kt (fun _ => H0) (fun _ => H0) := by
  unfold cs_X2
  rw [ix_app]
  show _ ++ mj_ix 32 (nws 29 19) = _
  rw [ix_nws 29 32 rfl, show (19 : Nat) = 16 + 3 from rfl, fam_split]
  have e := fam_b (b := 32) (R := fun _ => H0) 3 16 0
  rw [show 0 + 16 = 16 + 0 from rfl, e]
  rfl
theorem ix_4 : mj_ix 127 (cs_X4 127) = [(127, .inr (4, lob 127 0 0 0)), (128, sq (fun _ => some 0))] := by
  rw [← z_sq]
  rfl
theorem ix_129 : mj_ix 129 [zI 6] = [(129, an (fun _ => 0))] := by
  rw [← z_an]
  rfl
theorem ix_3 : mj_ix 144 (cs_X3 144) = wlw 0 0 (fun _ => 0) := rfl
theorem pm_st {α : Type} {o : α} {A B C D E K T F G I M N P : List α} : (o :: (((((((((((A ++ B) ++ C) ++ D) ++ E) ++ (K ++ T)) ++ F) ++ G) ++ I) ++ M) ++ N) ++ P)).Perm (((((((((((o :: A) ++ B) ++ C) ++ D) ++ E) ++ K) ++ (F ++ G)) ++ I) ++ M) ++ N ++ P) ++ T) := by
  have h := List.perm_append_comm (l₁ := T) (l₂ := F ++ (G ++ (I ++ (M ++ (N ++ P)))))
  simp only [List.append_assoc, List.cons_append] at h ⊢
  exact List.Perm.cons o (List.Perm.append_left A (List.Perm.append_left B (List.Perm.append_left C (List.Perm.append_left D (List.Perm.append_left E (List.Perm.append_left K h))))))
theorem ln_X8 : (cs_X8 0).length = 151 := by
  unfold cs_X8
  simp only [List.length_cons, List.length_append, List.length_nil, ln_X6, ln_X1, ln_X5, ln_X4, ln_X0, ln_X3, ln_X7, ln_X2]
theorem ln_X10 : (cs_X10 151).length = 14 := rfl
theorem bd_0 {n : Nat} (h : 0 < n) : bd n (fun _ => 0) := fun _ => h
theorem okX_0 : okX X0 := ⟨bd_0 (by decide), Nat.zero_le _, bd_0 (by decide), (fun k m q h => by cases h), bd_0 (by decide)⟩
theorem okD_0 : okD (fun _ => 0) (fun _ _ => 0) := ⟨by decide, by decide, by decide, by decide, by decide, by decide, by decide, by decide, by decide, bd_0 (by decide), bd_0 (by decide), bd_0 (by decide), bd_0 (by decide), bd_0 (by decide), bd_0 (by decide)⟩
theorem okN_0 : okN H0.1 H0.2.1 H0.2.2 := ⟨by decide, by decide, by decide, bd_0 (by decide), bd_0 (by decide), bd_0 (by decide), (fun m q h => by cases h; decide)⟩
theorem st_w : ∃ w, (mj_ix 0 (cs_X8 0)).Perm w ∧ cS false 5 12 (tpg (nI 0) 0 0 0 0 0 0 0 0) (fun _ => 0) (fun _ => 0) (fun _ => 0) (fun _ => 0) (fun _ _ => 0) (fun _ => 0) (fun _ _ => 0) H0 (rgf 29 0 16) (rgf 29 16 3) 0 0 0 (fun _ => H0) (fun _ => H0) 0 w := by
  refine ⟨_, ?_, false, H0, 0, 0, 0, (fun _ => some 0), (fun _ => 0), X0, X0, 0, 0, (fun _ => 0), 0, 0, (fun _ _ => 0), ⟨okX_0, okX_0, bd_0 (by decide), (fun h => by cases h), (fun h => by cases h)⟩, rfl⟩
  show (mj_ix 0 ((.inr (8, ob 0 0 5 12 0)) :: (((((((((((cs_X6 1 ++ cs_X1 5) ++ cs_X1 12) ++ cs_X5 19) ++ cs_X5 24) ++ cs_X2 29) ++ cs_X4 127) ++ [zI 6]) ++ cs_X0 130) ++ cs_X0 137) ++ cs_X3 144) ++ cs_X7 146))).Perm _
  rw [show ∀ (e : va_E) (t : List va_E), mj_ix 0 (e :: t) = (0, e) :: mj_ix 1 t from fun _ _ => rfl]
  simp only [ix_app, List.length_append, List.length_cons, List.length_nil, ln_X6, ln_X1, ln_X5, ln_X4, ln_X0, ln_X3, ln_X7, ln_X2, Nat.reduceAdd, ix_6, ix_1, ix_5, ix_2, ix_0, ix_7, ix_4, ix_3, ix_129]
  exact pm_st
theorem st_u : mSu none (fun _ => 0) 0 0 0 (fun _ => 0) (fun _ => 0) (fun _ => 0) (fun _ => 0) 0 0 (mj_ix 151 (cs_X10 151)) := by
  refine ⟨0, 0, 0, 0, 0, 0, 0, 0, 0, 0, (fun _ => 0), (fun _ => 0), (fun _ => some 0), (fun _ => some 0), (fun _ => 0), (fun _ => 0), (fun _ => 0), (fun _ => 0), (fun _ => 0), ?_⟩
  rw [if_neg (by decide)]
  show _ = [(mo 0 0 (-1) none none (fun _ => 0) 0 0 0 0 0 0 0 0 0 0 0 0)] ++ [(152, ab (fun _ => 0)), (153, zI 28), (154, zI 448), (155, zI 84), (156, an (fun _ => 0)), (157, an (fun _ => 0)), (158, sq (fun _ => some 0)), (159, sq (fun _ => some 0)), (160, aL 6 (fun _ => 0)), (161, aL 6 (fun _ => 0)), (162, aL 6 (fun _ => 0)), (163, aL 36 (fun _ => 0)), (164, aN 18 (fun _ => 0))]
  rw [← z_an, ← z_sq, ← z_ab, ← z_aL, ← z_aL, ← z_aN]
  rfl
theorem st_J {sta : mj_S} (hF : stF sta) : ∃ w, (mj_ix 0 (cs_X8 0)).Perm w ∧ J sta 0 0 w (mj_ix 151 (cs_X10 151)) := by
  obtain ⟨w, h1, h2⟩ := st_w
  refine ⟨w, h1, Or.inr ⟨5, 12, 0, 0, 0, 0, 0, 0, 0, 0, 0, (fun _ => 0), (fun _ => 0), (fun _ => 0), (fun _ => 0), (fun _ _ => 0), (fun _ => 0), (fun _ _ => 0), H0, rgf 29 0 16, rgf 29 16 3, 0, (fun _ => H0), (fun _ => H0), none, (fun _ => 0), 0, 0, 0, (fun _ => 0), (fun _ => 0), (fun _ => 0), h2, st_u, hF, okD_0, okD_0, ⟨fun i hi => ?_, fun i hi => ?_⟩, by decide, okN_0, by decide, bd_0 (by decide), rfl, rfl⟩⟩
  · unfold rgf
    rw [if_pos hi, show 29 + 3 + 5 * (0 + i) = 32 + 5 * i by omega]
  · unfold rgf
    rw [if_pos hi, show 29 + 3 + 5 * (16 + i) = 112 + 5 * i by omega]
/-- the law's whole run on the small machine -/
theorem L_start {sta : mj_S} {L : Nat} {xs : Nat → Int32} (hs : sta (mj_SB + 101) = some (L, xs)) (hF : stF sta) (hL : L ≤ 3072) : mj_go sta (mj_Cl sta 11) m_L_law (fun pc _ st h => pc = 2034 ∧ st = [.int 1] ∧ h.1.length ≤ 4262 ∧ h.2 ≤ 35648) 0 (mj_e0 7 [.ref (mj_SB + 101)]) [] ([], 0) := by
  generalize hT : (fun (pc : Nat) (_ : mj_L) (st : List Value) (h : mj_H) => pc = 2034 ∧ st = [.int 1] ∧ h.1.length ≤ 4262 ∧ h.2 ≤ 35648) = T
  refine a_newN (l := []) (t := []) (n := 0) rfl rfl ?_
  refine g_run 1 rfl ?_
  refine a_initN (l := []) (t := []) (n := 0) rfl (s_I_X8 sta 7) rfl rfl rfl rfl ?_
  refine g_run 1 rfl ?_
  show mj_go sta (mj_Cl sta 11) m_L_law T 8 [some (.ref (mj_SB + 101)), some (.ref 0), none, none, none, none, none] [] ([] ++ cs_X8 0, 0 + mj_sz 8 + 6041)
  refine a_newN (l := []) (t := cs_X8 0) (n := 151) ln_X8 rfl ?_
  refine g_run 1 rfl ?_
  refine a_initN (l := []) (t := cs_X8 0) (n := 151) ln_X8 (s_I_X10 sta 9) rfl rfl rfl rfl ?_
  refine g_run 1 rfl ?_
  show mj_go sta (mj_Cl sta 11) m_L_law T 16 [some (.ref (mj_SB + 101)), some (.ref 0), some (.ref 151), none, none, none, none] [] ([] ++ (cs_X8 0 ++ cs_X10 151), 0 + mj_sz 8 + 6041 + mj_sz 10 + 1456)
  refine g_run 1 rfl ?_
  refine a_long (l := []) (t := cs_X8 0 ++ cs_X10 151) (n := 1) (by decide) rfl ?_
  rw [show ([] : List va_E).length + (cs_X8 0 ++ cs_X10 151).length = 165 by rw [List.length_append, ln_X8, ln_X10]; rfl]
  refine g_run 3 rfl ?_
  obtain ⟨w, hw, hJ⟩ := st_J hF
  have hv : mj_vw (w ++ (mj_ix 151 (cs_X10 151) ++ [(165, zL 1)])) ((cs_X8 0 ++ cs_X10 151) ++ [zL 1], 0 + mj_sz 8 + 6041 + mj_sz 10 + 1456 + 1) := by
    have h1 := ix_vw ((cs_X8 0 ++ cs_X10 151) ++ [zL 1]) (0 + mj_sz 8 + 6041 + mj_sz 10 + 1456 + 1) (by rw [List.length_append, List.length_append, ln_X8, ln_X10]; decide)
    rw [ix_app, ix_app, List.length_append, ln_X8, ln_X10, List.append_assoc] at h1
    exact h1.perm (hw.append_right _)
  have hI : LI sta 0 ((cs_X8 0 ++ cs_X10 151) ++ [zL 1], 0 + mj_sz 8 + 6041 + mj_sz 10 + 1456 + 1) := by
    refine ⟨0, w, mj_ix 151 (cs_X10 151), (fun _ => 0), [], hJ, hv, ?_, ?_⟩
    · rw [List.length_append, List.length_append, ln_X8, ln_X10]
      decide
    · show 0 + mj_sz 8 + 6041 + mj_sz 10 + 1456 + 1 ≤ 8000 + 54 * 0
      have z8 : mj_sz 8 = 15 := rfl
      have z10 : mj_sz 10 = 38 := rfl
      omega
  refine L_loop hs hL (fun h lv h1 h2 => g_run 1 rfl (mj_go.here ?_)) 513 0 _ none none (by omega) (Nat.zero_le _) hI
  subst hT
  exact ⟨rfl, rfl, h1, h2⟩
