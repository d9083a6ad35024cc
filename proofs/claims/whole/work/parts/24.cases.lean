/-! Cases: what is read -/
abbrev a7 (f : Nat → Nat) : va_E := .inl (0, 720, .inl (fun i => if i < 720 then nI (f i) else 0))
section R7
variable {sta : mj_S} {Cl : mj_R} {M : mj_M} {T : Nat → mj_L → List Value → mj_H → Prop} {pc q len wp a k : Nat} {lv : mj_L} {st r : List Value} {h0 h : mj_H} {w : mj_W} {raw : Instr} {f : Nat → Nat}
theorem g_n7 (hv : mj_Vw h0 w h) (j : Nat) (hk : k < 720) (he : mj_ent (mj_cd M) pc = some (q, .iaload, len, raw, wp)) (hj : mj_nth w j = some (a, a7 f)) (kk : mj_go sta Cl M T (q + len) lv (.int (nI (f k)) :: r) h) : mj_go sta Cl M T pc lv (.int (nI k) :: .ref a :: r) h := by
  refine g_iald hv j he hj (vp_in_nI hk (by decide)) ?_
  rw [nI_clamp (by omega), if_pos hk]
  exact kk
theorem g_n7s {y : Nat} (hv : mj_Vw h0 w h) (j : Nat) (hk : k < 720) (he : mj_ent (mj_cd M) pc = some (q, .iastore, len, raw, wp)) (hj : mj_nth w j = some (a, a7 f)) (kk : ∀ h, mj_Vw h0 (w.set j (a, a7 (va_up f k y))) h → mj_go sta Cl M T (q + len) lv r h) : mj_go sta Cl M T pc lv (.int (nI y) :: .int (nI k) :: .ref a :: r) h := by
  refine g_iast hv j he hj (vp_in_nI hk (by decide)) (fun h hv => ?_)
  have e : upd (fun i => if i < 720 then nI (f i) else (0 : Int32)) k (nI y) = (fun i => if i < 720 then nI (va_up f k y i) else 0) := by
    funext i
    unfold upd va_up
    by_cases h : i = k
    · subst h; simp [hk]
    · simp [h]
  rw [nI_clamp (by omega), e] at hv
  exact kk h hv
end R7
/-- a code: nobody 0, else one more -/
def cd (o : Option Nat) : Nat := match o with
  | none => 0
  | some q => q + 1
def pkn (g : Nat → Option Nat) : Nat → Nat
  | 0 => 0
  | k + 1 => 2 ^ (3 * k) * cd (g k) + pkn g k
def gok (g : Nat → Option Nat) : Prop := ∀ m q, g m = some q → q < 6
theorem cd_lt {g : Nat → Option Nat} (hg : gok g) (m : Nat) : cd (g m) < 7 := by
  unfold cd
  split
  · omega
  · rename_i q e; have := hg m q e; omega
theorem pkn_lt {g : Nat → Option Nat} (hg : gok g) : ∀ k, pkn g k < 2 ^ (3 * k)
  | 0 => by simp [pkn]
  | k + 1 => by
    have ih := pkn_lt hg k
    have hc := cd_lt hg k
    rw [pkn, show 3 * (k + 1) = 3 * k + 3 by omega, Nat.pow_add]
    have h2 : 2 ^ (3 * k) * cd (g k) ≤ 2 ^ (3 * k) * 6 := Nat.mul_le_mul_left _ (by omega)
    omega
theorem sh3 : ∀ q, q < 6 → ∀ m, m < 6 → (nI q + Int32.ofInt 1) <<< (Int32.ofInt 3 * nI m &&& 31) = nI (2 ^ (3 * m) * (q + 1)) := by decide +kernel
theorem s_packed (sta : mj_S) (d ks : Nat) (g : Nat → Option Nat) (hg : gok g) : mj_Sx sta (d + 1) 6 [.ref ks] [(ks, sq g)] (fun v w => v = some (.int (nI (pkn g 6))) ∧ w = [(ks, sq g)]) := by
  refine mj_Sx.mk m_X0_packed (by decide) n_X0_packed rfl (fun h0 hv => ?_)
  have loop : ∀ j k, k + j = 6 → mj_go sta (mj_Cl sta d) m_X0_packed (mj_rx m_X0_packed h0 [ks] (fun v w => v = some (.int (nI (pkn g 6))) ∧ w = [(ks, sq g)])) 4 [some (.ref ks), some (.int (nI (pkn g k))), some (.int (nI k))] [] h0 := by
    intro j
    induction j with
    | zero =>
      intro k hk
      have hk : k = 6 := by omega
      subst hk
      repeat (first | refine g_px rfl rfl rfl ?_ | refine g_get hv 0 rfl rfl rfl rfl ?_)
      refine g_ic rfl (fun cq => ?_) (fun cq => absurd (show (Int8.ofInt 6).toInt32 ≤ nI 6 by decide) cq)
      repeat (first | refine g_px rfl rfl rfl ?_ | refine g_get hv 0 rfl rfl rfl rfl ?_)
      exact g_iret hv rfl rfl rfl rfl ⟨rfl, rfl⟩
    | succ j ih =>
      intro k hk
      have hk6 : k < 6 := by omega
      repeat (first | refine g_px rfl rfl rfl ?_ | refine g_get hv 0 rfl rfl rfl rfl ?_)
      refine g_ic rfl (fun cq => absurd cq (nI_ge (a := k) (b := 6) hk6 (by decide))) (fun cq => ?_)
      repeat (first | refine g_px rfl rfl rfl ?_ | refine g_get hv 0 rfl rfl rfl rfl ?_)
      refine g_s6 hv 0 hk6 rfl rfl ?_
      refine g_if rfl (fun cq => ?_) (fun cq => ?_)
      · have e : g k = none := (snd_nn (fun q hq => hg k q hq)).mp cq
        refine g_run 2 rfl ?_
        have e2 : pkn g (k + 1) = pkn g k := by rw [pkn, e]; simp [cd]
        have := ih (k + 1) (by omega)
        rw [nI_succ, e2] at this
        exact this
      · cases e : g k with
        | none => rw [e] at cq; exact absurd (show snd none < 0 by decide) cq
        | some q =>
          have hq := hg k q e
          repeat (first | refine g_px rfl rfl rfl ?_ | refine g_get hv 0 rfl rfl rfl rfl ?_)
          refine g_s6 hv 0 hk6 rfl rfl ?_
          rw [e]
          refine g_run 10 rfl ?_
          have := ih (k + 1) (by omega)
          have e2 : nI (pkn g (k + 1)) = nI (pkn g k) ||| ((nI q + Int32.ofInt 1) <<< (Int32.ofInt 3 * nI k &&& 31)) := by
            rw [sh3 q hq k hk6, Int32.or_comm, fa_or_sum _ (pkn_lt hg k), pkn, e]
            rfl
          rw [nI_succ, e2] at this
          exact this
  refine g_run 4 rfl ?_
  exact loop 6 0 (by omega)
theorem pkn_at {g : Nat → Option Nat} (hg : gok g) {m : Nat} (hm : m < 6) : pkn g 6 / 2 ^ (3 * m) % 8 = cd (g m) := by
  have c0 := cd_lt hg 0
  have c1 := cd_lt hg 1
  have c2 := cd_lt hg 2
  have c3 := cd_lt hg 3
  have c4 := cd_lt hg 4
  have c5 := cd_lt hg 5
  simp only [pkn]
  match m, hm with
  | 0, _ => simp; omega
  | 1, _ => simp; omega
  | 2, _ => simp; omega
  | 3, _ => simp; omega
  | 4, _ => simp; omega
  | 5, _ => simp; omega
theorem shr3 {P m : Nat} (hP : P < 2 ^ 18) (hm : m < 6) : (nI P >>> (Int32.ofInt 3 * nI m &&& 31)) &&& (Int8.ofInt 7).toInt32 = nI (P / 2 ^ (3 * m) % 8) := by
  have e : nI P >>> (Int32.ofInt 3 * nI m &&& 31) = nI (P / 2 ^ (3 * m)) := by
    match m, hm with
    | 0, _ => exact pk_shrN (by omega) _ 0 (by decide)
    | 1, _ => exact pk_shrN (by omega) _ 3 (by decide)
    | 2, _ => exact pk_shrN (by omega) _ 6 (by decide)
    | 3, _ => exact pk_shrN (by omega) _ 9 (by decide)
    | 4, _ => exact pk_shrN (by omega) _ 12 (by decide)
    | 5, _ => exact pk_shrN (by omega) _ 15 (by decide)
  rw [e]
  exact pk_andN (Nat.lt_of_le_of_lt (Nat.div_le_self _ _) (by omega)) (m := (Int8.ofInt 7).toInt32) 3 (by decide)
def snt (o : Option Nat) : Int32 := match o with
  | none => -1
  | some q => nI q
theorem cd_snt (o : Option Nat) : nI (cd o) - Int32.ofInt 1 = snt o := by
  cases o with
  | none => rfl
  | some q => exact nI_pred q
abbrev cob (s : Nat) (ct mn : Int32) : List Value := [.ref (s + 1), .ref (s + 3), .int ct, .int mn, .ref (s + 4), .ref (s + 5), .ref (s + 6)]
theorem s_sent (sta : mj_S) (d s k m : Nat) (ct mn : Int32) (G : Nat → Nat → Option Nat) (hG : ∀ k, gok (G k)) (hk : k < 720) (hm : m < 6) :
    mj_Sx sta (d + 1) 7 [.ref s, .int (nI k), .int (nI m)] [(s, .inr (0, cob s ct mn)), (s + 5, a7 (fun k => pkn (G k) 6))] (fun v w => v = some (.int (snt (G k m))) ∧ w = [(s, .inr (0, cob s ct mn)), (s + 5, a7 (fun k => pkn (G k) 6))]) := by
  refine mj_Sx.mk m_X0_sent (by decide) n_X0_sent rfl (fun h0 hv => ?_)
  repeat (first | refine g_px rfl rfl rfl ?_ | refine g_get hv 0 rfl rfl rfl rfl ?_ | refine g_get hv 1 rfl rfl rfl rfl ?_)
  refine g_n7 hv 1 hk rfl rfl ?_
  repeat (first | refine g_px rfl rfl rfl ?_ | refine g_get hv 0 rfl rfl rfl rfl ?_ | refine g_get hv 1 rfl rfl rfl rfl ?_)
  rw [shr3 (pkn_lt (hG k) 6) hm, pkn_at (hG k) hm, cd_snt]
  exact g_iret hv rfl rfl rfl rfl ⟨rfl, rfl⟩
theorem s_isTaken (sta : mj_S) (d s k m : Nat) (ct mn : Int32) (K : Nat → Nat) (hK : bd 64 K) (hk : k < 720) (hm : m < 6) :
    mj_Sx sta (d + 1) 8 [.ref s, .int (nI k), .int (nI m)] [(s, .inr (0, cob s ct mn)), (s + 4, a7 K)] (fun v w => v = some (.int (bl ((K k).testBit m))) ∧ w = [(s, .inr (0, cob s ct mn)), (s + 4, a7 K)]) := by
  refine mj_Sx.mk m_X0_isTaken (by decide) n_X0_isTaken rfl (fun h0 hv => ?_)
  repeat (first | refine g_px rfl rfl rfl ?_ | refine g_get hv 0 rfl rfl rfl rfl ?_ | refine g_get hv 1 rfl rfl rfl rfl ?_)
  refine g_n7 hv 1 hk rfl rfl ?_
  repeat (first | refine g_px rfl rfl rfl ?_ | refine g_get hv 0 rfl rfl rfl rfl ?_ | refine g_get hv 1 rfl rfl rfl rfl ?_)
  have hbit := bt_get (K k) (hK k) m hm
  refine g_ic rfl (fun cq => ?_) (fun cq => ?_)
  · have cq : ¬ ((nI (K k) >>> (nI m &&& 31)) &&& 1) = 1 := cq
    repeat (first | refine g_px rfl rfl rfl ?_ | refine g_get hv 0 rfl rfl rfl rfl ?_ | refine g_get hv 1 rfl rfl rfl rfl ?_)
    refine g_iret hv rfl rfl rfl rfl ⟨?_, rfl⟩
    cases q : (K k).testBit m with
    | false => rfl
    | true => rw [hbit, q] at cq; exact absurd rfl cq
  · have cq : ¬ ¬ ((nI (K k) >>> (nI m &&& 31)) &&& 1) = 1 := cq
    repeat (first | refine g_px rfl rfl rfl ?_ | refine g_get hv 0 rfl rfl rfl rfl ?_ | refine g_get hv 1 rfl rfl rfl rfl ?_)
    refine g_iret hv rfl rfl rfl rfl ⟨?_, rfl⟩
    cases q : (K k).testBit m with
    | true => rfl
    | false => rw [hbit, q] at cq; exact absurd (by decide) cq
/-- for whom a man goes -/
def sdr (g : Nat → Option Nat) (m : Nat) : Nat → Nat → Option Nat
  | 0, _ => none
  | j + 1, k => if g k = some m then some k else sdr g m j (k + 1)
theorem snt_eq {o : Option Nat} {m : Nat} (hm : m < 6) (ho : ∀ q, o = some q → q < 6) : snt o = nI m ↔ o = some m := by
  cases o with
  | none => exact ⟨fun h => by
      have : ∀ m, m < 6 → ¬ (-1 : Int32) = nI m := by decide +kernel
      exact absurd h (this m hm), fun h => by cases h⟩
  | some q => exact ⟨fun h => by rw [(nI_eq (by have := ho q rfl; omega) (by omega)).mp h], fun h => by cases h; rfl⟩
theorem s_sender (sta : mj_S) (d s k m n : Nat) (ct : Int32) (G : Nat → Nat → Option Nat) (hG : ∀ k, gok (G k)) (hk : k < 720) (hm : m < 6) (hn : n ≤ 6) :
    mj_Sx sta (d + 2) 9 [.ref s, .int (nI k), .int (nI m)] [(s, .inr (0, cob s ct (nI n))), (s + 5, a7 (fun k => pkn (G k) 6))] (fun v w => v = some (.int (snd (sdr (G k) m n 0))) ∧ w = [(s, .inr (0, cob s ct (nI n))), (s + 5, a7 (fun k => pkn (G k) 6))]) := by
  refine mj_Sx.mk m_X0_sender (by decide) n_X0_sender rfl (fun h0 hv => ?_)
  have loop : ∀ j x h, x + j = n → mj_Vw h0 [(s, .inr (0, cob s ct (nI n))), (s + 5, a7 (fun k => pkn (G k) 6))] h → mj_go sta (mj_Cl sta (d + 1)) m_X0_sender (mj_rx m_X0_sender h0 [s, s + 5] (fun v w => v = some (.int (snd (sdr (G k) m j x))) ∧ w = [(s, .inr (0, cob s ct (nI n))), (s + 5, a7 (fun k => pkn (G k) 6))])) 2 [some (.ref s), some (.int (nI k)), some (.int (nI m)), some (.int (nI x))] [] h := by
    intro j
    induction j with
    | zero =>
      intro x h hx hv
      have hx : x = n := by omega
      subst hx
      repeat (first | refine g_px rfl rfl rfl ?_ | refine g_get hv 0 rfl rfl rfl rfl ?_ | refine g_get hv 1 rfl rfl rfl rfl ?_)
      refine g_ic rfl (fun cq => ?_) (fun cq => absurd (nI_le (Nat.le_refl x) (by omega)) cq)
      repeat (first | refine g_px rfl rfl rfl ?_ | refine g_get hv 0 rfl rfl rfl rfl ?_ | refine g_get hv 1 rfl rfl rfl rfl ?_)
      exact g_iret hv rfl rfl rfl rfl ⟨rfl, rfl⟩
    | succ j ih =>
      intro x h hx hv
      repeat (first | refine g_px rfl rfl rfl ?_ | refine g_get hv 0 rfl rfl rfl rfl ?_ | refine g_get hv 1 rfl rfl rfl rfl ?_)
      refine g_ic rfl (fun cq => absurd cq (nI_ge (a := x) (b := n) (by omega) (by omega))) (fun cq => ?_)
      repeat (first | refine g_px rfl rfl rfl ?_ | refine g_get hv 0 rfl rfl rfl rfl ?_ | refine g_get hv 1 rfl rfl rfl rfl ?_)
      refine g_callV hv [0, 1] 0 rfl rfl rfl rfl rfl rfl rfl rfl (by decide) (s_sent sta d s k x ct (nI n) G hG hk (by omega)) (fun v w' h hp hk hv => ?_)
      obtain ⟨rfl, rfl⟩ := hp
      refine g_run 1 rfl ?_
      refine g_ic rfl (fun cq => ?_) (fun cq => ?_)
      · have cq : ¬ snt (G k x) = nI m := cq
        have hne : ¬ G k x = some m := fun e => cq ((snt_eq hm (hG k x)).mpr e)
        refine g_run 2 rfl ?_
        rw [sdr, if_neg hne]
        have := ih (x + 1) h (by omega) hv
        rw [nI_succ] at this
        exact this
      · have cq : ¬ ¬ snt (G k x) = nI m := cq
        have he : G k x = some m := (snt_eq hm (hG k x)).mp (Decidable.not_not.mp cq)
        refine g_run 1 rfl ?_
        rw [sdr, if_pos he]
        exact g_iret hv rfl rfl rfl rfl ⟨rfl, rfl⟩
  refine g_run 2 rfl ?_
  exact loop n 0 h0 (by omega) hv
theorem shl1 : ∀ m, m < 6 → (Int32.ofInt 1 <<< (nI m &&& 31)) = nI (2 ^ m) := by decide +kernel
def lsc (cl T : Nat) (g : Nat → Option Nat) (W A : Nat → Nat) (m : Nat) : Nat := if cl.testBit m then los T g W A m else 0
theorem los_lt {T : Nat} {g : Nat → Option Nat} {W A : Nat → Nat} (hW : bd 1000 W) (hA : bd 1000 A) (m : Nat) : los T g W A m < 1000 := by
  unfold los
  split
  · split
    · exact hW m
    · exact hA _
  · omega
abbrev wcl (s b : Nat) (ct : Int32) (n : Nat) (K : Nat → Nat) (G : Nat → Nat → Option Nat) (tk kn sp hd hi er sh wn : Int32) (W A : Nat → Nat) : mj_W := [(s, .inr (0, cob s ct (nI n))), (s + 4, a7 K), (s + 5, a7 (fun k => pkn (G k) 6)), (b, .inr (1, dob b tk (nI n) kn sp hd hi er sh wn)), (b + 2, an W), (b + 4, an A)]
theorem s_clost (sta : mj_S) (d s b k cl n : Nat) (ct tk kn sp hd hi er sh wn : Int32) (K : Nat → Nat) (G : Nat → Nat → Option Nat) (W A : Nat → Nat) (hG : ∀ k, gok (G k)) (hK : bd 64 K) (hk : k < 720) (hn : n ≤ 6) (hW : bd 1000 W) (hA : bd 1000 A) :
    mj_Sx sta (d + 2) 10 [.ref s, .ref b, .int (nI k), .int (nI cl)] (wcl s b ct n K G tk kn sp hd hi er sh wn W A) (fun v w => v = some (.int (nI (fb_sm (lsc cl (K k) (G k) W A) n))) ∧ w = wcl s b ct n K G tk kn sp hd hi er sh wn W A) := by
  refine mj_Sx.mk m_X0_lost (by decide) n_X0_lost rfl (fun h0 hv => ?_)
  have loop : ∀ j x h o, x + j = n → mj_Vw h0 (wcl s b ct n K G tk kn sp hd hi er sh wn W A) h → mj_go sta (mj_Cl sta (d + 1)) m_X0_lost (mj_rx m_X0_lost h0 [s, s + 4, s + 5, b, b + 2, b + 4] (fun v w => v = some (.int (nI (fb_sm (lsc cl (K k) (G k) W A) n))) ∧ w = wcl s b ct n K G tk kn sp hd hi er sh wn W A)) 6 [some (.ref s), some (.ref b), some (.int (nI k)), some (.int (nI cl)), some (.int (nI (fb_sm (lsc cl (K k) (G k) W A) x))), some (.int (nI x)), o] [] h := by
    intro j
    induction j with
    | zero =>
      intro x h o hx hv
      have hx : x = n := by omega
      subst hx
      repeat (first | refine g_px rfl rfl rfl ?_ | refine g_get hv 0 rfl rfl rfl rfl ?_ | refine g_get hv 1 rfl rfl rfl rfl ?_ | refine g_get hv 2 rfl rfl rfl rfl ?_ | refine g_get hv 3 rfl rfl rfl rfl ?_ | refine g_get hv 4 rfl rfl rfl rfl ?_ | refine g_get hv 5 rfl rfl rfl rfl ?_)
      refine g_ic rfl (fun cq => ?_) (fun cq => absurd (nI_le (Nat.le_refl x) (by omega)) cq)
      repeat (first | refine g_px rfl rfl rfl ?_ | refine g_get hv 0 rfl rfl rfl rfl ?_ | refine g_get hv 1 rfl rfl rfl rfl ?_ | refine g_get hv 2 rfl rfl rfl rfl ?_ | refine g_get hv 3 rfl rfl rfl rfl ?_ | refine g_get hv 4 rfl rfl rfl rfl ?_ | refine g_get hv 5 rfl rfl rfl rfl ?_)
      exact g_iret hv rfl rfl rfl rfl ⟨rfl, rfl⟩
    | succ j ih =>
      intro x h o hx hv
      have hx6 : x < 6 := by omega
      have next : ∀ y h o, y = lsc cl (K k) (G k) W A x → mj_Vw h0 (wcl s b ct n K G tk kn sp hd hi er sh wn W A) h → mj_go sta (mj_Cl sta (d + 1)) m_X0_lost (mj_rx m_X0_lost h0 [s, s + 4, s + 5, b, b + 2, b + 4] (fun v w => v = some (.int (nI (fb_sm (lsc cl (K k) (G k) W A) n))) ∧ w = wcl s b ct n K G tk kn sp hd hi er sh wn W A)) 67 [some (.ref s), some (.ref b), some (.int (nI k)), some (.int (nI cl)), some (.int (nI (fb_sm (lsc cl (K k) (G k) W A) x + y))), some (.int (nI x)), o] [] h := by
        intro y h o hy hv
        subst hy
        refine g_run 2 rfl ?_
        have := ih (x + 1) h o (by omega) hv
        rw [nI_succ, fb_sm_succ] at this
        exact this
      repeat (first | refine g_px rfl rfl rfl ?_ | refine g_get hv 0 rfl rfl rfl rfl ?_ | refine g_get hv 1 rfl rfl rfl rfl ?_ | refine g_get hv 2 rfl rfl rfl rfl ?_ | refine g_get hv 3 rfl rfl rfl rfl ?_ | refine g_get hv 4 rfl rfl rfl rfl ?_ | refine g_get hv 5 rfl rfl rfl rfl ?_)
      refine g_ic rfl (fun cq => absurd cq (nI_ge (a := x) (b := n) (by omega) (by omega))) (fun cq => ?_)
      repeat (first | refine g_px rfl rfl rfl ?_ | refine g_get hv 0 rfl rfl rfl rfl ?_ | refine g_get hv 1 rfl rfl rfl rfl ?_ | refine g_get hv 2 rfl rfl rfl rfl ?_ | refine g_get hv 3 rfl rfl rfl rfl ?_ | refine g_get hv 4 rfl rfl rfl rfl ?_ | refine g_get hv 5 rfl rfl rfl rfl ?_)
      refine g_n7 hv 1 hk rfl rfl ?_
      repeat (first | refine g_px rfl rfl rfl ?_ | refine g_get hv 0 rfl rfl rfl rfl ?_ | refine g_get hv 1 rfl rfl rfl rfl ?_ | refine g_get hv 2 rfl rfl rfl rfl ?_ | refine g_get hv 3 rfl rfl rfl rfl ?_ | refine g_get hv 4 rfl rfl rfl rfl ?_ | refine g_get hv 5 rfl rfl rfl rfl ?_)
      rw [shl1 x hx6, fa_and]
      refine g_if rfl (fun cq => ?_) (fun cq => ?_)
      · have cq : nI (cl &&& K k) &&& nI (2 ^ x) = 0 := cq
        have ht := (fa_bit (by omega)).mp cq
        rw [Nat.testBit_and] at ht
        have e : lsc cl (K k) (G k) W A x = 0 := by
          unfold lsc los
          cases h1 : cl.testBit x with
          | false => rfl
          | true =>
            rw [h1, Bool.true_and] at ht
            rw [ht]
            rfl
        have := next 0 h o e.symm hv
        exact this
      · have cq : ¬ nI (cl &&& K k) &&& nI (2 ^ x) = 0 := cq
        have ht : (cl &&& K k).testBit x = true := by
          cases q : (cl &&& K k).testBit x with
          | true => rfl
          | false => exact absurd ((fa_bit (by omega)).mpr q) cq
        rw [Nat.testBit_and, Bool.and_eq_true] at ht
        repeat (first | refine g_px rfl rfl rfl ?_ | refine g_get hv 0 rfl rfl rfl rfl ?_ | refine g_get hv 1 rfl rfl rfl rfl ?_ | refine g_get hv 2 rfl rfl rfl rfl ?_ | refine g_get hv 3 rfl rfl rfl rfl ?_ | refine g_get hv 4 rfl rfl rfl rfl ?_ | refine g_get hv 5 rfl rfl rfl rfl ?_)
        refine g_callV hv [0, 2] 0 rfl rfl rfl rfl rfl rfl rfl rfl (by decide) (s_sent sta d s k x ct (nI n) G hG hk hx6) (fun v w' h hp hk hv => ?_)
        obtain ⟨rfl, rfl⟩ := hp
        have hv : mj_Vw h0 (wcl s b ct n K G tk kn sp hd hi er sh wn W A) h := hv
        refine g_run 3 rfl ?_
        refine g_if rfl (fun cq => ?_) (fun cq => ?_)
        · have cq : 0 ≤ snt (G k x) := cq
          cases e : G k x with
          | none => rw [e] at cq; exact absurd cq (by decide)
          | some q =>
            have hq := hG k x q e
            repeat (first | refine g_px rfl rfl rfl ?_ | refine g_get hv 0 rfl rfl rfl rfl ?_ | refine g_get hv 1 rfl rfl rfl rfl ?_ | refine g_get hv 2 rfl rfl rfl rfl ?_ | refine g_get hv 3 rfl rfl rfl rfl ?_ | refine g_get hv 4 rfl rfl rfl rfl ?_ | refine g_get hv 5 rfl rfl rfl rfl ?_)
            refine g_n6 hv 5 hq rfl rfl ?_
            refine g_run 2 rfl ?_
            rw [nI_add]
            refine next (A q) h _ ?_ hv
            rw [lsc, if_pos ht.1, los, if_pos ht.2, e]
        · have cq : ¬ 0 ≤ snt (G k x) := cq
          have e : G k x = none := by
            cases e : G k x with
            | none => rfl
            | some q => rw [e] at cq; exact absurd (nI_pos' (by have := hG k x q e; omega)) cq
          repeat (first | refine g_px rfl rfl rfl ?_ | refine g_get hv 0 rfl rfl rfl rfl ?_ | refine g_get hv 1 rfl rfl rfl rfl ?_ | refine g_get hv 2 rfl rfl rfl rfl ?_ | refine g_get hv 3 rfl rfl rfl rfl ?_ | refine g_get hv 4 rfl rfl rfl rfl ?_ | refine g_get hv 5 rfl rfl rfl rfl ?_)
          refine g_n6 hv 4 hx6 rfl rfl ?_
          refine g_run 3 rfl ?_
          rw [nI_add]
          refine next (W x) h _ ?_ hv
          rw [lsc, if_pos ht.1, los, if_pos ht.2, e]
  refine g_run 4 rfl ?_
  exact loop n 0 h0 _ (by omega) hv
abbrev wcw (s ct n : Nat) (K : Nat → Nat) (G : Nat → Nat → Option Nat) (E : Nat → Nat) : mj_W := [(s, .inr (0, cob s (nI ct) (nI n))), (s + 4, a7 K), (s + 5, a7 (fun k => pkn (G k) 6)), (s + 6, a7 E)]
theorem add_l {a b : Nat} (hb : b < 2 ^ 31) : lN a + (nI b).toInt64 = lN (a + b) := by rw [nI_l hb, lN_add]
theorem sm_if {p : Nat → Bool} {f : Nat → Nat} {k : Nat} : fb_sm (fun x => if p x then f x else 0) (k + 1) = if p k then fb_sm (fun x => if p x then f x else 0) k + f k else fb_sm (fun x => if p x then f x else 0) k := by
  rw [fb_sm_succ]
  cases p k <;> simp
theorem sm_congr {p : Nat → Bool} {f : Nat → Nat} {k : Nat} (h : p k = true) : fb_sm (fun x => if p x then f x else 0) (k + 1) = fb_sm (fun x => if p x then f x else 0) k + f k := by rw [sm_if, h]; rfl
theorem sm_skip {p : Nat → Bool} {f : Nat → Nat} {k : Nat} (h : p k = false) : fb_sm (fun x => if p x then f x else 0) (k + 1) = fb_sm (fun x => if p x then f x else 0) k := by rw [sm_if, h]; rfl
section Weights
variable (sta : mj_S) (d s ct n m : Nat) (K : Nat → Nat) (G : Nat → Nat → Option Nat) (E : Nat → Nat)
theorem s_wTaken (hK : bd 64 K) (hE : bd 1000 E) (hct : ct ≤ 720) (hm : m < 6) :
    mj_Sx sta (d + 2) 11 [.ref s, .int (nI m)] (wcw s ct n K G E) (fun v w => v = some (.long (lN (fb_sm (fun k => if (K k).testBit m then E k else 0) ct))) ∧ w = wcw s ct n K G E) := by
  refine mj_Sx.mk m_X0_weightTaken (by decide) n_X0_weightTaken rfl (fun h0 hv => ?_)
  have loop : ∀ j x h, x + j = ct → mj_Vw h0 (wcw s ct n K G E) h → mj_go sta (mj_Cl sta (d + 1)) m_X0_weightTaken (mj_rx m_X0_weightTaken h0 [s, s + 4, s + 5, s + 6] (fun v w => v = some (.long (lN (fb_sm (fun k => if (K k).testBit m then E k else 0) ct))) ∧ w = wcw s ct n K G E)) 5 [some (.ref s), some (.int (nI m)), some (.long (lN (fb_sm (fun k => if (K k).testBit m then E k else 0) x))), none, some (.int (nI x))] [] h := by
    intro j
    induction j with
    | zero =>
      intro x h hx hv
      have hx : x = ct := by omega
      subst hx
      repeat (first | refine g_px rfl rfl rfl ?_ | refine g_get hv 0 rfl rfl rfl rfl ?_ | refine g_get hv 1 rfl rfl rfl rfl ?_ | refine g_get hv 2 rfl rfl rfl rfl ?_ | refine g_get hv 3 rfl rfl rfl rfl ?_)
      refine g_ic rfl (fun cq => ?_) (fun cq => absurd (nI_le (Nat.le_refl x) (by omega)) cq)
      repeat (first | refine g_px rfl rfl rfl ?_ | refine g_get hv 0 rfl rfl rfl rfl ?_ | refine g_get hv 1 rfl rfl rfl rfl ?_ | refine g_get hv 2 rfl rfl rfl rfl ?_ | refine g_get hv 3 rfl rfl rfl rfl ?_)
      exact g_lret hv rfl rfl rfl ⟨rfl, rfl⟩
    | succ j ih =>
      intro x h hx hv
      have hx7 : x < 720 := by omega
      repeat (first | refine g_px rfl rfl rfl ?_ | refine g_get hv 0 rfl rfl rfl rfl ?_ | refine g_get hv 1 rfl rfl rfl rfl ?_ | refine g_get hv 2 rfl rfl rfl rfl ?_ | refine g_get hv 3 rfl rfl rfl rfl ?_)
      refine g_ic rfl (fun cq => absurd cq (nI_ge (a := x) (b := ct) (by omega) (by omega))) (fun cq => ?_)
      repeat (first | refine g_px rfl rfl rfl ?_ | refine g_get hv 0 rfl rfl rfl rfl ?_ | refine g_get hv 1 rfl rfl rfl rfl ?_ | refine g_get hv 2 rfl rfl rfl rfl ?_ | refine g_get hv 3 rfl rfl rfl rfl ?_)
      refine g_callV hv [0, 1] 0 rfl rfl rfl rfl rfl rfl rfl rfl (by decide) (s_isTaken sta d s x m (nI ct) (nI n) K hK hx7 hm) (fun v w' h hp hk hv => ?_)
      obtain ⟨rfl, rfl⟩ := hp
      have hv : mj_Vw h0 (wcw s ct n K G E) h := hv
      have hnx := ih (x + 1) h (by omega) hv
      rw [nI_succ] at hnx
      refine g_if rfl (fun cq => ?_) (fun cq => ?_)
      · have cq : bl ((K x).testBit m) = 0 := cq
        have ht : (K x).testBit m = false := by
          cases q : (K x).testBit m with
          | false => rfl
          | true => rw [q] at cq; exact absurd cq (by decide)
        refine g_run 2 rfl ?_
        rw [sm_skip (p := fun k => (K k).testBit m) ht] at hnx
        exact hnx
      · have cq : ¬ bl ((K x).testBit m) = 0 := cq
        have ht : (K x).testBit m = true := by
          cases q : (K x).testBit m with
          | true => rfl
          | false => rw [q] at cq; exact absurd (by decide) cq
        repeat (first | refine g_px rfl rfl rfl ?_ | refine g_get hv 0 rfl rfl rfl rfl ?_ | refine g_get hv 1 rfl rfl rfl rfl ?_ | refine g_get hv 2 rfl rfl rfl rfl ?_ | refine g_get hv 3 rfl rfl rfl rfl ?_)
        refine g_n7 hv 3 hx7 rfl rfl ?_
        refine g_run 5 rfl ?_
        rw [sm_congr (p := fun k => (K k).testBit m) ht, ← add_l (by have := hE x; omega)] at hnx
        exact hnx
  refine g_run 4 rfl ?_
  exact loop ct 0 h0 (by omega) hv
theorem s_wSent (o : Nat) (hG : ∀ k, gok (G k)) (hE : bd 1000 E) (hct : ct ≤ 720) (hm : m < 6) (ho : o < 6) :
    mj_Sx sta (d + 2) 13 [.ref s, .int (nI m), .int (nI o)] (wcw s ct n K G E) (fun v w => v = some (.long (lN (fb_sm (fun k => if decide (G k o = some m) then E k else 0) ct))) ∧ w = wcw s ct n K G E) := by
  refine mj_Sx.mk m_X0_weightSent (by decide) n_X0_weightSent rfl (fun h0 hv => ?_)
  have loop : ∀ j x h, x + j = ct → mj_Vw h0 (wcw s ct n K G E) h → mj_go sta (mj_Cl sta (d + 1)) m_X0_weightSent (mj_rx m_X0_weightSent h0 [s, s + 4, s + 5, s + 6] (fun v w => v = some (.long (lN (fb_sm (fun k => if decide (G k o = some m) then E k else 0) ct))) ∧ w = wcw s ct n K G E)) 5 [some (.ref s), some (.int (nI m)), some (.int (nI o)), some (.long (lN (fb_sm (fun k => if decide (G k o = some m) then E k else 0) x))), none, some (.int (nI x))] [] h := by
    intro j
    induction j with
    | zero =>
      intro x h hx hv
      have hx : x = ct := by omega
      subst hx
      repeat (first | refine g_px rfl rfl rfl ?_ | refine g_get hv 0 rfl rfl rfl rfl ?_ | refine g_get hv 1 rfl rfl rfl rfl ?_ | refine g_get hv 2 rfl rfl rfl rfl ?_ | refine g_get hv 3 rfl rfl rfl rfl ?_)
      refine g_ic rfl (fun cq => ?_) (fun cq => absurd (nI_le (Nat.le_refl x) (by omega)) cq)
      repeat (first | refine g_px rfl rfl rfl ?_ | refine g_get hv 0 rfl rfl rfl rfl ?_ | refine g_get hv 1 rfl rfl rfl rfl ?_ | refine g_get hv 2 rfl rfl rfl rfl ?_ | refine g_get hv 3 rfl rfl rfl rfl ?_)
      exact g_lret hv rfl rfl rfl ⟨rfl, rfl⟩
    | succ j ih =>
      intro x h hx hv
      have hx7 : x < 720 := by omega
      repeat (first | refine g_px rfl rfl rfl ?_ | refine g_get hv 0 rfl rfl rfl rfl ?_ | refine g_get hv 1 rfl rfl rfl rfl ?_ | refine g_get hv 2 rfl rfl rfl rfl ?_ | refine g_get hv 3 rfl rfl rfl rfl ?_)
      refine g_ic rfl (fun cq => absurd cq (nI_ge (a := x) (b := ct) (by omega) (by omega))) (fun cq => ?_)
      repeat (first | refine g_px rfl rfl rfl ?_ | refine g_get hv 0 rfl rfl rfl rfl ?_ | refine g_get hv 1 rfl rfl rfl rfl ?_ | refine g_get hv 2 rfl rfl rfl rfl ?_ | refine g_get hv 3 rfl rfl rfl rfl ?_)
      refine g_callV hv [0, 2] 0 rfl rfl rfl rfl rfl rfl rfl rfl (by decide) (s_sent sta d s x o (nI ct) (nI n) G hG hx7 ho) (fun v w' h hp hk hv => ?_)
      obtain ⟨rfl, rfl⟩ := hp
      have hv : mj_Vw h0 (wcw s ct n K G E) h := hv
      have hnx := ih (x + 1) h (by omega) hv
      rw [nI_succ] at hnx
      refine g_run 1 rfl ?_
      refine g_ic rfl (fun cq => ?_) (fun cq => ?_)
      · have cq : ¬ snt (G x o) = nI m := cq
        have hne : ¬ G x o = some m := fun e => cq ((snt_eq hm (hG x o)).mpr e)
        refine g_run 2 rfl ?_
        rw [sm_skip (p := fun k => decide (G k o = some m)) (decide_eq_false hne)] at hnx
        exact hnx
      · have cq : ¬ ¬ snt (G x o) = nI m := cq
        have he : G x o = some m := (snt_eq hm (hG x o)).mp (Decidable.not_not.mp cq)
        repeat (first | refine g_px rfl rfl rfl ?_ | refine g_get hv 0 rfl rfl rfl rfl ?_ | refine g_get hv 1 rfl rfl rfl rfl ?_ | refine g_get hv 2 rfl rfl rfl rfl ?_ | refine g_get hv 3 rfl rfl rfl rfl ?_)
        refine g_n7 hv 3 hx7 rfl rfl ?_
        refine g_run 5 rfl ?_
        rw [sm_congr (p := fun k => decide (G k o = some m)) (decide_eq_true he), ← add_l (by have := hE x; omega)] at hnx
        exact hnx
  refine g_run 4 rfl ?_
  exact loop ct 0 h0 (by omega) hv
/-- does a man go: taken and sends none, or goes for another -/
def gos (n T : Nat) (g : Nat → Option Nat) (m : Nat) : Bool := if T.testBit m then (g m).isNone else (sdr g m n 0).isSome
theorem sdr_lt {g : Nat → Option Nat} {m : Nat} : ∀ {j k q : Nat}, sdr g m j k = some q → q < k + j
  | 0, k, q, h => by cases h
  | j + 1, k, q, h => by
    rw [sdr] at h
    split at h
    · cases h; omega
    · have := sdr_lt h; omega
theorem s_wGoing (hK : bd 64 K) (hG : ∀ k, gok (G k)) (hE : bd 1000 E) (hct : ct ≤ 720) (hm : m < 6) (hn : n ≤ 6) :
    mj_Sx sta (d + 3) 12 [.ref s, .int (nI m)] (wcw s ct n K G E) (fun v w => v = some (.long (lN (fb_sm (fun k => if gos n (K k) (G k) m then E k else 0) ct))) ∧ w = wcw s ct n K G E) := by
  refine mj_Sx.mk m_X0_weightGoing (by decide) n_X0_weightGoing rfl (fun h0 hv => ?_)
  have loop : ∀ j x h, x + j = ct → mj_Vw h0 (wcw s ct n K G E) h → mj_go sta (mj_Cl sta (d + 2)) m_X0_weightGoing (mj_rx m_X0_weightGoing h0 [s, s + 4, s + 5, s + 6] (fun v w => v = some (.long (lN (fb_sm (fun k => if gos n (K k) (G k) m then E k else 0) ct))) ∧ w = wcw s ct n K G E)) 5 [some (.ref s), some (.int (nI m)), some (.long (lN (fb_sm (fun k => if gos n (K k) (G k) m then E k else 0) x))), none, some (.int (nI x))] [] h := by
    intro j
    induction j with
    | zero =>
      intro x h hx hv
      have hx : x = ct := by omega
      subst hx
      repeat (first | refine g_px rfl rfl rfl ?_ | refine g_get hv 0 rfl rfl rfl rfl ?_ | refine g_get hv 1 rfl rfl rfl rfl ?_ | refine g_get hv 2 rfl rfl rfl rfl ?_ | refine g_get hv 3 rfl rfl rfl rfl ?_)
      refine g_ic rfl (fun cq => ?_) (fun cq => absurd (nI_le (Nat.le_refl x) (by omega)) cq)
      repeat (first | refine g_px rfl rfl rfl ?_ | refine g_get hv 0 rfl rfl rfl rfl ?_ | refine g_get hv 1 rfl rfl rfl rfl ?_ | refine g_get hv 2 rfl rfl rfl rfl ?_ | refine g_get hv 3 rfl rfl rfl rfl ?_)
      exact g_lret hv rfl rfl rfl ⟨rfl, rfl⟩
    | succ j ih =>
      intro x h hx hv
      have hx7 : x < 720 := by omega
      have skip : ∀ h, gos n (K x) (G x) m = false → mj_Vw h0 (wcw s ct n K G E) h → mj_go sta (mj_Cl sta (d + 2)) m_X0_weightGoing (mj_rx m_X0_weightGoing h0 [s, s + 4, s + 5, s + 6] (fun v w => v = some (.long (lN (fb_sm (fun k => if gos n (K k) (G k) m then E k else 0) ct))) ∧ w = wcw s ct n K G E)) 58 [some (.ref s), some (.int (nI m)), some (.long (lN (fb_sm (fun k => if gos n (K k) (G k) m then E k else 0) x))), none, some (.int (nI x))] [] h := by
        intro h ht hv
        refine g_run 2 rfl ?_
        have hnx := ih (x + 1) h (by omega) hv
        rw [nI_succ, sm_skip (p := fun k => gos n (K k) (G k) m) ht] at hnx
        exact hnx
      have yes : ∀ h, gos n (K x) (G x) m = true → mj_Vw h0 (wcw s ct n K G E) h → mj_go sta (mj_Cl sta (d + 2)) m_X0_weightGoing (mj_rx m_X0_weightGoing h0 [s, s + 4, s + 5, s + 6] (fun v w => v = some (.long (lN (fb_sm (fun k => if gos n (K k) (G k) m then E k else 0) ct))) ∧ w = wcw s ct n K G E)) 47 [some (.ref s), some (.int (nI m)), some (.long (lN (fb_sm (fun k => if gos n (K k) (G k) m then E k else 0) x))), none, some (.int (nI x))] [] h := by
        intro h ht hv
        repeat (first | refine g_px rfl rfl rfl ?_ | refine g_get hv 0 rfl rfl rfl rfl ?_ | refine g_get hv 1 rfl rfl rfl rfl ?_ | refine g_get hv 2 rfl rfl rfl rfl ?_ | refine g_get hv 3 rfl rfl rfl rfl ?_)
        refine g_n7 hv 3 hx7 rfl rfl ?_
        refine g_run 5 rfl ?_
        have hnx := ih (x + 1) h (by omega) hv
        rw [nI_succ, sm_congr (p := fun k => gos n (K k) (G k) m) ht, ← add_l (by have := hE x; omega)] at hnx
        exact hnx
      repeat (first | refine g_px rfl rfl rfl ?_ | refine g_get hv 0 rfl rfl rfl rfl ?_ | refine g_get hv 1 rfl rfl rfl rfl ?_ | refine g_get hv 2 rfl rfl rfl rfl ?_ | refine g_get hv 3 rfl rfl rfl rfl ?_)
      refine g_ic rfl (fun cq => absurd cq (nI_ge (a := x) (b := ct) (by omega) (by omega))) (fun cq => ?_)
      repeat (first | refine g_px rfl rfl rfl ?_ | refine g_get hv 0 rfl rfl rfl rfl ?_ | refine g_get hv 1 rfl rfl rfl rfl ?_ | refine g_get hv 2 rfl rfl rfl rfl ?_ | refine g_get hv 3 rfl rfl rfl rfl ?_)
      refine g_callV hv [0, 1] 0 rfl rfl rfl rfl rfl rfl rfl rfl (by decide) (s_isTaken sta (d + 1) s x m (nI ct) (nI n) K hK hx7 hm) (fun v w' h hp hk hv => ?_)
      obtain ⟨rfl, rfl⟩ := hp
      have hv : mj_Vw h0 (wcw s ct n K G E) h := hv
      refine g_if rfl (fun cq => ?_) (fun cq => ?_)
      · have cq : bl ((K x).testBit m) = 0 := cq
        have ht : (K x).testBit m = false := by
          cases q : (K x).testBit m with
          | false => rfl
          | true => rw [q] at cq; exact absurd cq (by decide)
        repeat (first | refine g_px rfl rfl rfl ?_ | refine g_get hv 0 rfl rfl rfl rfl ?_ | refine g_get hv 1 rfl rfl rfl rfl ?_ | refine g_get hv 2 rfl rfl rfl rfl ?_ | refine g_get hv 3 rfl rfl rfl rfl ?_)
        refine g_callV hv [0, 2] 0 rfl rfl rfl rfl rfl rfl rfl rfl (by decide) (s_sender sta d s x m n (nI ct) G hG hx7 hm hn) (fun v w' h hp hk hv => ?_)
        obtain ⟨rfl, rfl⟩ := hp
        have hv : mj_Vw h0 (wcw s ct n K G E) h := hv
        have hs6 : ∀ q, sdr (G x) m n 0 = some q → q < 6 := fun q hq => by have := sdr_lt hq; omega
        refine g_if rfl (fun cq => ?_) (fun cq => ?_)
        · have e := (snd_nn hs6).mp cq
          exact skip h (by rw [gos, ht, e]; rfl) hv
        · have cq : ¬ snd (sdr (G x) m n 0) < 0 := cq
          cases e : sdr (G x) m n 0 with
          | none => rw [e] at cq; exact absurd (show snd none < 0 by decide) cq
          | some q => exact yes h (by rw [gos, ht, e]; rfl) hv
      · have cq : ¬ bl ((K x).testBit m) = 0 := cq
        have ht : (K x).testBit m = true := by
          cases q : (K x).testBit m with
          | true => rfl
          | false => rw [q] at cq; exact absurd (by decide) cq
        repeat (first | refine g_px rfl rfl rfl ?_ | refine g_get hv 0 rfl rfl rfl rfl ?_ | refine g_get hv 1 rfl rfl rfl rfl ?_ | refine g_get hv 2 rfl rfl rfl rfl ?_ | refine g_get hv 3 rfl rfl rfl rfl ?_)
        refine g_callV hv [0, 2] 0 rfl rfl rfl rfl rfl rfl rfl rfl (by decide) (s_sent sta (d + 1) s x m (nI ct) (nI n) G hG hx7 hm) (fun v w' h hp hk hv => ?_)
        obtain ⟨rfl, rfl⟩ := hp
        have hv : mj_Vw h0 (wcw s ct n K G E) h := hv
        refine g_if rfl (fun cq => ?_) (fun cq => ?_)
        · have cq : 0 ≤ snt (G x m) := cq
          cases e : G x m with
          | none => rw [e] at cq; exact absurd cq (by decide)
          | some q => exact skip h (by rw [gos, ht, e]; rfl) hv
        · have cq : ¬ 0 ≤ snt (G x m) := cq
          refine g_run 1 rfl ?_
          cases e : G x m with
          | none => exact yes h (by rw [gos, ht, e]; rfl) hv
          | some q => rw [e] at cq; exact absurd (nI_pos' (by have := hG x m q e; omega)) cq
  refine g_run 4 rfl ?_
  exact loop ct 0 h0 (by omega) hv
end Weights
