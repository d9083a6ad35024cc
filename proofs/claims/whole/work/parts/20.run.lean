/-! Levy.run, Levy.lost -/
/-- who is sent, and for whom, by the first i of a row -/
def rns (n T : Nat) (r sn W A C : Nat → Nat) : Nat → Nat × (Nat → Option Nat)
  | 0 => (0, fun _ => none)
  | i + 1 => if T.testBit (r i) then
      (match chn (okn (T ||| (rns n T r sn W A C i).1) sn A (C (r i)) (W (r i))) A n with
        | none => (rns n T r sn W A C i).1
        | some q => (rns n T r sn W A C i).1 ||| 2 ^ q, va_up (rns n T r sn W A C i).2 (r i) (chn (okn (T ||| (rns n T r sn W A C i).1) sn A (C (r i)) (W (r i))) A n))
    else rns n T r sn W A C i
theorem or64 : ∀ a, a < 64 → ∀ b, b < 64 → a ||| b < 64 ∧ nI a ||| nI b = nI (a ||| b) := by decide +kernel
theorem rns_lt {n T : Nat} {r sn W A C : Nat → Nat} (hn : n ≤ 6) : ∀ i, (rns n T r sn W A C i).1 < 64
  | 0 => Nat.le_of_ble_eq_true rfl
  | i + 1 => by
    have ih := rns_lt (T := T) (r := r) (sn := sn) (W := W) (A := A) (C := C) hn i
    rw [rns]
    split
    · show (match chn (okn (T ||| (rns n T r sn W A C i).1) sn A (C (r i)) (W (r i))) A n with
        | none => (rns n T r sn W A C i).1
        | some q => (rns n T r sn W A C i).1 ||| 2 ^ q) < 64
      cases hc : chn (okn (T ||| (rns n T r sn W A C i).1) sn A (C (r i)) (W (r i))) A n with
      | none => exact ih
      | some q => exact bt_lt _ ih _ (by have := (chn_ok hc).1; omega)
    · exact ih
theorem snd_nn {o : Option Nat} (h : ∀ q, o = some q → q < 6) : (snd o < 0 ↔ o = none) := by
  cases o with
  | none => exact ⟨fun _ => rfl, fun _ => by decide⟩
  | some q => exact ⟨fun z => absurd z (nI_pos (by have := h q rfl; omega)), fun z => by cases z⟩
abbrev wrn (L b c ro n t : Nat) (tb sb cl kn sp hd hi er sh wn s1 s2 s3 s4 : Int32) (sn kin r W A C : Nat → Nat) (g : Nat → Option Nat) : mj_W := [(L, .inr (4, lob L tb sb cl)), (b, .inr (1, dob b (nI t) (nI n) kn sp hd hi er sh wn)), (c, .inr (5, nob c s1 s2 s3 s4)), (c + 1, an sn), (b + 5, an kin), (ro, an r), (b + 2, an W), (b + 4, an A), (c + 2, an C), (L + 1, sq g)]
section Run
variable (sta : mj_S) (d L b c ro n t lw : Nat) (kn sp hd hi er sh wn s1 s2 s3 s4 : Int32) (sn kin r W A C : Nat → Nat)
theorem l_run2 {h0 : mj_H} {T cl : Nat} (hT : T < 64) (hcl : cl ≤ 6) (hn : n ≤ 6) (hW : bd 1000 W) (hA : bd 1000 A) (hsn : bd 4 sn) (hC : bd 1000 C) (hr : bd 6 r) :
    ∀ j k h o1 o2, k + j = cl → mj_Vw h0 (wrn L b c ro n t (nI T) (nI (rns n T r sn W A C k).1) (nI cl) kn sp hd hi er sh wn s1 s2 s3 s4 sn kin r W A C (rns n T r sn W A C k).2) h → mj_go sta (mj_Cl sta (d + 2)) m_X4_run (mj_rx m_X4_run h0 [L, b, c, c + 1, b + 5, ro, b + 2, b + 4, c + 2, L + 1] (fun v w => v = none ∧ w = wrn L b c ro n t (nI T) (nI (rns n T r sn W A C cl).1) (nI cl) kn sp hd hi er sh wn s1 s2 s3 s4 sn kin r W A C (rns n T r sn W A C cl).2)) 42
      [some (.ref L), some (.ref b), some (.ref c), some (.int (nI lw)), some (.ref ro), some (.int (nI k)), o1, o2] [] h := by
  intro j
  induction j with
  | zero =>
    intro k h o1 o2 hk hv
    have hk : k = cl := by omega
    subst hk
    repeat (first | refine g_px rfl rfl rfl ?_ | refine g_get hv 0 rfl rfl rfl rfl ?_ | refine g_get hv 1 rfl rfl rfl rfl ?_ | refine g_get hv 2 rfl rfl rfl rfl ?_ | refine g_get hv 3 rfl rfl rfl rfl ?_ | refine g_get hv 4 rfl rfl rfl rfl ?_ | refine g_get hv 5 rfl rfl rfl rfl ?_ | refine g_get hv 6 rfl rfl rfl rfl ?_ | refine g_get hv 7 rfl rfl rfl rfl ?_ | refine g_get hv 8 rfl rfl rfl rfl ?_ | refine g_get hv 9 rfl rfl rfl rfl ?_)
    refine g_ic rfl (fun cq => ?_) (fun cq => absurd (nI_le (Nat.le_refl k) (by omega)) cq)
    exact g_vret hv rfl rfl rfl ⟨rfl, rfl⟩
  | succ j ih =>
    intro k h o1 o2 hk hv
    have hkn : k < cl := by omega
    have hk6 : k < 6 := by omega
    have hm : r k < 6 := hr k
    have b1 := rns_lt (T := T) (r := r) (sn := sn) (W := W) (A := A) (C := C) hn k
    have hbit := bt_get T hT (r k) hm
    have hor := or64 T hT _ b1
    repeat (first | refine g_px rfl rfl rfl ?_ | refine g_get hv 0 rfl rfl rfl rfl ?_ | refine g_get hv 1 rfl rfl rfl rfl ?_ | refine g_get hv 2 rfl rfl rfl rfl ?_ | refine g_get hv 3 rfl rfl rfl rfl ?_ | refine g_get hv 4 rfl rfl rfl rfl ?_ | refine g_get hv 5 rfl rfl rfl rfl ?_ | refine g_get hv 6 rfl rfl rfl rfl ?_ | refine g_get hv 7 rfl rfl rfl rfl ?_ | refine g_get hv 8 rfl rfl rfl rfl ?_ | refine g_get hv 9 rfl rfl rfl rfl ?_)
    refine g_ic rfl (fun cq => absurd cq (nI_ge hkn (by omega))) (fun cq => ?_)
    repeat (first | refine g_px rfl rfl rfl ?_ | refine g_get hv 0 rfl rfl rfl rfl ?_ | refine g_get hv 1 rfl rfl rfl rfl ?_ | refine g_get hv 2 rfl rfl rfl rfl ?_ | refine g_get hv 3 rfl rfl rfl rfl ?_ | refine g_get hv 4 rfl rfl rfl rfl ?_ | refine g_get hv 5 rfl rfl rfl rfl ?_ | refine g_get hv 6 rfl rfl rfl rfl ?_ | refine g_get hv 7 rfl rfl rfl rfl ?_ | refine g_get hv 8 rfl rfl rfl rfl ?_ | refine g_get hv 9 rfl rfl rfl rfl ?_)
    refine g_n6 hv 5 hk6 rfl rfl ?_
    repeat (first | refine g_px rfl rfl rfl ?_ | refine g_get hv 0 rfl rfl rfl rfl ?_ | refine g_get hv 1 rfl rfl rfl rfl ?_ | refine g_get hv 2 rfl rfl rfl rfl ?_ | refine g_get hv 3 rfl rfl rfl rfl ?_ | refine g_get hv 4 rfl rfl rfl rfl ?_ | refine g_get hv 5 rfl rfl rfl rfl ?_ | refine g_get hv 6 rfl rfl rfl rfl ?_ | refine g_get hv 7 rfl rfl rfl rfl ?_ | refine g_get hv 8 rfl rfl rfl rfl ?_ | refine g_get hv 9 rfl rfl rfl rfl ?_)
    have next : ∀ h o1 o2, mj_Vw h0 (wrn L b c ro n t (nI T) (nI (rns n T r sn W A C (k + 1)).1) (nI cl) kn sp hd hi er sh wn s1 s2 s3 s4 sn kin r W A C (rns n T r sn W A C (k + 1)).2) h → mj_go sta (mj_Cl sta (d + 2)) m_X4_run (mj_rx m_X4_run h0 [L, b, c, c + 1, b + 5, ro, b + 2, b + 4, c + 2, L + 1] (fun v w => v = none ∧ w = wrn L b c ro n t (nI T) (nI (rns n T r sn W A C cl).1) (nI cl) kn sp hd hi er sh wn s1 s2 s3 s4 sn kin r W A C (rns n T r sn W A C cl).2)) 117
      [some (.ref L), some (.ref b), some (.ref c), some (.int (nI lw)), some (.ref ro), some (.int (nI k)), o1, o2] [] h := by
      intro h o1 o2 hv
      refine g_run 2 rfl ?_
      have := ih (k + 1) h o1 o2 (by omega) hv
      rw [nI_succ] at this
      exact this
    refine g_ic rfl (fun cq => ?_) (fun cq => ?_)
    · have cq : ¬ ((nI T >>> (nI (r k) &&& 31)) &&& 1) = 1 := cq
      have ht : T.testBit (r k) = false := by
        cases q : T.testBit (r k) with
        | false => rfl
        | true => rw [hbit, q] at cq; exact absurd rfl cq
      refine next h _ _ ?_
      rw [rns, ht]
      exact hv
    · have cq : ¬ ¬ ((nI T >>> (nI (r k) &&& 31)) &&& 1) = 1 := cq
      have ht : T.testBit (r k) = true := by
        cases q : T.testBit (r k) with
        | true => rfl
        | false => rw [hbit, q] at cq; exact absurd (by decide) cq
      repeat (first | refine g_px rfl rfl rfl ?_ | refine g_get hv 0 rfl rfl rfl rfl ?_ | refine g_get hv 1 rfl rfl rfl rfl ?_ | refine g_get hv 2 rfl rfl rfl rfl ?_ | refine g_get hv 3 rfl rfl rfl rfl ?_ | refine g_get hv 4 rfl rfl rfl rfl ?_ | refine g_get hv 5 rfl rfl rfl rfl ?_ | refine g_get hv 6 rfl rfl rfl rfl ?_ | refine g_get hv 7 rfl rfl rfl rfl ?_ | refine g_get hv 8 rfl rfl rfl rfl ?_ | refine g_get hv 9 rfl rfl rfl rfl ?_)
      rw [hor.2]
      refine g_callV hv [1, 2, 6, 7, 3, 8] 0 rfl rfl rfl rfl rfl rfl rfl rfl (by decide) (s_cheapest sta d L b c n (r k) (T ||| (rns n T r sn W A C k).1) _ kn sp hd hi er sh wn s1 s2 s3 s4 W A sn C hn hm hor.1 hW hA hsn hC) (fun v w' h hp hk hv => ?_)
      obtain ⟨rfl, rfl⟩ := hp
      generalize ho : chn (okn (T ||| (rns n T r sn W A C k).1) sn A (C (r k)) (W (r k))) A n = o at hv ⊢
      have hv : mj_Vw h0 (wrn L b c ro n t (nI T) (nI (rns n T r sn W A C k).1) (nI cl) kn sp hd hi er sh wn s1 s2 s3 s4 sn kin r W A C (rns n T r sn W A C k).2) h := hv
      repeat (first | refine g_px rfl rfl rfl ?_ | refine g_get hv 0 rfl rfl rfl rfl ?_ | refine g_get hv 1 rfl rfl rfl rfl ?_ | refine g_get hv 2 rfl rfl rfl rfl ?_ | refine g_get hv 3 rfl rfl rfl rfl ?_ | refine g_get hv 4 rfl rfl rfl rfl ?_ | refine g_get hv 5 rfl rfl rfl rfl ?_ | refine g_get hv 6 rfl rfl rfl rfl ?_ | refine g_get hv 7 rfl rfl rfl rfl ?_ | refine g_get hv 8 rfl rfl rfl rfl ?_ | refine g_get hv 9 rfl rfl rfl rfl ?_)
      refine g_iast hv 9 rfl rfl (vp6 hm) (fun h hv => ?_)
      rw [cl6 hm, upd_s hm] at hv
      have hv : mj_Vw h0 (wrn L b c ro n t (nI T) (nI (rns n T r sn W A C k).1) (nI cl) kn sp hd hi er sh wn s1 s2 s3 s4 sn kin r W A C (va_up (rns n T r sn W A C k).2 (r k) o)) h := hv
      repeat (first | refine g_px rfl rfl rfl ?_ | refine g_get hv 0 rfl rfl rfl rfl ?_ | refine g_get hv 1 rfl rfl rfl rfl ?_ | refine g_get hv 2 rfl rfl rfl rfl ?_ | refine g_get hv 3 rfl rfl rfl rfl ?_ | refine g_get hv 4 rfl rfl rfl rfl ?_ | refine g_get hv 5 rfl rfl rfl rfl ?_ | refine g_get hv 6 rfl rfl rfl rfl ?_ | refine g_get hv 7 rfl rfl rfl rfl ?_ | refine g_get hv 8 rfl rfl rfl rfl ?_ | refine g_get hv 9 rfl rfl rfl rfl ?_)
      have ho6 : ∀ q, o = some q → q < 6 := fun q hq => by have := (chn_ok (ho.trans hq)).1; omega
      refine g_if rfl (fun cq => ?_) (fun cq => ?_)
      · have e : o = none := (snd_nn ho6).mp cq
        subst e
        refine next h _ _ ?_
        rw [rns, if_pos ht, ho]
        exact hv
      · cases o with
        | none => exact absurd (show snd none < 0 by decide) cq
        | some q =>
          have hq := ho6 q rfl
          repeat (first | refine g_px rfl rfl rfl ?_ | refine g_get hv 0 rfl rfl rfl rfl ?_ | refine g_get hv 1 rfl rfl rfl rfl ?_ | refine g_get hv 2 rfl rfl rfl rfl ?_ | refine g_get hv 3 rfl rfl rfl rfl ?_ | refine g_get hv 4 rfl rfl rfl rfl ?_ | refine g_get hv 5 rfl rfl rfl rfl ?_ | refine g_get hv 6 rfl rfl rfl rfl ?_ | refine g_get hv 7 rfl rfl rfl rfl ?_ | refine g_get hv 8 rfl rfl rfl rfl ?_ | refine g_get hv 9 rfl rfl rfl rfl ?_)
          refine g_put hv 0 rfl rfl rfl rfl rfl rfl (fun h hv => ?_)
          refine next h _ _ ?_
          rw [rns, if_pos ht, ho]
          have hv : mj_Vw h0 (wrn L b c ro n t (nI T) (nI (rns n T r sn W A C k).1 ||| ((1 : Int32) <<< (nI q &&& 31))) (nI cl) kn sp hd hi er sh wn s1 s2 s3 s4 sn kin r W A C (va_up (rns n T r sn W A C k).2 (r k) (some q))) h := hv
          rw [bt_set _ b1 _ hq] at hv
          exact hv
theorem cld_le {t : Nat} {r sn kn : Nat → Nat} {lw : Nat} : ∀ j k, cld t r sn kn lw j k ≤ k + j
  | 0, k => Nat.le_refl _
  | j + 1, k => by
    rw [cld]
    split
    · have := cld_le (t := t) (r := r) (sn := sn) (kn := kn) (lw := lw) j (k + 1); omega
    · omega
theorem l_run1 {h0 : mj_H} {T cl : Nat} (hT : T < 64) (hcl : cl ≤ 6) (hn : n ≤ 6) (hW : bd 1000 W) (hA : bd 1000 A) (hsn : bd 4 sn) (hC : bd 1000 C) (hr : bd 6 r) :
    ∀ j k h g, k + j = 6 → (∀ i, i < k → g i = none) → mj_Vw h0 (wrn L b c ro n t (nI T) (nI 0) (nI cl) kn sp hd hi er sh wn s1 s2 s3 s4 sn kin r W A C g) h → mj_go sta (mj_Cl sta (d + 2)) m_X4_run (mj_rx m_X4_run h0 [L, b, c, c + 1, b + 5, ro, b + 2, b + 4, c + 2, L + 1] (fun v w => v = none ∧ w = wrn L b c ro n t (nI T) (nI (rns n T r sn W A C cl).1) (nI cl) kn sp hd hi er sh wn s1 s2 s3 s4 sn kin r W A C (rns n T r sn W A C cl).2)) 17
      [some (.ref L), some (.ref b), some (.ref c), some (.int (nI lw)), some (.ref ro), some (.int (nI k)), none, none] [] h := by
  intro j
  induction j with
  | zero =>
    intro k h g hk hg hv
    have hk : k = 6 := by omega
    subst hk
    repeat (first | refine g_px rfl rfl rfl ?_ | refine g_get hv 0 rfl rfl rfl rfl ?_ | refine g_get hv 1 rfl rfl rfl rfl ?_ | refine g_get hv 2 rfl rfl rfl rfl ?_ | refine g_get hv 3 rfl rfl rfl rfl ?_ | refine g_get hv 4 rfl rfl rfl rfl ?_ | refine g_get hv 5 rfl rfl rfl rfl ?_ | refine g_get hv 6 rfl rfl rfl rfl ?_ | refine g_get hv 7 rfl rfl rfl rfl ?_ | refine g_get hv 8 rfl rfl rfl rfl ?_ | refine g_get hv 9 rfl rfl rfl rfl ?_)
    refine g_ic rfl (fun cq => ?_) (fun cq => absurd (show (Int8.ofInt 6).toInt32 ≤ nI 6 by decide) cq)
    refine g_run 2 rfl ?_
    have hv : mj_Vw h0 (wrn L b c ro n t (nI T) (nI 0) (nI cl) kn sp hd hi er sh wn s1 s2 s3 s4 sn kin r W A C (fun _ => none)) h := by
      have e := sq_congr (g := g) (g' := fun _ => none) (fun i hi => hg i hi)
      unfold wrn sq at hv ⊢
      rw [e] at hv
      exact hv
    exact l_run2 sta d L b c ro n t lw kn sp hd hi er sh wn s1 s2 s3 s4 sn kin r W A C hT (by omega) hn hW hA hsn hC hr cl 0 h none none (by omega) hv
  | succ j ih =>
    intro k h g hk hg hv
    have hk6 : k < 6 := by omega
    repeat (first | refine g_px rfl rfl rfl ?_ | refine g_get hv 0 rfl rfl rfl rfl ?_ | refine g_get hv 1 rfl rfl rfl rfl ?_ | refine g_get hv 2 rfl rfl rfl rfl ?_ | refine g_get hv 3 rfl rfl rfl rfl ?_ | refine g_get hv 4 rfl rfl rfl rfl ?_ | refine g_get hv 5 rfl rfl rfl rfl ?_ | refine g_get hv 6 rfl rfl rfl rfl ?_ | refine g_get hv 7 rfl rfl rfl rfl ?_ | refine g_get hv 8 rfl rfl rfl rfl ?_ | refine g_get hv 9 rfl rfl rfl rfl ?_)
    refine g_ic rfl (fun cq => absurd cq (nI_ge (a := k) (b := 6) hk6 (by decide))) (fun cq => ?_)
    repeat (first | refine g_px rfl rfl rfl ?_ | refine g_get hv 0 rfl rfl rfl rfl ?_ | refine g_get hv 1 rfl rfl rfl rfl ?_ | refine g_get hv 2 rfl rfl rfl rfl ?_ | refine g_get hv 3 rfl rfl rfl rfl ?_ | refine g_get hv 4 rfl rfl rfl rfl ?_ | refine g_get hv 5 rfl rfl rfl rfl ?_ | refine g_get hv 6 rfl rfl rfl rfl ?_ | refine g_get hv 7 rfl rfl rfl rfl ?_ | refine g_get hv 8 rfl rfl rfl rfl ?_ | refine g_get hv 9 rfl rfl rfl rfl ?_)
    refine g_iast hv 9 rfl rfl (vp6 hk6) (fun h hv => ?_)
    rw [cl6 hk6, show (Int8.ofInt (-2)).toInt32 = snd none from rfl, upd_s hk6] at hv
    refine g_run 2 rfl ?_
    have := ih (k + 1) h (va_up g k none) (by omega) (fun i hi => by
      unfold va_up
      split
      · rfl
      · exact hg i (by omega)) hv
    rw [nI_succ] at this
    exact this
theorem s_run (tb sb cl : Int32) (g : Nat → Option Nat) (hn : n ≤ 6) (ht : t ≤ 6) (hlw : lw < 16) (hW : bd 1000 W) (hA : bd 1000 A) (hsn : bd 4 sn) (hC : bd 1000 C) (hkin : bd 64 kin) (hr : bd 6 r) :
    mj_Sx sta (d + 3) 29 [.ref L, .ref b, .ref c, .int (nI lw), .ref ro] (wrn L b c ro n t tb sb cl kn sp hd hi er sh wn s1 s2 s3 s4 sn kin r W A C g)
    (fun v w => v = none ∧ w = wrn L b c ro n t (nI (cms t r sn kin lw n).1) (nI (rns n (cms t r sn kin lw n).1 r sn W A C (cld t r sn kin lw n 0)).1) (nI (cld t r sn kin lw n 0)) kn sp hd hi er sh wn s1 s2 s3 s4 sn kin r W A C (rns n (cms t r sn kin lw n).1 r sn W A C (cld t r sn kin lw n 0)).2) := by
  refine mj_Sx.mk m_X4_run (by decide) n_X4_run rfl (fun h hv => ?_)
  repeat (first | refine g_px rfl rfl rfl ?_ | refine g_get hv 0 rfl rfl rfl rfl ?_ | refine g_get hv 1 rfl rfl rfl rfl ?_ | refine g_get hv 2 rfl rfl rfl rfl ?_ | refine g_get hv 3 rfl rfl rfl rfl ?_ | refine g_get hv 4 rfl rfl rfl rfl ?_ | refine g_get hv 5 rfl rfl rfl rfl ?_ | refine g_get hv 6 rfl rfl rfl rfl ?_ | refine g_get hv 7 rfl rfl rfl rfl ?_ | refine g_get hv 8 rfl rfl rfl rfl ?_ | refine g_get hv 9 rfl rfl rfl rfl ?_)
  refine g_callV hv [0, 1, 2, 3, 4, 5] 0 rfl rfl rfl rfl rfl rfl rfl rfl (by decide) (s_callMen sta (d + 1) L b c ro n t lw sb kn sp hd hi er sh wn s1 s2 s3 s4 sn kin r tb cl hn ht hlw hsn hkin hr) (fun v w' h hp hk hv => ?_)
  obtain ⟨rfl, rfl⟩ := hp
  generalize hT : (cms t r sn kin lw n).1 = T at hv ⊢
  have hT64 : T < 64 := by rw [← hT]; exact (cms_lt hr n).1
  have hcl := cld_le (t := t) (r := r) (sn := sn) (kn := kin) (lw := lw) n 0
  generalize cld t r sn kin lw n 0 = cl' at hv hcl ⊢
  repeat (first | refine g_px rfl rfl rfl ?_ | refine g_get hv 0 rfl rfl rfl rfl ?_ | refine g_get hv 1 rfl rfl rfl rfl ?_ | refine g_get hv 2 rfl rfl rfl rfl ?_ | refine g_get hv 3 rfl rfl rfl rfl ?_ | refine g_get hv 4 rfl rfl rfl rfl ?_ | refine g_get hv 5 rfl rfl rfl rfl ?_ | refine g_get hv 6 rfl rfl rfl rfl ?_ | refine g_get hv 7 rfl rfl rfl rfl ?_ | refine g_get hv 8 rfl rfl rfl rfl ?_ | refine g_get hv 9 rfl rfl rfl rfl ?_)
  refine g_put hv 0 rfl rfl rfl rfl rfl rfl (fun h hv => ?_)
  have hv : mj_Vw _ (wrn L b c ro n t (nI T) (nI 0) (nI cl') kn sp hd hi er sh wn s1 s2 s3 s4 sn kin r W A C g) h := hv
  refine g_run 2 rfl ?_
  exact l_run1 sta d L b c ro n t lw kn sp hd hi er sh wn s1 s2 s3 s4 sn kin r W A C hT64 (by omega) hn hW hA hsn hC hr 6 0 h g (by omega) (fun i hi => by omega) hv
end Run
/-- what a man loses -/
def los (T : Nat) (g : Nat → Option Nat) (W A : Nat → Nat) (m : Nat) : Nat := if T.testBit m then (match g m with
  | none => W m
  | some q => A q) else 0
theorem sq_at {g : Nat → Option Nat} {k : Nat} (hk : k < 6) : (fun i => if i < 6 then snd (g i) else (0 : Int32)) k = snd (g k) := if_pos hk
theorem s_lost (sta : mj_S) (d L b m T : Nat) (sb cl tk mn kn sp hd hi er sh wn : Int32) (g : Nat → Option Nat) (W A : Nat → Nat) (hm : m < 6) (hT : T < 64) (hg : ∀ q, g m = some q → q < 6) :
    mj_Sx sta (d + 1) 32 [.ref L, .ref b, .int (nI m)] [(L, .inr (4, lob L (nI T) sb cl)), (L + 1, sq g), (b, .inr (1, dob b tk mn kn sp hd hi er sh wn)), (b + 2, an W), (b + 4, an A)]
    (fun v w => v = some (.int (nI (los T g W A m))) ∧ w = [(L, .inr (4, lob L (nI T) sb cl)), (L + 1, sq g), (b, .inr (1, dob b tk mn kn sp hd hi er sh wn)), (b + 2, an W), (b + 4, an A)]) := by
  refine mj_Sx.mk m_X4_lost (by decide) n_X4_lost rfl (fun h hv => ?_)
  have hbit := bt_get T hT m hm
  repeat (first | refine g_px rfl rfl rfl ?_ | refine g_get hv 0 rfl rfl rfl rfl ?_ | refine g_get hv 1 rfl rfl rfl rfl ?_ | refine g_get hv 2 rfl rfl rfl rfl ?_ | refine g_get hv 3 rfl rfl rfl rfl ?_ | refine g_get hv 4 rfl rfl rfl rfl ?_)
  refine g_if rfl (fun cq => ?_) (fun cq => ?_)
  · have cq : ¬ ((nI T >>> (nI m &&& 31)) &&& 1) = 0 := cq
    have ht : T.testBit m = true := by
      cases q : T.testBit m with
      | true => rfl
      | false => rw [hbit, q] at cq; exact absurd rfl cq
    repeat (first | refine g_px rfl rfl rfl ?_ | refine g_get hv 0 rfl rfl rfl rfl ?_ | refine g_get hv 1 rfl rfl rfl rfl ?_ | refine g_get hv 2 rfl rfl rfl rfl ?_ | refine g_get hv 3 rfl rfl rfl rfl ?_ | refine g_get hv 4 rfl rfl rfl rfl ?_)
    refine g_iald hv 1 rfl rfl (vp6 hm) ?_
    rw [cl6 hm, if_pos hm]
    refine g_if rfl (fun cq => ?_) (fun cq => ?_)
    · have cq : 0 ≤ snd (g m) := cq
      cases e : g m with
      | none => rw [e] at cq; exact absurd cq (by decide)
      | some q =>
        have hq := hg q e
        repeat (first | refine g_px rfl rfl rfl ?_ | refine g_get hv 0 rfl rfl rfl rfl ?_ | refine g_get hv 1 rfl rfl rfl rfl ?_ | refine g_get hv 2 rfl rfl rfl rfl ?_ | refine g_get hv 3 rfl rfl rfl rfl ?_ | refine g_get hv 4 rfl rfl rfl rfl ?_)
        refine g_iald hv 1 rfl rfl (vp6 hm) ?_
        rw [cl6 hm, if_pos hm, e]
        refine g_n6 hv 4 hq rfl rfl ?_
        refine g_iret hv rfl rfl rfl rfl ⟨?_, rfl⟩
        rw [los, if_pos ht, e]
    · have cq : ¬ 0 ≤ snd (g m) := cq
      have e : g m = none := by
        cases e : g m with
        | none => rfl
        | some q => rw [e] at cq; exact absurd (nI_pos' (by have := hg q e; omega)) cq
      repeat (first | refine g_px rfl rfl rfl ?_ | refine g_get hv 0 rfl rfl rfl rfl ?_ | refine g_get hv 1 rfl rfl rfl rfl ?_ | refine g_get hv 2 rfl rfl rfl rfl ?_ | refine g_get hv 3 rfl rfl rfl rfl ?_ | refine g_get hv 4 rfl rfl rfl rfl ?_)
      refine g_n6 hv 3 hm rfl rfl ?_
      repeat (first | refine g_px rfl rfl rfl ?_ | refine g_get hv 0 rfl rfl rfl rfl ?_ | refine g_get hv 1 rfl rfl rfl rfl ?_ | refine g_get hv 2 rfl rfl rfl rfl ?_ | refine g_get hv 3 rfl rfl rfl rfl ?_ | refine g_get hv 4 rfl rfl rfl rfl ?_)
      refine g_iret hv rfl rfl rfl rfl ⟨?_, rfl⟩
      rw [los, if_pos ht, e]
  · have cq : ¬ ¬ ((nI T >>> (nI m &&& 31)) &&& 1) = 0 := cq
    have ht : T.testBit m = false := by
      cases q : T.testBit m with
      | false => rfl
      | true => rw [hbit, q] at cq; exact absurd (by decide) cq
    repeat (first | refine g_px rfl rfl rfl ?_ | refine g_get hv 0 rfl rfl rfl rfl ?_ | refine g_get hv 1 rfl rfl rfl rfl ?_ | refine g_get hv 2 rfl rfl rfl rfl ?_ | refine g_get hv 3 rfl rfl rfl rfl ?_ | refine g_get hv 4 rfl rfl rfl rfl ?_)
    refine g_iret hv rfl rfl rfl rfl ⟨?_, rfl⟩
    rw [los, ht]
    rfl
