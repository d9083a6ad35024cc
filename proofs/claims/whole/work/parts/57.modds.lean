/-! the reference: odds by all rows -/
def pto (D : Nat → Nat) (MA : Nat → Nat → Nat) (lw : Nat) (sn C : Nat → Nat) (φ : Nat → (Nat → Option Nat) → Nat) (p : Nat) : Nat := fb_sm (fun j => φ (qT D MA lw sn (lx (D 1) j)) (qG D MA lw sn C (lx (D 1) j))) p
theorem pto_s {D : Nat → Nat} {MA : Nat → Nat → Nat} {lw : Nat} {sn C : Nat → Nat} {φ : Nat → (Nat → Option Nat) → Nat} {p : Nat} : pto D MA lw sn C φ (p + 1) = pto D MA lw sn C φ p + φ (qT D MA lw sn (lx (D 1) p)) (qG D MA lw sn C (lx (D 1) p)) := fb_sm_succ _ _
section Cg2
variable {n T : Nat} {r r' sn W A C : Nat → Nat}
theorem rns_ag (h : ag n r r') (hr : ∀ i, i < n → r i < n) : ∀ k, k ≤ n → rns n T r sn W A C k = rns n T r' sn W A C k := fun k hk => rns_cg (n := n) (fun m _ => ⟨rfl, rfl, rfl, rfl⟩) k (fun i hi => ⟨h i (by omega), hr i (by omega)⟩)
theorem rnf_ag (h : ag n r r') (hr : ∀ i, i < n → r i < n) : ∀ k, k ≤ n → rnf n T r sn W A C k = rnf n T r' sn W A C k
  | 0, _ => rfl
  | k + 1, hk => by
    rw [rnf, rnf, rnf_ag h hr k (by omega), rns_ag h hr k (by omega), h k (by omega)]
theorem los_mix {g G : Nat → Option Nat} {m : Nat} (hm : m < n) : los T (mix n g G) W A m = los T G W A m := by
  unfold los
  rw [show mix n g G m = G m from if_pos hm]
theorem gmg_mix {S : Nat} {g G : Nat → Option Nat} : ∀ k, k ≤ n → gmg S T (mix n g G) k = gmg S T G k
  | 0, _ => rfl
  | k + 1, hk => by rw [gmg, gmg, gmg_mix k (by omega), show mix n g G k = G k from if_pos (by omega)]
theorem gmg_bit {S : Nat} {g : Nat → Option Nat} (m : Nat) : ∀ k, (gmg S T g k).testBit m = (S.testBit m || (decide (m < k) && (T.testBit m && (g m).isNone)))
  | 0 => by simp [gmg]
  | k + 1 => by
    rw [gmg]
    have ih := gmg_bit (S := S) (g := g) m k
    split
    · rename_i h
      rw [fb_bit_set, ih]
      by_cases hmk : m = k
      · subst hmk; simp [h]
      · simp [hmk, show (m < k + 1) = (m < k) by rw [eq_iff_iff]; omega]
    · rename_i h
      rw [ih]
      by_cases hmk : m = k
      · subst hmk
        have h : (T.testBit m && (g m).isNone) = false := by
          cases hq : (T.testBit m && (g m).isNone) with
          | false => rfl
          | true => exact absurd hq h
        simp [h]
      · simp [show (m < k + 1) = (m < k) by rw [eq_iff_iff]; omega]
end Cg2
section Pq
variable {D : Nat → Nat} {MA : Nat → Nat → Nat} {lw : Nat} {sn C r : Nat → Nat}
/-- for whom one is sent, by a row -/
theorem rnf_sdr (hp : prm (D 1) r) (m : Nat) : rnf (D 1) (qT D MA lw sn r) r sn (MA 1) (MA 3) C (D 1) m = sdr (qG D MA lw sn C r) m (D 1) 0 := by
  have h := rnf_iff (T := qT D MA lw sn r) (sn := sn) (W := MA 1) (A := MA 3) (C := C) hp (D 1) (Nat.le_refl _)
  have hg : qG D MA lw sn C r = (rns (D 1) (qT D MA lw sn r) r sn (MA 1) (MA 3) C (D 1)).2 := (rG_n hp).1
  rw [hg]
  refine (sdr_inv (fun a b _ => h.1 a b) (fun b a e => ?_) m).symm
  obtain ⟨i, hi, e2⟩ := h.2.1 a b ((h.1 a b).mpr e)
  rw [← e2]
  exact hp.1 i hi
theorem qS_bit (hp : prm (D 1) r) (m : Nat) : (qS D MA lw sn C r).testBit m = (sdr (qG D MA lw sn C r) m (D 1) 0).isSome := by
  have h := rnf_iff (T := qT D MA lw sn r) (sn := sn) (W := MA 1) (A := MA 3) (C := C) hp (D 1) (Nat.le_refl _)
  have hs : qS D MA lw sn C r = (rns (D 1) (qT D MA lw sn r) r sn (MA 1) (MA 3) C (D 1)).1 := (rG_n hp).2
  rw [hs, h.2.2 m, rnf_sdr hp m]
theorem gmg_gos (hp : prm (D 1) r) {m : Nat} (hm : m < D 1) : (gmg (qS D MA lw sn C r) (qT D MA lw sn r) (qG D MA lw sn C r) (D 1)).testBit m = gos (D 1) (qT D MA lw sn r) (qG D MA lw sn C r) m := by
  rw [gmg_bit, qS_bit hp, decide_eq_true hm, Bool.true_and, gos]
  cases ht : (qT D MA lw sn r).testBit m with
  | false => simp
  | true =>
    have : sdr (qG D MA lw sn C r) m (D 1) 0 = none := by
      cases e : sdr (qG D MA lw sn C r) m (D 1) 0 with
      | none => rfl
      | some x =>
        have := (qG_pay (sdr_at e).2.2).2.2.1
        rw [ht] at this
        cases this
    rw [this]
    simp
theorem qq_ag {r' : Nat → Nat} (h : ag (D 1) r r') (hr : ∀ i, i < D 1 → r i < D 1) : qT D MA lw sn r = qT D MA lw sn r' ∧ qG D MA lw sn C r = qG D MA lw sn C r' ∧ qS D MA lw sn C r = qS D MA lw sn C r' := q_ag h hr
end Pq
theorem g_lad {sta : mj_S} {Cl : mj_R} {M : mj_M} {T : Nat → mj_L → List Value → mj_H → Prop} {pc q len wp : Nat} {lv : mj_L} {r : List Value} {h : mj_H} {raw : Instr} {x y : Nat} {z : Int64} (hz : z = lN y) (he : mj_ent (mj_cd M) pc = some (q, .ladd, len, raw, wp)) (k : mj_go sta Cl M T (q + len) lv (.long (lN (x + y)) :: r) h) : mj_go sta Cl M T pc lv (.long z :: .long (lN x) :: r) h := by
  subst hz
  refine g_nx he rfl ?_
  rw [lN_add]
  exact k
abbrev wo (w : mj_W) (a1 a2 a3 a4 : Nat → Nat) : mj_W := w ++ [(160, aL 6 a1), (161, aL 6 a2), (162, aL 6 a3), (163, aL 36 a4)]
section Mo
variable (sta : mj_S) (d : Nat) (th tr wh : Int32) (q : Nat) (rd : Option Nat) (F : Nat → Int32) (wd : Int64) (ac im lw tk st : Int32) (sh ru : Int64) (rz aw al sd : Int32) (D : Nat → Nat) (hi er se : Int32) (MA : Nat → Nat → Nat) (V : Nat → Int32) (r sn : Nat → Nat) (g f : Nat → Option Nat)
def z6 (n : Nat) (x : Nat → Nat) : Nat → Nat := fun m => if m < n then x m else 0
def z36 (n : Nat) (x : Nat → Nat → Nat) : Nat → Nat := fun y => if y / 6 < n then x (y / 6) (y % 6) else 0
def okG (D : Nat → Nat) (MA : Nat → Nat → Nat) (sn C : Nat → Nat) (L : Nat) : Prop := D 1 ≤ 6 ∧ 1 ≤ D 1 ∧ D 0 ≤ 6 ∧ L < 16 ∧ bd 1000 (MA 1) ∧ bd 1000 (MA 3) ∧ bd 64 (MA 4) ∧ bd 4 sn ∧ bd 1000 C
/-- one row's men are counted -/
theorem l_Modds (a1 a2 a3 : Nat → Nat) (a4 b1 b2 b3 b4 : Nat → Nat) (T0 : Nat → mj_L → List Value → mj_H → Prop) {h0 : mj_H} (cl mu Tj go : Nat) (Gj Fj : Nat → Option Nat) (mr : Int32) (hn : D 1 ≤ 6) (hT6 : Tj < 64) (hgo : go < 64) (hG : ∀ m p, m < D 1 → Gj m = some p → p < 6) (hF : ∀ m p, m < D 1 → Fj m = some p → p < 6)
    (e1 : ∀ m, m < D 1 → b1 m = a1 m + if Tj.testBit m then 1 else 0) (e2 : ∀ m, m < D 1 → b2 m = a2 m + if go.testBit m then 1 else 0) (e3 : ∀ m, m < D 1 → b3 m = a3 m + los Tj Gj (MA 1) (MA 3) m) (e4 : ∀ m, m < D 1 → ∀ s, s < 6 → b4 (6 * m + s) = a4 (6 * m + s) + if Fj m = some s then 1 else 0) (hW : bd 1000 (MA 1)) (hA : bd 1000 (MA 3))
    (k : ∀ h, mj_Vw h0 (wo (wg (mo th tr wh (some q) rd F wd ac im lw (nI Tj) st sh ru rz aw al sd) q D hi er se (MA 1) (MA 3) (MA 4) V r sn Gj Fj) (mix (D 1) a1 b1) (mix (D 1) a2 b2) (mix (D 1) a3 b3) (mix (6 * D 1) a4 b4)) h → mj_go sta (mj_Cl sta (d + 2)) m_X10_odds T0 210 [some (.ref 151), some (.int (nI cl)), some (.int (nI mu)), some (.int mr), some (.int (nI go)), some (.int (nI (D 1)))] [] h) :
    ∀ j m h, m + j = D 1 → mj_Vw h0 (wo (wg (mo th tr wh (some q) rd F wd ac im lw (nI Tj) st sh ru rz aw al sd) q D hi er se (MA 1) (MA 3) (MA 4) V r sn Gj Fj) (mix m a1 b1) (mix m a2 b2) (mix m a3 b3) (mix (6 * m) a4 b4)) h → mj_go sta (mj_Cl sta (d + 2)) m_X10_odds T0 89 [some (.ref 151), some (.int (nI cl)), some (.int (nI mu)), some (.int mr), some (.int (nI go)), some (.int (nI m))] [] h := by
  intro j
  induction j with
  | zero =>
    intro m h hm hv
    have hm : m = D 1 := by omega
    subst hm
    repeat (first | refine g_px rfl rfl rfl ?_ | refine g_get hv 0 rfl rfl rfl rfl ?_ | refine g_get hv 1 rfl rfl rfl rfl ?_)
    refine g_ic rfl (fun cq => ?_) (fun cq => ?_)
    · exact k h hv
    · simp (disch := omega) only [mj_cp, k_6, k_7, k_8, k_9, k_10, k_12, k_15, k_16, k_18, k_20, k_24, k_25, k_26, k_27, k_28, k_32, k_36, k_48, k_57, k_59, k_63, k_74, k_75, k_84, k_90, k_97, k_99, k_100, k_122, k_200, k_255, k_420, k_448, k_720, k_800, k_999, k_bit, k_shl, fa_and, nI_add, bl_1, bl_0, bl_n1, bl_n0, bl_i1, nI_lt0, nI_0le, nI_eq0, nI_eqT, nI_leI, nI_ltI, nI_eq, Nat.not_le, Nat.not_lt, Bool.not_eq_true, Bool.not_eq_false, not_true_eq_false, not_false_eq_true, Decidable.not_not] at cq
      omega
  | succ j ih =>
    intro m h hm hv
    have hm6 : m < 6 := by omega
    have hl := los_lt (T := Tj) (g := Gj) hW hA m
    repeat (first | refine g_px rfl rfl rfl ?_ | refine g_get hv 0 rfl rfl rfl rfl ?_ | refine g_get hv 1 rfl rfl rfl rfl ?_)
    refine g_ic rfl (fun cq => ?_) (fun cq => ?_)
    · simp (disch := omega) only [mj_cp, k_6, k_7, k_8, k_9, k_10, k_12, k_15, k_16, k_18, k_20, k_24, k_25, k_26, k_27, k_28, k_32, k_36, k_48, k_57, k_59, k_63, k_74, k_75, k_84, k_90, k_97, k_99, k_100, k_122, k_200, k_255, k_420, k_448, k_720, k_800, k_999, k_bit, k_shl, fa_and, nI_add, bl_1, bl_0, bl_n1, bl_n0, bl_i1, nI_lt0, nI_0le, nI_eq0, nI_eqT, nI_leI, nI_ltI, nI_eq, Nat.not_le, Nat.not_lt, Bool.not_eq_true, Bool.not_eq_false, not_true_eq_false, not_false_eq_true, Decidable.not_not] at cq
      omega
    · have s4 : ∀ h, mj_Vw h0 (wo (wg (mo th tr wh (some q) rd F wd ac im lw (nI Tj) st sh ru rz aw al sd) q D hi er se (MA 1) (MA 3) (MA 4) V r sn Gj Fj) (mix (m + 1) a1 b1) (mix (m + 1) a2 b2) (mix (m + 1) a3 b3) (mix (6 * (m + 1)) a4 b4)) h → mj_go sta (mj_Cl sta (d + 2)) m_X10_odds T0 204 [some (.ref 151), some (.int (nI cl)), some (.int (nI mu)), some (.int mr), some (.int (nI go)), some (.int (nI m))] [] h := by
        intro h hv
        refine g_run 2 rfl ?_
        have hnx := ih (m + 1) h (by omega) hv
        rw [nI_succ] at hnx
        exact hnx
      have s3 : ∀ h, mj_Vw h0 (wo (wg (mo th tr wh (some q) rd F wd ac im lw (nI Tj) st sh ru rz aw al sd) q D hi er se (MA 1) (MA 3) (MA 4) V r sn Gj Fj) (mix (m + 1) a1 b1) (mix (m + 1) a2 b2) (mix (m + 1) a3 b3) (mix (6 * m) a4 b4)) h → mj_go sta (mj_Cl sta (d + 2)) m_X10_odds T0 170 [some (.ref 151), some (.int (nI cl)), some (.int (nI mu)), some (.int mr), some (.int (nI go)), some (.int (nI m))] [] h := by
        intro h hv
        repeat (first | refine g_px rfl rfl rfl ?_ | refine g_get hv 0 rfl rfl rfl rfl ?_)
        refine g_s6 hv 9 hm6 rfl rfl ?_
        repeat (first | refine g_px rfl rfl rfl ?_)
        cases e : Fj m with
        | none =>
          refine g_ic rfl (fun cq => ?_) (fun cq => absurd rfl cq)
          refine s4 h ?_
          have e5 : mix (6 * (m + 1)) a4 b4 = mix (6 * m) a4 b4 := by
            funext y
            unfold mix
            by_cases h1 : y < 6 * m
            · rw [if_pos h1, if_pos (by omega)]
            · by_cases h2 : y < 6 * (m + 1)
              · rw [if_neg h1, if_pos h2]
                have := e4 m (by omega) (y - 6 * m) (by omega)
                rw [show 6 * m + (y - 6 * m) = y by omega, e] at this
                simpa using this
              · rw [if_neg h1, if_neg h2]
          rw [e5]
          exact hv
        | some s =>
          have hs := hF m s (by omega) e
          refine g_ic rfl (fun cq => absurd cq (fun z => by have := (snd_n2 (o := some s) (fun x hx => by cases hx; omega)).mp z; cases this)) (fun cq => ?_)
          repeat (first | refine g_px rfl rfl rfl ?_ | refine g_get hv 0 rfl rfl rfl rfl ?_)
          refine g_s6 hv 9 hm6 rfl rfl ?_
          rw [e]
          refine g_run 1 rfl ?_
          rw [k_6, pk_mul, show snd (some s) = nI s from rfl, nI_add]
          refine g_run 1 rfl ?_
          refine g_lL (L := 36) hv 13 (k := 6 * m + s) (by omega) (by decide) rfl rfl ?_
          refine g_run 1 rfl ?_
          refine g_lad (y := 1) rfl rfl ?_
          refine g_lLs (L := 36) hv 13 (k := 6 * m + s) (by omega) (by decide) rfl rfl (fun h hv => ?_)
          refine s4 h ?_
          have e5 : va_up (mix (6 * m) a4 b4) (6 * m + s) (mix (6 * m) a4 b4 (6 * m + s) + 1) = mix (6 * (m + 1)) a4 b4 := by
            funext y
            unfold va_up mix
            by_cases h0 : y = 6 * m + s
            · subst h0
              rw [if_pos rfl, if_neg (show ¬ 6 * m + s < 6 * m by omega), if_pos (show 6 * m + s < 6 * (m + 1) by omega), e4 m (by omega) s hs, e, if_pos rfl]
            · rw [if_neg h0]
              by_cases h1 : y < 6 * m
              · rw [if_pos h1, if_pos (by omega)]
              · by_cases h2 : y < 6 * (m + 1)
                · rw [if_neg h1, if_pos h2]
                  have := e4 m (by omega) (y - 6 * m) (by omega)
                  rw [show 6 * m + (y - 6 * m) = y by omega, e, if_neg (fun z => h0 (by have := Option.some.inj z; omega))] at this
                  exact this.symm
                · rw [if_neg h1, if_neg h2]
          rw [e5] at hv
          exact hv
      have s2 : ∀ h, mj_Vw h0 (wo (wg (mo th tr wh (some q) rd F wd ac im lw (nI Tj) st sh ru rz aw al sd) q D hi er se (MA 1) (MA 3) (MA 4) V r sn Gj Fj) (mix (m + 1) a1 b1) (mix (m + 1) a2 b2) (mix m a3 b3) (mix (6 * m) a4 b4)) h → mj_go sta (mj_Cl sta (d + 2)) m_X10_odds T0 153 [some (.ref 151), some (.int (nI cl)), some (.int (nI mu)), some (.int mr), some (.int (nI go)), some (.int (nI m))] [] h := by
        intro h hv
        repeat (first | refine g_px rfl rfl rfl ?_ | refine g_get hv 0 rfl rfl rfl rfl ?_)
        refine g_lL (L := 6) hv 12 (k := m) hm6 (by decide) rfl rfl ?_
        repeat (first | refine g_px rfl rfl rfl ?_)
        refine g_callV hv [0, 1, 2, 3, 8] 0 rfl rfl rfl rfl rfl rfl rfl rfl (by decide) (s_MlossOf sta d th tr wh q rd F wd ac im lw st sh ru rz aw al sd D hi er se (MA 1) (MA 3) Gj Tj m hT6 hm6 (fun p hp => hG m p (by omega) hp)) (fun v w' h hp hk2 hv => ?_)
        obtain ⟨rfl, rfl⟩ := hp
        have hv : mj_Vw h0 (wo (wg (mo th tr wh (some q) rd F wd ac im lw (nI Tj) st sh ru rz aw al sd) q D hi er se (MA 1) (MA 3) (MA 4) V r sn Gj Fj) (mix (m + 1) a1 b1) (mix (m + 1) a2 b2) (mix m a3 b3) (mix (6 * m) a4 b4)) h := hv
        refine g_run 2 rfl ?_
        rw [show mix m a3 b3 m = a3 m from mix_at, add_l (by omega), ← e3 m (by omega)]
        refine g_lLs (L := 6) hv 12 (k := m) hm6 (by decide) rfl rfl (fun h hv => ?_)
        rw [mix_up] at hv
        exact s3 h hv
      have s1 : ∀ h, mj_Vw h0 (wo (wg (mo th tr wh (some q) rd F wd ac im lw (nI Tj) st sh ru rz aw al sd) q D hi er se (MA 1) (MA 3) (MA 4) V r sn Gj Fj) (mix (m + 1) a1 b1) (mix m a2 b2) (mix m a3 b3) (mix (6 * m) a4 b4)) h → mj_go sta (mj_Cl sta (d + 2)) m_X10_odds T0 128 [some (.ref 151), some (.int (nI cl)), some (.int (nI mu)), some (.int mr), some (.int (nI go)), some (.int (nI m))] [] h := by
        intro h hv
        repeat (first | refine g_px rfl rfl rfl ?_ | refine g_get hv 0 rfl rfl rfl rfl ?_)
        refine g_lL (L := 6) hv 11 (k := m) hm6 (by decide) rfl rfl ?_
        repeat (first | refine g_px rfl rfl rfl ?_)
        refine g_callS hv [] rfl rfl rfl rfl rfl rfl rfl (by decide) (s_Mbit sta (d + 1) go m (by omega) (by omega)) (fun v w' h hp hk2 hv => ?_)
        obtain ⟨rfl, rfl⟩ := hp
        have hv : mj_Vw h0 (wo (wg (mo th tr wh (some q) rd F wd ac im lw (nI Tj) st sh ru rz aw al sd) q D hi er se (MA 1) (MA 3) (MA 4) V r sn Gj Fj) (mix (m + 1) a1 b1) (mix m a2 b2) (mix m a3 b3) (mix (6 * m) a4 b4)) h := hv
        have fin : ∀ x h, x = (if go.testBit m then 1 else 0) → mj_Vw h0 (wo (wg (mo th tr wh (some q) rd F wd ac im lw (nI Tj) st sh ru rz aw al sd) q D hi er se (MA 1) (MA 3) (MA 4) V r sn Gj Fj) (mix (m + 1) a1 b1) (mix m a2 b2) (mix m a3 b3) (mix (6 * m) a4 b4)) h → mj_go sta (mj_Cl sta (d + 2)) m_X10_odds T0 151 [some (.ref 151), some (.int (nI cl)), some (.int (nI mu)), some (.int mr), some (.int (nI go)), some (.int (nI m))] [(.long (lN x)), (.long (lN (mix m a2 b2 m))), (.int (nI m)), (.ref 161)] h := by
          intro x h hx hv
          subst hx
          refine g_run 1 rfl ?_
          rw [lN_add, show mix m a2 b2 m = a2 m from mix_at, ← e2 m (by omega)]
          refine g_lLs (L := 6) hv 11 (k := m) hm6 (by decide) rfl rfl (fun h hv => ?_)
          rw [mix_up] at hv
          exact s2 h hv
        refine g_if rfl (fun cq => ?_) (fun cq => ?_)
        · simp (disch := omega) only [mj_cp, k_6, k_7, k_8, k_9, k_10, k_12, k_15, k_16, k_18, k_20, k_24, k_25, k_26, k_27, k_28, k_32, k_36, k_48, k_57, k_59, k_63, k_74, k_75, k_84, k_90, k_97, k_99, k_100, k_122, k_200, k_255, k_420, k_448, k_720, k_800, k_999, k_bit, k_shl, fa_and, nI_add, bl_1, bl_0, bl_n1, bl_n0, bl_i1, nI_lt0, nI_0le, nI_eq0, nI_eqT, nI_leI, nI_ltI, nI_eq, Nat.not_le, Nat.not_lt, Bool.not_eq_true, Bool.not_eq_false, not_true_eq_false, not_false_eq_true, Decidable.not_not] at cq
          refine g_run 1 rfl ?_
          exact fin 0 h (by rw [cq]; rfl) hv
        · simp (disch := omega) only [mj_cp, k_6, k_7, k_8, k_9, k_10, k_12, k_15, k_16, k_18, k_20, k_24, k_25, k_26, k_27, k_28, k_32, k_36, k_48, k_57, k_59, k_63, k_74, k_75, k_84, k_90, k_97, k_99, k_100, k_122, k_200, k_255, k_420, k_448, k_720, k_800, k_999, k_bit, k_shl, fa_and, nI_add, bl_1, bl_0, bl_n1, bl_n0, bl_i1, nI_lt0, nI_0le, nI_eq0, nI_eqT, nI_leI, nI_ltI, nI_eq, Nat.not_le, Nat.not_lt, Bool.not_eq_true, Bool.not_eq_false, not_true_eq_false, not_false_eq_true, Decidable.not_not] at cq
          refine g_run 2 rfl ?_
          exact fin 1 h (by rw [cq]; rfl) hv
      repeat (first | refine g_px rfl rfl rfl ?_ | refine g_get hv 0 rfl rfl rfl rfl ?_)
      refine g_lL (L := 6) hv 10 (k := m) hm6 (by decide) rfl rfl ?_
      repeat (first | refine g_px rfl rfl rfl ?_ | refine g_get hv 0 rfl rfl rfl rfl ?_)
      refine g_callS hv [] rfl rfl rfl rfl rfl rfl rfl (by decide) (s_Mbit sta (d + 1) Tj m (by omega) (by omega)) (fun v w' h hp hk2 hv => ?_)
      obtain ⟨rfl, rfl⟩ := hp
      have hv : mj_Vw h0 (wo (wg (mo th tr wh (some q) rd F wd ac im lw (nI Tj) st sh ru rz aw al sd) q D hi er se (MA 1) (MA 3) (MA 4) V r sn Gj Fj) (mix m a1 b1) (mix m a2 b2) (mix m a3 b3) (mix (6 * m) a4 b4)) h := hv
      have fin : ∀ x h, x = (if Tj.testBit m then 1 else 0) → mj_Vw h0 (wo (wg (mo th tr wh (some q) rd F wd ac im lw (nI Tj) st sh ru rz aw al sd) q D hi er se (MA 1) (MA 3) (MA 4) V r sn Gj Fj) (mix m a1 b1) (mix m a2 b2) (mix m a3 b3) (mix (6 * m) a4 b4)) h → mj_go sta (mj_Cl sta (d + 2)) m_X10_odds T0 126 [some (.ref 151), some (.int (nI cl)), some (.int (nI mu)), some (.int mr), some (.int (nI go)), some (.int (nI m))] [(.long (lN x)), (.long (lN (mix m a1 b1 m))), (.int (nI m)), (.ref 160)] h := by
        intro x h hx hv
        subst hx
        refine g_run 1 rfl ?_
        rw [lN_add, show mix m a1 b1 m = a1 m from mix_at, ← e1 m (by omega)]
        refine g_lLs (L := 6) hv 10 (k := m) hm6 (by decide) rfl rfl (fun h hv => ?_)
        rw [mix_up] at hv
        exact s1 h hv
      refine g_if rfl (fun cq => ?_) (fun cq => ?_)
      · simp (disch := omega) only [mj_cp, k_6, k_7, k_8, k_9, k_10, k_12, k_15, k_16, k_18, k_20, k_24, k_25, k_26, k_27, k_28, k_32, k_36, k_48, k_57, k_59, k_63, k_74, k_75, k_84, k_90, k_97, k_99, k_100, k_122, k_200, k_255, k_420, k_448, k_720, k_800, k_999, k_bit, k_shl, fa_and, nI_add, bl_1, bl_0, bl_n1, bl_n0, bl_i1, nI_lt0, nI_0le, nI_eq0, nI_eqT, nI_leI, nI_ltI, nI_eq, Nat.not_le, Nat.not_lt, Bool.not_eq_true, Bool.not_eq_false, not_true_eq_false, not_false_eq_true, Decidable.not_not] at cq
        refine g_run 1 rfl ?_
        exact fin 0 h (by rw [cq]; rfl) hv
      · simp (disch := omega) only [mj_cp, k_6, k_7, k_8, k_9, k_10, k_12, k_15, k_16, k_18, k_20, k_24, k_25, k_26, k_27, k_28, k_32, k_36, k_48, k_57, k_59, k_63, k_74, k_75, k_84, k_90, k_97, k_99, k_100, k_122, k_200, k_255, k_420, k_448, k_720, k_800, k_999, k_bit, k_shl, fa_and, nI_add, bl_1, bl_0, bl_n1, bl_n0, bl_i1, nI_lt0, nI_0le, nI_eq0, nI_eqT, nI_leI, nI_ltI, nI_eq, Nat.not_le, Nat.not_lt, Bool.not_eq_true, Bool.not_eq_false, not_true_eq_false, not_false_eq_true, Decidable.not_not] at cq
        refine g_run 2 rfl ?_
        exact fin 1 h (by rw [cq]; rfl) hv
/-- the sums behind p rows -/
def o1 (D : Nat → Nat) (MA : Nat → Nat → Nat) (L : Nat) (sn C : Nat → Nat) (p m : Nat) : Nat := pto D MA L sn C (fun T _ => if T.testBit m then 1 else 0) p
def o2 (D : Nat → Nat) (MA : Nat → Nat → Nat) (L : Nat) (sn C : Nat → Nat) (p m : Nat) : Nat := pto D MA L sn C (fun T g => if gos (D 1) T g m then 1 else 0) p
def o3 (D : Nat → Nat) (MA : Nat → Nat → Nat) (L : Nat) (sn C : Nat → Nat) (p m : Nat) : Nat := pto D MA L sn C (fun T g => los T g (MA 1) (MA 3) m) p
def o4 (D : Nat → Nat) (MA : Nat → Nat → Nat) (L : Nat) (sn C : Nat → Nat) (p m s : Nat) : Nat := pto D MA L sn C (fun _ g => if s < D 1 ∧ g s = some m then 1 else 0) p
def o5 (D : Nat → Nat) (MA : Nat → Nat → Nat) (L : Nat) (sn C : Nat → Nat) (p : Nat) : Nat := pto D MA L sn C (fun T _ => if decide (pop T < D 0) then 1 else 0) p
def o6 (D : Nat → Nat) (MA : Nat → Nat → Nat) (L : Nat) (sn C : Nat → Nat) (cl mu p : Nat) : Nat := pto D MA L sn C (fun T g => if decide (mu < fb_sm (lsc cl T g (MA 1) (MA 3)) (D 1)) then 1 else 0) p
theorem z6_mix {n : Nat} {x y : Nat → Nat} (hn : n ≤ 6) : aL 6 (mix n (z6 n x) (z6 n y)) = aL 6 (z6 n y) := by
  have e : mix n (z6 n x) (z6 n y) = z6 n y := by
    funext m
    unfold mix z6
    by_cases h : m < n
    · simp [h]
    · simp [h]
  rw [e]
theorem z36_mix {n : Nat} {x y : Nat → Nat → Nat} : aL 36 (mix (6 * n) (z36 n x) (z36 n y)) = aL 36 (z36 n y) := by
  have e : mix (6 * n) (z36 n x) (z36 n y) = z36 n y := by
    funext m
    unfold mix z36
    by_cases h : m / 6 < n
    · rw [if_pos (by omega)]
    · rw [if_neg (by omega), if_neg h, if_neg h]
  rw [e]
theorem lsc_mix {n cl T : Nat} {W A : Nat → Nat} {g G : Nat → Option Nat} : fb_sm (lsc cl T (mix n g G) W A) n = fb_sm (lsc cl T G W A) n := fb_sm_cong (fun m hm => by unfold lsc; rw [los_mix hm])
theorem s_Modds (L cl mu : Nat) (C : Nat → Nat) (a1 a2 a3 a4 : Nat → Nat) (hV : ∀ i, i < 6 → V (6 + i) = nI (C i)) (hG : okG D MA sn C L) (hcl : cl < 64) (hmu : mu < 1000) :
    mj_Sx sta (d + 4) 212 [.ref 151, (.int (nI cl)), (.int (nI mu))] (wo (wg (mo th tr wh (some q) rd F wd ac im (nI L) tk st sh ru rz aw al sd) q D hi er se (MA 1) (MA 3) (MA 4) V r sn g f) a1 a2 a3 a4) (fun v w => v = none ∧ ∃ tk st r g f, w = wo (wg (mo th tr wh (some q) rd F wd ac im (nI L) tk st (lN (o5 D MA L sn C (fac (D 1)))) (lN (o6 D MA L sn C cl mu (fac (D 1)))) rz aw al sd) q D hi er se (MA 1) (MA 3) (MA 4) V r sn g f) (z6 (D 1) (o1 D MA L sn C (fac (D 1)))) (z6 (D 1) (o2 D MA L sn C (fac (D 1)))) (z6 (D 1) (o3 D MA L sn C (fac (D 1)))) (z36 (D 1) (o4 D MA L sn C (fac (D 1))))) := by
  refine mj_Sx.mk m_X10_odds (by decide) n_X10_odds rfl (fun h0 hv => ?_)
  generalize hT : mj_rx m_X10_odds h0 _ _ = T
  obtain ⟨hn, h1, ht, hL, hW, hA, hK, hsn, hC⟩ := hG
  have loop : ∀ j p h r g f tk st x4 x5, p + j = fac (D 1) → 0 < j → ag (D 1) r (lx (D 1) p) → mj_Vw h0 (wo (wg (mo th tr wh (some q) rd F wd ac im (nI L) tk st (lN (o5 D MA L sn C p)) (lN (o6 D MA L sn C cl mu p)) rz aw al sd) q D hi er se (MA 1) (MA 3) (MA 4) V r sn g f) (z6 (D 1) (o1 D MA L sn C p)) (z6 (D 1) (o2 D MA L sn C p)) (z6 (D 1) (o3 D MA L sn C p)) (z36 (D 1) (o4 D MA L sn C p))) h → mj_go sta (mj_Cl sta (d + 3)) m_X10_odds T 72 [some (.ref 151), some (.int (nI cl)), some (.int (nI mu)), some (.int 1), x4, x5] [] h := by
    intro j
    induction j with
    | zero => intro p h r g f tk st x4 x5 hp h0'; omega
    | succ j ih =>
      intro p h r g f tk st x4 x5 hpj h0' hag hv
      have hpf : p < fac (D 1) := by omega
      have hlx := prm_lx ⟨h1, hn⟩ hpf
      have hpr : prm (D 1) r := prm_ag hlx (fun i hi => (hag i hi).symm)
      have hqq := qq_ag (MA := MA) (lw := L) (sn := sn) (C := C) hag hpr.1
      have hT6 : qT D MA L sn (lx (D 1) p) < 64 := by rw [← hqq.1]; exact cms_lt' hn hpr (D 1) (Nat.le_refl _)
      have hS6 : qS D MA L sn C (lx (D 1) p) < 64 := rns_lt hn _
      have hGok := qG_ok (D := D) (DA := MA) (lw := L) (sn := sn) (C := C) (r := lx (D 1) p) hn
      have hFs := fun m => rnf_sdr (MA := MA) (lw := L) (sn := sn) (C := C) hpr m
      have hgos := fun m hm => gmg_gos (MA := MA) (lw := L) (sn := sn) (C := C) (m := m) hlx hm
      repeat (first | refine g_px rfl rfl rfl ?_)
      refine g_if rfl (fun cq => absurd cq (cpF (by decide))) (fun cq => ?_)
      repeat (first | refine g_px rfl rfl rfl ?_)
      refine g_callV hv [0, 1, 2, 3, 4, 5, 6, 7, 8, 9] 0 rfl rfl rfl rfl rfl rfl rfl rfl (by decide) (s_Mplays sta d th tr wh q rd F wd ac im tk st (lN (o5 D MA L sn C p)) (lN (o6 D MA L sn C cl mu p)) rz aw al sd D hi er se (MA 1) (MA 3) (MA 4) V r sn g f L C hV hpr hn ht hL hW hA hK hsn hC) (fun v w' h hp hk2 hv => ?_)
      obtain ⟨rfl, rfl⟩ := hp
      have eT : rT (D 1) (D 0) L sn (MA 4) r = qT D MA L sn (lx (D 1) p) := hqq.1
      have eG : rG (D 1) (D 0) L sn (MA 4) (MA 1) (MA 3) C r = qG D MA L sn C (lx (D 1) p) := hqq.2.1
      have eS : rS (D 1) (D 0) L sn (MA 4) (MA 1) (MA 3) C r = qS D MA L sn C (lx (D 1) p) := hqq.2.2
      rw [eT, eG, eS] at hv
      generalize hfj : rnf (D 1) (qT D MA L sn (lx (D 1) p)) r sn (MA 1) (MA 3) C (D 1) = fj at hv
      have hfj2 : ∀ m, fj m = sdr (qG D MA L sn C (lx (D 1) p)) m (D 1) 0 := by
        intro m
        rw [← hfj, ← hqq.1, hFs m, hqq.2.1]
      have p1 : ∀ m, o1 D MA L sn C (p + 1) m = o1 D MA L sn C p m + if (qT D MA L sn (lx (D 1) p)).testBit m then 1 else 0 := fun m => pto_s
      have p2 : ∀ m, o2 D MA L sn C (p + 1) m = o2 D MA L sn C p m + if gos (D 1) (qT D MA L sn (lx (D 1) p)) (qG D MA L sn C (lx (D 1) p)) m then 1 else 0 := fun m => pto_s
      have p3 : ∀ m, o3 D MA L sn C (p + 1) m = o3 D MA L sn C p m + los (qT D MA L sn (lx (D 1) p)) (qG D MA L sn C (lx (D 1) p)) (MA 1) (MA 3) m := fun m => pto_s
      have p4 : ∀ m s, o4 D MA L sn C (p + 1) m s = o4 D MA L sn C p m s + if s < D 1 ∧ qG D MA L sn C (lx (D 1) p) s = some m then 1 else 0 := fun m s => pto_s
      have p5 : o5 D MA L sn C (p + 1) = o5 D MA L sn C p + if decide (pop (qT D MA L sn (lx (D 1) p)) < D 0) then 1 else 0 := pto_s
      have p6 : o6 D MA L sn C cl mu (p + 1) = o6 D MA L sn C cl mu p + if decide (mu < fb_sm (lsc cl (qT D MA L sn (lx (D 1) p)) (qG D MA L sn C (lx (D 1) p)) (MA 1) (MA 3)) (D 1)) then 1 else 0 := pto_s
      have hF4 : ∀ m s, fj m = some s ↔ (s < D 1 ∧ qG D MA L sn C (lx (D 1) p) s = some m) := by
        intro m s
        rw [hfj2]
        constructor
        · intro e; have := sdr_at e; exact ⟨by omega, this.2.2⟩
        · rintro ⟨hs, e⟩
          rw [← hqq.2.1] at e ⊢
          rw [← hFs m]
          have hi := rnf_iff (T := qT D MA L sn r) (sn := sn) (W := MA 1) (A := MA 3) (C := C) hpr (D 1) (Nat.le_refl _)
          exact (hi.1 s m).mp (by rw [← show qG D MA L sn C r = (rns (D 1) (qT D MA L sn r) r sn (MA 1) (MA 3) C (D 1)).2 from (rG_n hpr).1]; exact e)
      generalize qT D MA L sn (lx (D 1) p) = Tj at *
      generalize qS D MA L sn C (lx (D 1) p) = Sj at *
      generalize qG D MA L sn C (lx (D 1) p) = Gj at *
      have hv : mj_Vw h0 (wo (wg (mo th tr wh (some q) rd F wd ac im (nI L) (nI Tj) (nI Sj) (lN (o5 D MA L sn C p)) (lN (o6 D MA L sn C cl mu p)) rz aw al sd) q D hi er se (MA 1) (MA 3) (MA 4) V r sn (mix (D 1) g Gj) (mix (D 1) f fj)) (z6 (D 1) (o1 D MA L sn C p)) (z6 (D 1) (o2 D MA L sn C p)) (z6 (D 1) (o3 D MA L sn C p)) (z36 (D 1) (o4 D MA L sn C p))) h := hv
      have hGm : ∀ m x, m < D 1 → mix (D 1) g Gj m = some x → x < 6 := fun m x hm e => by
        rw [show mix (D 1) g Gj m = Gj m from if_pos hm] at e
        exact hGok m x e
      have hFm : ∀ m x, m < D 1 → mix (D 1) f fj m = some x → x < 6 := fun m x hm e => by
        rw [show mix (D 1) f fj m = fj m from if_pos hm, hF4] at e
        omega
      repeat (first | refine g_px rfl rfl rfl ?_)
      refine g_callV hv [0, 1, 8] 0 rfl rfl rfl rfl rfl rfl rfl rfl (by decide) (s_Mgoing sta (d + 1) th tr wh q rd F wd ac im (nI L) (lN (o5 D MA L sn C p)) (lN (o6 D MA L sn C cl mu p)) rz aw al sd D hi er se (mix (D 1) g Gj) Sj Tj hS6 hT6 hn hGm) (fun v w' h hp hk2 hv => ?_)
      obtain ⟨rfl, rfl⟩ := hp
      rw [gmg_mix (D 1) (Nat.le_refl _)]
      have hgo6 := gmg_lt (T := Tj) (g := Gj) hS6 (D 1) hn
      have hv : mj_Vw h0 (wo (wg (mo th tr wh (some q) rd F wd ac im (nI L) (nI Tj) (nI Sj) (lN (o5 D MA L sn C p)) (lN (o6 D MA L sn C cl mu p)) rz aw al sd) q D hi er se (MA 1) (MA 3) (MA 4) V r sn (mix (D 1) g Gj) (mix (D 1) f fj)) (z6 (D 1) (o1 D MA L sn C p)) (z6 (D 1) (o2 D MA L sn C p)) (z6 (D 1) (o3 D MA L sn C p)) (z36 (D 1) (o4 D MA L sn C p))) h := hv
      refine g_run 3 rfl ?_
      have at256 : ∀ h x5, mj_Vw h0 (wo (wg (mo th tr wh (some q) rd F wd ac im (nI L) (nI Tj) (nI Sj) (lN (o5 D MA L sn C (p + 1))) (lN (o6 D MA L sn C cl mu (p + 1))) rz aw al sd) q D hi er se (MA 1) (MA 3) (MA 4) V r sn (mix (D 1) g Gj) (mix (D 1) f fj)) (z6 (D 1) (o1 D MA L sn C (p + 1))) (z6 (D 1) (o2 D MA L sn C (p + 1))) (z6 (D 1) (o3 D MA L sn C (p + 1))) (z36 (D 1) (o4 D MA L sn C (p + 1)))) h → mj_go sta (mj_Cl sta (d + 3)) m_X10_odds T 256 [some (.ref 151), some (.int (nI cl)), some (.int (nI mu)), some (.int 1), some (.int (nI (gmg Sj Tj Gj (D 1)))), x5] [] h := by
        intro h x5 hv
        have hA := lxA ⟨h1, hn⟩ (Nat.le_refl (D 1)) hpf (by rw [Nat.sub_self]; exact Nat.mod_one p)
        rw [Nat.sub_self, show fac 0 = 1 from rfl] at hA
        have hN := nxr_ag (c := D 1) h1 hag
        repeat (first | refine g_px rfl rfl rfl ?_)
        refine g_callV hv [0, 1, 6] 0 rfl rfl rfl rfl rfl rfl rfl rfl (by decide) (s_MnextRow sta (d + 1) th tr wh q rd F wd ac im (nI L) (nI Tj) (nI Sj) (lN (o5 D MA L sn C (p + 1))) (lN (o6 D MA L sn C cl mu (p + 1))) rz aw al sd D hi er se r ⟨h1, hn⟩ (fun i hi => by have := hpr.1 i hi; omega)) (fun v w' h hp hk2 hv => ?_)
        obtain ⟨rfl, rfl⟩ := hp
        rw [hN.1, hA.1]
        have hv : mj_Vw h0 (wo (wg (mo th tr wh (some q) rd F wd ac im (nI L) (nI Tj) (nI Sj) (lN (o5 D MA L sn C (p + 1))) (lN (o6 D MA L sn C cl mu (p + 1))) rz aw al sd) q D hi er se (MA 1) (MA 3) (MA 4) V (nxr (D 1) (D 1) r).1 sn (mix (D 1) g Gj) (mix (D 1) f fj)) (z6 (D 1) (o1 D MA L sn C (p + 1))) (z6 (D 1) (o2 D MA L sn C (p + 1))) (z6 (D 1) (o3 D MA L sn C (p + 1))) (z36 (D 1) (o4 D MA L sn C (p + 1)))) h := hv
        refine g_run 2 rfl ?_
        by_cases hj : j = 0
        · subst hj
          rw [decide_eq_false (by omega)]
          refine g_run 1 rfl ?_
          refine g_if rfl (fun cq => ?_) (fun cq => absurd rfl cq)
          have : p + 1 = fac (D 1) := by omega
          rw [this] at hv
          subst hT
          exact g_vret hv rfl rfl rfl ⟨rfl, _, _, _, _, _, rfl⟩
        · rw [decide_eq_true (show p + 1 < fac (D 1) by omega)]
          exact ih (p + 1) h _ _ _ _ _ _ _ (by omega) (by omega) (fun i hi => by rw [hN.2 i hi]; exact hA.2 (by omega) i hi) hv
      have at237 : ∀ h x5, mj_Vw h0 (wo (wg (mo th tr wh (some q) rd F wd ac im (nI L) (nI Tj) (nI Sj) (lN (o5 D MA L sn C (p + 1))) (lN (o6 D MA L sn C cl mu p)) rz aw al sd) q D hi er se (MA 1) (MA 3) (MA 4) V r sn (mix (D 1) g Gj) (mix (D 1) f fj)) (z6 (D 1) (o1 D MA L sn C (p + 1))) (z6 (D 1) (o2 D MA L sn C (p + 1))) (z6 (D 1) (o3 D MA L sn C (p + 1))) (z36 (D 1) (o4 D MA L sn C (p + 1)))) h → mj_go sta (mj_Cl sta (d + 3)) m_X10_odds T 237 [some (.ref 151), some (.int (nI cl)), some (.int (nI mu)), some (.int 1), some (.int (nI (gmg Sj Tj Gj (D 1)))), x5] [] h := by
        intro h x5 hv
        have hls := lss_lt (cl := cl) (T := Tj) (g := Gj) hW hA hn
        repeat (first | refine g_px rfl rfl rfl ?_)
        refine g_callV hv [0, 1, 2, 3, 8] 0 rfl rfl rfl rfl rfl rfl rfl rfl (by decide) (s_MlossOfAll sta d th tr wh q rd F wd ac im (nI L) (nI Sj) (lN (o5 D MA L sn C (p + 1))) (lN (o6 D MA L sn C cl mu p)) rz aw al sd D hi er se (MA 1) (MA 3) (mix (D 1) g Gj) Tj cl hT6 hcl hn hGm) (fun v w' h hp hk2 hv => ?_)
        obtain ⟨rfl, rfl⟩ := hp
        rw [lsc_mix]
        have hv : mj_Vw h0 (wo (wg (mo th tr wh (some q) rd F wd ac im (nI L) (nI Tj) (nI Sj) (lN (o5 D MA L sn C (p + 1))) (lN (o6 D MA L sn C cl mu p)) rz aw al sd) q D hi er se (MA 1) (MA 3) (MA 4) V r sn (mix (D 1) g Gj) (mix (D 1) f fj)) (z6 (D 1) (o1 D MA L sn C (p + 1))) (z6 (D 1) (o2 D MA L sn C (p + 1))) (z6 (D 1) (o3 D MA L sn C (p + 1))) (z36 (D 1) (o4 D MA L sn C (p + 1)))) h := hv
        repeat (first | refine g_px rfl rfl rfl ?_)
        refine g_ic rfl (fun cq => ?_) (fun cq => ?_)
        · simp (disch := omega) only [mj_cp, k_6, k_7, k_8, k_9, k_10, k_12, k_15, k_16, k_18, k_20, k_24, k_25, k_26, k_27, k_28, k_32, k_36, k_48, k_57, k_59, k_63, k_74, k_75, k_84, k_90, k_97, k_99, k_100, k_122, k_200, k_255, k_420, k_448, k_720, k_800, k_999, k_bit, k_shl, fa_and, nI_add, bl_1, bl_0, bl_n1, bl_n0, bl_i1, nI_lt0, nI_0le, nI_eq0, nI_eqT, nI_leI, nI_ltI, nI_eq, Nat.not_le, Nat.not_lt, Bool.not_eq_true, Bool.not_eq_false, not_true_eq_false, not_false_eq_true, Decidable.not_not] at cq
          refine at256 h x5 ?_
          rw [p6, decide_eq_false (by omega)]
          exact hv
        · simp (disch := omega) only [mj_cp, k_6, k_7, k_8, k_9, k_10, k_12, k_15, k_16, k_18, k_20, k_24, k_25, k_26, k_27, k_28, k_32, k_36, k_48, k_57, k_59, k_63, k_74, k_75, k_84, k_90, k_97, k_99, k_100, k_122, k_200, k_255, k_420, k_448, k_720, k_800, k_999, k_bit, k_shl, fa_and, nI_add, bl_1, bl_0, bl_n1, bl_n0, bl_i1, nI_lt0, nI_0le, nI_eq0, nI_eqT, nI_leI, nI_ltI, nI_eq, Nat.not_le, Nat.not_lt, Bool.not_eq_true, Bool.not_eq_false, not_true_eq_false, not_false_eq_true, Decidable.not_not] at cq
          refine g_run 2 rfl ?_
          refine g_get hv 0 rfl rfl rfl rfl ?_
          refine g_run 1 rfl ?_
          refine g_lad (y := 1) rfl rfl ?_
          refine g_put hv 0 rfl rfl rfl rfl rfl rfl (fun h hv => ?_)
          refine at256 h x5 ?_
          rw [p6, decide_eq_true (by omega)]
          exact hv
      refine l_Modds (h0 := h0) sta (d + 1) th tr wh q rd F wd ac im (nI L) (nI Sj) (lN (o5 D MA L sn C p)) (lN (o6 D MA L sn C cl mu p)) rz aw al sd D hi er se MA V r sn (z6 (D 1) (o1 D MA L sn C p)) (z6 (D 1) (o2 D MA L sn C p)) (z6 (D 1) (o3 D MA L sn C p)) (z36 (D 1) (o4 D MA L sn C p)) (z6 (D 1) (o1 D MA L sn C (p + 1))) (z6 (D 1) (o2 D MA L sn C (p + 1))) (z6 (D 1) (o3 D MA L sn C (p + 1))) (z36 (D 1) (o4 D MA L sn C (p + 1))) T cl mu Tj (gmg Sj Tj Gj (D 1)) (mix (D 1) g Gj) (mix (D 1) f fj) 1 hn hT6 hgo6 hGm hFm ?_ ?_ ?_ ?_ hW hA ?_ (D 1) 0 h (by omega) ?_
      · intro m hm
        unfold z6
        rw [if_pos hm, if_pos hm, p1]
      · intro m hm
        unfold z6
        rw [if_pos hm, if_pos hm, p2, hgos m hm]
      · intro m hm
        unfold z6
        rw [if_pos hm, if_pos hm, p3, los_mix hm]
      · intro m hm s hs
        unfold z36
        rw [if_pos (by omega), if_pos (by omega), show (6 * m + s) / 6 = m by omega, show (6 * m + s) % 6 = s by omega, p4, show mix (D 1) f fj m = fj m from if_pos hm]
        congr 1
        by_cases hf : fj m = some s
        · rw [if_pos hf, if_pos ((hF4 m s).mp hf)]
        · rw [if_neg hf, if_neg (fun z => hf ((hF4 m s).mpr z))]
      · intro h hv
        have hv : mj_Vw h0 (wo (wg (mo th tr wh (some q) rd F wd ac im (nI L) (nI Tj) (nI Sj) (lN (o5 D MA L sn C p)) (lN (o6 D MA L sn C cl mu p)) rz aw al sd) q D hi er se (MA 1) (MA 3) (MA 4) V r sn (mix (D 1) g Gj) (mix (D 1) f fj)) (mix (D 1) (z6 (D 1) (o1 D MA L sn C p)) (z6 (D 1) (o1 D MA L sn C (p + 1)))) (mix (D 1) (z6 (D 1) (o2 D MA L sn C p)) (z6 (D 1) (o2 D MA L sn C (p + 1)))) (mix (D 1) (z6 (D 1) (o3 D MA L sn C p)) (z6 (D 1) (o3 D MA L sn C (p + 1)))) (mix (6 * D 1) (z36 (D 1) (o4 D MA L sn C p)) (z36 (D 1) (o4 D MA L sn C (p + 1))))) h := hv
        unfold wo at hv
        rw [z6_mix hn, z6_mix hn, z6_mix hn, z36_mix] at hv
        have hv : mj_Vw h0 (wo (wg (mo th tr wh (some q) rd F wd ac im (nI L) (nI Tj) (nI Sj) (lN (o5 D MA L sn C p)) (lN (o6 D MA L sn C cl mu p)) rz aw al sd) q D hi er se (MA 1) (MA 3) (MA 4) V r sn (mix (D 1) g Gj) (mix (D 1) f fj)) (z6 (D 1) (o1 D MA L sn C (p + 1))) (z6 (D 1) (o2 D MA L sn C (p + 1))) (z6 (D 1) (o3 D MA L sn C (p + 1))) (z36 (D 1) (o4 D MA L sn C (p + 1)))) h := hv
        have hpl := pop_lt Tj
        repeat (first | refine g_px rfl rfl rfl ?_ | refine g_get hv 0 rfl rfl rfl rfl ?_)
        refine g_callS hv [] rfl rfl rfl rfl rfl rfl rfl (by decide) (s_Mbits sta (d + 2) Tj hT6) (fun v w' h hp hk2 hv => ?_)
        obtain ⟨rfl, rfl⟩ := hp
        have hv : mj_Vw h0 (wo (wg (mo th tr wh (some q) rd F wd ac im (nI L) (nI Tj) (nI Sj) (lN (o5 D MA L sn C p)) (lN (o6 D MA L sn C cl mu p)) rz aw al sd) q D hi er se (MA 1) (MA 3) (MA 4) V r sn (mix (D 1) g Gj) (mix (D 1) f fj)) (z6 (D 1) (o1 D MA L sn C (p + 1))) (z6 (D 1) (o2 D MA L sn C (p + 1))) (z6 (D 1) (o3 D MA L sn C (p + 1))) (z36 (D 1) (o4 D MA L sn C (p + 1)))) h := hv
        repeat (first | refine g_px rfl rfl rfl ?_ | refine g_get hv 0 rfl rfl rfl rfl ?_ | refine g_get hv 1 rfl rfl rfl rfl ?_)
        refine g_ic rfl (fun cq => ?_) (fun cq => ?_)
        · simp (disch := omega) only [mj_cp, k_6, k_7, k_8, k_9, k_10, k_12, k_15, k_16, k_18, k_20, k_24, k_25, k_26, k_27, k_28, k_32, k_36, k_48, k_57, k_59, k_63, k_74, k_75, k_84, k_90, k_97, k_99, k_100, k_122, k_200, k_255, k_420, k_448, k_720, k_800, k_999, k_bit, k_shl, fa_and, nI_add, bl_1, bl_0, bl_n1, bl_n0, bl_i1, nI_lt0, nI_0le, nI_eq0, nI_eqT, nI_leI, nI_ltI, nI_eq, Nat.not_le, Nat.not_lt, Bool.not_eq_true, Bool.not_eq_false, not_true_eq_false, not_false_eq_true, Decidable.not_not] at cq
          refine at237 h _ ?_
          rw [p5, decide_eq_false (by omega)]
          exact hv
        · simp (disch := omega) only [mj_cp, k_6, k_7, k_8, k_9, k_10, k_12, k_15, k_16, k_18, k_20, k_24, k_25, k_26, k_27, k_28, k_32, k_36, k_48, k_57, k_59, k_63, k_74, k_75, k_84, k_90, k_97, k_99, k_100, k_122, k_200, k_255, k_420, k_448, k_720, k_800, k_999, k_bit, k_shl, fa_and, nI_add, bl_1, bl_0, bl_n1, bl_n0, bl_i1, nI_lt0, nI_0le, nI_eq0, nI_eqT, nI_leI, nI_ltI, nI_eq, Nat.not_le, Nat.not_lt, Bool.not_eq_true, Bool.not_eq_false, not_true_eq_false, not_false_eq_true, Decidable.not_not] at cq
          refine g_run 2 rfl ?_
          refine g_get hv 0 rfl rfl rfl rfl ?_
          refine g_run 1 rfl ?_
          refine g_lad (y := 1) rfl rfl ?_
          refine g_put hv 0 rfl rfl rfl rfl rfl rfl (fun h hv => ?_)
          refine at237 h _ ?_
          rw [p5, decide_eq_true (by omega)]
          exact hv
      · rw [mix_0, mix_0, mix_0, Nat.mul_zero, mix_0]
        exact hv
  have z1 : ∀ j k h, k + j = 36 → mj_Vw h0 (wo (wg (mo th tr wh (some q) rd F wd ac im (nI L) tk st sh ru rz aw al sd) q D hi er se (MA 1) (MA 3) (MA 4) V r sn g f) (fun _ => 0) (fun _ => 0) (fun _ => 0) (mix k a4 (fun _ => 0))) h → mj_go sta (mj_Cl sta (d + 3)) m_X10_odds T 37 [some (.ref 151), some (.int (nI cl)), some (.int (nI mu)), some (.int (nI k)), none, none] [] h := by
    intro j
    induction j with
    | zero =>
      intro k h hk hv
      have hk : k = 36 := by omega
      subst hk
      have e4 : aL 36 (mix 36 a4 (fun _ => 0)) = aL 36 (fun _ => 0) := by
        have : (fun i => if i < 36 then lN (mix 36 a4 (fun _ => 0) i) else (0 : Int64)) = (fun i => if i < 36 then lN ((fun _ => 0) i) else 0) := by
          funext i
          by_cases h : i < 36
          · simp [h, mix]
          · simp [h]
        unfold aL
        rw [this]
      unfold wo at hv
      rw [e4] at hv
      repeat (first | refine g_px rfl rfl rfl ?_)
      refine g_ic rfl (fun cq => ?_) (fun cq => absurd (cpT (by decide)) cq)
      repeat (first | refine g_px rfl rfl rfl ?_)
      refine g_put hv 0 rfl rfl rfl rfl rfl rfl (fun h hv => ?_)
      repeat (first | refine g_px rfl rfl rfl ?_)
      refine g_put hv 0 rfl rfl rfl rfl rfl rfl (fun h hv => ?_)
      have hv : mj_Vw h0 (wo (wg (mo th tr wh (some q) rd F wd ac im (nI L) tk st (lN 0) (lN 0) rz aw al sd) q D hi er se (MA 1) (MA 3) (MA 4) V r sn g f) (fun _ => 0) (fun _ => 0) (fun _ => 0) (fun _ => 0)) h := hv
      repeat (first | refine g_px rfl rfl rfl ?_)
      refine g_callV hv [0, 6] 0 rfl rfl rfl rfl rfl rfl rfl rfl (by decide) (s_MfirstRow sta (d + 2) th tr wh (some q) rd F wd ac im (nI L) tk st (lN 0) (lN 0) rz aw al sd r) (fun v w' h hp hk2 hv => ?_)
      obtain ⟨rfl, rfl⟩ := hp
      refine g_run 2 rfl ?_
      refine loop (fac (D 1)) 0 h (fun i => i) g f tk st none none (by omega) (fac_pos _) (fun i hi => (lx0 hn hi).symm) ?_
      have e6 : ∀ x : Nat → Nat → (Nat → Option Nat) → Nat, z6 (D 1) (fun m => pto D MA L sn C (x m) 0) = fun _ => 0 := fun x => by
        funext m
        unfold z6
        split <;> rfl
      have e36 : ∀ x : Nat → Nat → Nat → (Nat → Option Nat) → Nat, z36 (D 1) (fun m s => pto D MA L sn C (x m s) 0) = fun _ => 0 := fun x => by
        funext m
        unfold z36
        split <;> rfl
      rw [show z6 (D 1) (o1 D MA L sn C 0) = fun _ => 0 from e6 _, show z6 (D 1) (o2 D MA L sn C 0) = fun _ => 0 from e6 _, show z6 (D 1) (o3 D MA L sn C 0) = fun _ => 0 from e6 _, show z36 (D 1) (o4 D MA L sn C 0) = fun _ => 0 from e36 _]
      exact hv
    | succ j ih =>
      intro k h hk hv
      repeat (first | refine g_px rfl rfl rfl ?_)
      refine g_ic rfl (fun cq => ?_) (fun cq => ?_)
      · simp (disch := omega) only [mj_cp, k_6, k_7, k_8, k_9, k_10, k_12, k_15, k_16, k_18, k_20, k_24, k_25, k_26, k_27, k_28, k_32, k_36, k_48, k_57, k_59, k_63, k_74, k_75, k_84, k_90, k_97, k_99, k_100, k_122, k_200, k_255, k_420, k_448, k_720, k_800, k_999, k_bit, k_shl, fa_and, nI_add, bl_1, bl_0, bl_n1, bl_n0, bl_i1, nI_lt0, nI_0le, nI_eq0, nI_eqT, nI_leI, nI_ltI, nI_eq, Nat.not_le, Nat.not_lt, Bool.not_eq_true, Bool.not_eq_false, not_true_eq_false, not_false_eq_true, Decidable.not_not] at cq
        omega
      · repeat (first | refine g_px rfl rfl rfl ?_ | refine g_get hv 0 rfl rfl rfl rfl ?_)
        refine g_lLs (L := 36) (y := 0) hv 13 (k := k) (by omega) (by decide) rfl rfl (fun h hv => ?_)
        rw [show va_up (mix k a4 (fun _ => 0)) k 0 = mix (k + 1) a4 (fun _ => 0) from mix_up (f' := fun _ => 0)] at hv
        refine g_run 2 rfl ?_
        have hnx := ih (k + 1) h (by omega) hv
        rw [nI_succ] at hnx
        exact hnx
  have z0 : ∀ j k h, k + j = 6 → mj_Vw h0 (wo (wg (mo th tr wh (some q) rd F wd ac im (nI L) tk st sh ru rz aw al sd) q D hi er se (MA 1) (MA 3) (MA 4) V r sn g f) (mix k a1 (fun _ => 0)) (mix k a2 (fun _ => 0)) (mix k a3 (fun _ => 0)) a4) h → mj_go sta (mj_Cl sta (d + 3)) m_X10_odds T 2 [some (.ref 151), some (.int (nI cl)), some (.int (nI mu)), some (.int (nI k)), none, none] [] h := by
    intro j
    induction j with
    | zero =>
      intro k h hk hv
      have hk : k = 6 := by omega
      subst hk
      have e6 : ∀ a : Nat → Nat, aL 6 (mix 6 a (fun _ => 0)) = aL 6 (fun _ => 0) := by
        intro a
        have : (fun i => if i < 6 then lN (mix 6 a (fun _ => 0) i) else (0 : Int64)) = (fun i => if i < 6 then lN ((fun _ => 0) i) else 0) := by
          funext i
          by_cases h : i < 6
          · simp [h, mix]
          · simp [h]
        unfold aL
        rw [this]
      unfold wo at hv
      rw [e6, e6, e6] at hv
      repeat (first | refine g_px rfl rfl rfl ?_)
      refine g_ic rfl (fun cq => ?_) (fun cq => absurd (cpT (by decide)) cq)
      refine g_run 2 rfl ?_
      exact z1 36 0 h (by omega) (by rw [mix_0]; exact hv)
    | succ j ih =>
      intro k h hk hv
      repeat (first | refine g_px rfl rfl rfl ?_)
      refine g_ic rfl (fun cq => ?_) (fun cq => ?_)
      · simp (disch := omega) only [mj_cp, k_6, k_7, k_8, k_9, k_10, k_12, k_15, k_16, k_18, k_20, k_24, k_25, k_26, k_27, k_28, k_32, k_36, k_48, k_57, k_59, k_63, k_74, k_75, k_84, k_90, k_97, k_99, k_100, k_122, k_200, k_255, k_420, k_448, k_720, k_800, k_999, k_bit, k_shl, fa_and, nI_add, bl_1, bl_0, bl_n1, bl_n0, bl_i1, nI_lt0, nI_0le, nI_eq0, nI_eqT, nI_leI, nI_ltI, nI_eq, Nat.not_le, Nat.not_lt, Bool.not_eq_true, Bool.not_eq_false, not_true_eq_false, not_false_eq_true, Decidable.not_not] at cq
        omega
      · repeat (first | refine g_px rfl rfl rfl ?_ | refine g_get hv 0 rfl rfl rfl rfl ?_)
        refine g_lLs (L := 6) (y := 0) hv 10 (k := k) (by omega) (by decide) rfl rfl (fun h hv => ?_)
        repeat (first | refine g_px rfl rfl rfl ?_ | refine g_get hv 0 rfl rfl rfl rfl ?_)
        refine g_lLs (L := 6) (y := 0) hv 11 (k := k) (by omega) (by decide) rfl rfl (fun h hv => ?_)
        repeat (first | refine g_px rfl rfl rfl ?_ | refine g_get hv 0 rfl rfl rfl rfl ?_)
        refine g_lLs (L := 6) (y := 0) hv 12 (k := k) (by omega) (by decide) rfl rfl (fun h hv => ?_)
        rw [show va_up (mix k a1 (fun _ => 0)) k 0 = mix (k + 1) a1 (fun _ => 0) from mix_up (f' := fun _ => 0), show va_up (mix k a2 (fun _ => 0)) k 0 = mix (k + 1) a2 (fun _ => 0) from mix_up (f' := fun _ => 0), show va_up (mix k a3 (fun _ => 0)) k 0 = mix (k + 1) a3 (fun _ => 0) from mix_up (f' := fun _ => 0)] at hv
        refine g_run 2 rfl ?_
        have hnx := ih (k + 1) h (by omega) hv
        rw [nI_succ] at hnx
        exact hnx
  refine g_run 2 rfl ?_
  exact z0 6 0 h0 (by omega) (by rw [mix_0, mix_0, mix_0]; exact hv)
end Mo
