/-! acts of the reference, lifted to its whole view -/
section Ma
variable {sta : mj_S} {d mid : Nat} {as : List Value} {val vl2 : Value} {t : Int32} {rd : Option Nat} {F F' : Nat → Int32} {wd : Int64} {ac im ac' im' : Int32} {c c' : Nat → Nat} {V P Q V' P' Q' : Nat → Int32} {q : Nat} {D : Nat → Nat} {hi er se : Int32} {MA : Nat → Nat → Nat} {nm : Nat → Nat} {pl tr : Int32} {w : mj_W}
theorem ma_odvp (hm : mSd rd F wd ac im c V P Q q D hi er se MA nm pl tr w) (hS : ∀ th wh lw tk st sh ru rz aw al sd, mj_Sx sta d mid as ([(mo th tr wh (some q) rd F wd ac im lw tk st sh ru rz aw al sd), mdh q D hi er se, (153, aI 28 V), (154, aI 448 P)]) (fun v w => v = some vl2 ∧ w = [(mo 0 0 (-1) (some q) rd F wd ac' im lw tk st sh ru rz aw al sd), mdh q D hi er se, (153, aI 28 V'), (154, aI 448 P')])) (he : vl2 = val) : mj_Sx sta d mid as w (fun v w => v = some val ∧ mSd rd F wd ac' im c V' P' Q q D hi er se MA nm pl 0 w) := by
  subst he
  obtain ⟨th, lw, tk, st, sh, ru, rz, aw, al, sd, r, sn, g, f, b1, b2, b3, b4, c0, rfl⟩ := hm
  refine ((hS th _ lw tk st sh ru rz aw al sd).fr [0, 14, 2, 3] rfl rfl (by decide)).post ?_
  rintro v w ⟨wc', ⟨hv, rfl⟩, -, rfl⟩ -
  exact ⟨hv, 0, lw, tk, st, sh, ru, rz, aw, al, sd, r, sn, g, f, b1, b2, b3, b4, c0, rfl⟩
theorem ma_ovp (hm : mSd rd F wd ac im c V P Q q D hi er se MA nm pl tr w) (hS : ∀ th wh lw tk st sh ru rz aw al sd, mj_Sx sta d mid as ([(mo th tr wh (some q) rd F wd ac im lw tk st sh ru rz aw al sd), (153, aI 28 V), (154, aI 448 P)]) (fun v w => v = some vl2 ∧ w = [(mo 0 0 (-1) (some q) rd F wd ac' im lw tk st sh ru rz aw al sd), (153, aI 28 V'), (154, aI 448 P')])) (he : vl2 = val) : mj_Sx sta d mid as w (fun v w => v = some val ∧ mSd rd F wd ac' im c V' P' Q q D hi er se MA nm pl 0 w) := by
  subst he
  obtain ⟨th, lw, tk, st, sh, ru, rz, aw, al, sd, r, sn, g, f, b1, b2, b3, b4, c0, rfl⟩ := hm
  refine ((hS th _ lw tk st sh ru rz aw al sd).fr [0, 2, 3] rfl rfl (by decide)).post ?_
  rintro v w ⟨wc', ⟨hv, rfl⟩, -, rfl⟩ -
  exact ⟨hv, 0, lw, tk, st, sh, ru, rz, aw, al, sd, r, sn, g, f, b1, b2, b3, b4, c0, rfl⟩
theorem ma_ovq (hm : mSd rd F wd ac im c V P Q q D hi er se MA nm pl tr w) (hS : ∀ th wh lw tk st sh ru rz aw al sd, mj_Sx sta d mid as ([(mo th tr wh (some q) rd F wd ac im lw tk st sh ru rz aw al sd), (153, aI 28 V), (155, aI 84 Q)]) (fun v w => v = some vl2 ∧ w = [(mo 0 0 (-1) (some q) rd F wd ac' im' lw tk st sh ru rz aw al sd), (153, aI 28 V'), (155, aI 84 Q')])) (he : vl2 = val) : mj_Sx sta d mid as w (fun v w => v = some val ∧ mSd rd F wd ac' im' c V' P Q' q D hi er se MA nm pl 0 w) := by
  subst he
  obtain ⟨th, lw, tk, st, sh, ru, rz, aw, al, sd, r, sn, g, f, b1, b2, b3, b4, c0, rfl⟩ := hm
  refine ((hS th _ lw tk st sh ru rz aw al sd).fr [0, 2, 4] rfl rfl (by decide)).post ?_
  rintro v w ⟨wc', ⟨hv, rfl⟩, -, rfl⟩ -
  exact ⟨hv, 0, lw, tk, st, sh, ru, rz, aw, al, sd, r, sn, g, f, b1, b2, b3, b4, c0, rfl⟩
theorem ma_odv (hm : mSd rd F wd ac im c V P Q q D hi er se MA nm pl tr w) (hS : ∀ th wh lw tk st sh ru rz aw al sd, mj_Sx sta d mid as ([(mo th tr wh (some q) rd F wd ac im lw tk st sh ru rz aw al sd), mdh q D hi er se, (153, aI 28 V)]) (fun v w => v = some vl2 ∧ w = [(mo 0 0 (-1) (some q) rd F wd ac im lw tk st sh ru rz aw al sd), mdh q D hi er se, (153, aI 28 V')])) (he : vl2 = val) : mj_Sx sta d mid as w (fun v w => v = some val ∧ mSd rd F wd ac im c V' P Q q D hi er se MA nm pl 0 w) := by
  subst he
  obtain ⟨th, lw, tk, st, sh, ru, rz, aw, al, sd, r, sn, g, f, b1, b2, b3, b4, c0, rfl⟩ := hm
  refine ((hS th _ lw tk st sh ru rz aw al sd).fr [0, 14, 2] rfl rfl (by decide)).post ?_
  rintro v w ⟨wc', ⟨hv, rfl⟩, -, rfl⟩ -
  exact ⟨hv, 0, lw, tk, st, sh, ru, rz, aw, al, sd, r, sn, g, f, b1, b2, b3, b4, c0, rfl⟩
theorem ma_hold (hm : mSd rd F wd ac im c V P Q q D hi er se MA nm pl tr w) (hS : ∀ th wh lw tk st sh ru rz aw al sd r sn g f, mj_Sx sta d mid as (wg (mo th tr wh (some q) rd F wd ac im lw tk st sh ru rz aw al sd) q D hi er se (MA 1) (MA 3) (MA 4) V r sn g f ++ [(154, aI 448 P)]) (fun v w => v = some vl2 ∧ ∃ lw tk st sd r sn g f, w = wg (mo 0 0 (-1) (some q) rd F wd ac' im lw tk st sh ru rz aw al sd) q D hi er se (MA 1) (MA 3) (MA 4) V' r sn g f ++ [(154, aI 448 P')])) (he : vl2 = val) : mj_Sx sta d mid as w (fun v w => v = some val ∧ mSd rd F wd ac' im c V' P' Q q D hi er se MA nm pl 0 w) := by
  subst he
  obtain ⟨th, lw, tk, st, sh, ru, rz, aw, al, sd, r, sn, g, f, b1, b2, b3, b4, c0, rfl⟩ := hm
  refine ((hS th _ lw tk st sh ru rz aw al sd r sn g f).fr [0, 14, 16, 18, 19, 2, 5, 6, 7, 8, 3] rfl rfl (by decide)).post ?_
  rintro v w ⟨wc', ⟨hv, lw', tk', st', sd', r', sn', g', f', rfl⟩, -, rfl⟩ -
  exact ⟨hv, 0, lw', tk', st', sh, ru, rz, aw, al, sd', r', sn', g', f', b1, b2, b3, b4, c0, rfl⟩
theorem ma_feed (hm : mSd rd F wd ac im c V P Q q D hi er se MA nm pl tr w) (hS : ∀ th wh lw tk st sh ru rz aw al sd, mj_Sx sta d mid as ([(mo th tr wh (some q) rd F wd ac im lw tk st sh ru rz aw al sd), (152, ab c)]) (fun v w => v = some vl2 ∧ w = [(mo 0 tr wh (some q) rd F' wd ac im lw tk st sh ru rz aw al sd), (152, ab c')])) (he : vl2 = val) : mj_Sx sta d mid as w (fun v w => v = some val ∧ mSd rd F' wd ac im c' V P Q q D hi er se MA nm pl tr w) := by
  subst he
  obtain ⟨th, lw, tk, st, sh, ru, rz, aw, al, sd, r, sn, g, f, b1, b2, b3, b4, c0, rfl⟩ := hm
  refine ((hS th _ lw tk st sh ru rz aw al sd).fr [0, 1] rfl rfl (by decide)).post ?_
  rintro v w ⟨wc', ⟨hv, rfl⟩, -, rfl⟩ -
  exact ⟨hv, 0, lw, tk, st, sh, ru, rz, aw, al, sd, r, sn, g, f, b1, b2, b3, b4, c0, rfl⟩
theorem mb_feed (hm : mSu rd F wd ac im c V P Q pl tr w) (hS : ∀ th wh lw tk st sh ru rz aw al sd, mj_Sx sta d mid as ([(mo th tr wh none rd F wd ac im lw tk st sh ru rz aw al sd), (152, ab c)]) (fun v w => v = some vl2 ∧ w = [(mo 0 tr wh none rd F' wd ac im lw tk st sh ru rz aw al sd), (152, ab c')])) (he : vl2 = val) : mj_Sx sta d mid as w (fun v w => v = some val ∧ mSu rd F' wd ac im c' V P Q pl tr w) := by
  subst he
  obtain ⟨th, lw, tk, st, sh, ru, rz, aw, al, sd, r, sn, g, f, b1, b2, b3, b4, c0, rfl⟩ := hm
  refine ((hS th _ lw tk st sh ru rz aw al sd).fr [0, 1] rfl rfl (by decide)).post ?_
  rintro v w ⟨wc', ⟨hv, rfl⟩, -, rfl⟩ -
  exact ⟨hv, 0, lw, tk, st, sh, ru, rz, aw, al, sd, r, sn, g, f, b1, b2, b3, b4, c0, rfl⟩
end Ma
/-- one now on both sides -/
def nrel (Bd : Nat) (D : Nat → Nat) (DA MA : Nat → Nat → Nat) (H : HN) (V : Nat → Int32) : Prop := okN H.1 H.2.1 H.2.2 ∧ ∃ SN C FR, vN V (H.1 0) SN C ∧ okG D MA SN C (H.1 0) ∧ agM (D 1) DA MA (H.2.1 0) SN (H.2.1 1) C ∧ hyv Bd (D 1) H V FR
theorem nrel_V {Bd : Nat} {D : Nat → Nat} {DA MA : Nat → Nat → Nat} {H : HN} {V V' : Nat → Int32} (h : nrel Bd D DA MA H V) (hD : D 1 ≤ 6) (he : ∀ k, k < 28 → V' k = V k) : nrel Bd D DA MA H V' := by
  obtain ⟨h1, SN, C, FR, ⟨a1, a2, a3⟩, h3, h4, b1, b2, b3, b4, b5, b6, b7, b8, b9, b10⟩ := h
  refine ⟨h1, SN, C, FR, ⟨?_, ?_, ?_⟩, h3, h4, ?_, ?_, ?_, b4, ?_, ?_, b7, b8, b9, b10⟩
  · rw [he 25 (by decide), a1]
  · intro i hi; rw [he i (by omega), a2 i hi]
  · intro i hi; rw [he (6 + i) (by omega), a3 i hi]
  · rw [he 24 (by decide), b1]
  · rw [he 26 (by decide), b2]
  · rw [he 27 (by decide), b3]
  · intro h0 i hi; rw [he (12 + i) (by omega), b5 h0 i hi]
  · intro i hi; rw [he (18 + i) (by omega), b6 i hi]
theorem nrel_B {Bd Bd' : Nat} {D : Nat → Nat} {DA MA : Nat → Nat → Nat} {H : HN} {V : Nat → Int32} (h : nrel Bd D DA MA H V) (hb : Bd ≤ Bd') : nrel Bd' D DA MA H V := by
  obtain ⟨h1, SN, C, FR, h2, h3, h4, b1, b2, b3, b4, b5⟩ := h
  exact ⟨h1, SN, C, FR, h2, h3, h4, b1, b2, b3, by omega, b5⟩
/-- what a draft has, on both sides -/
def drel (sta : mj_S) (D : Nat → Nat) (DA MA : Nat → Nat → Nat) : Prop := stF sta ∧ okD D DA ∧ 1 ≤ D 1 ∧ (∀ k, k < D 8 → DA 5 k = MA 5 k) ∧ ∀ k, k < D 8 → MA 5 k < D 1
def hrel (Bd : Nat) (D : Nat → Nat) (DA MA : Nat → Nat → Nat) (x ac : Nat) (R : Nat → HN) (P : Nat → Int32) : Prop := x < 16 ∧ ac ≤ 16 ∧ ∀ i, i < ac → nrel Bd D DA MA (R ((x + 16 - ac + i) % 16)) (fun k => P (28 * i + k))
def irel (Bd : Nat) (D : Nat → Nat) (DA MA : Nat → Nat → Nat) (im : Nat) (R : Nat → HN) (P : Nat → Int32) : Prop := im ≤ 3 ∧ ∀ i, i < im → nrel Bd D DA MA (R i) (fun k => P (28 * i + k))
def trel (L : Nat) (c : Nat → Nat) (fa : Int32) (F : Nat → Int32) : Prop := L ≤ 800 ∧ bd 256 c ∧ F 6 = nI L ∧ F 12 = fa
theorem hyp_of {sta : mj_S} {Bd : Nat} {D : Nat → Nat} {DA MA : Nat → Nat → Nat} {H : HN} {V : Nat → Int32} (hd : drel sta D DA MA) (hn : nrel Bd D DA MA H V) : ∃ SN C FR, hyp sta D DA H V MA SN C ∧ hyv Bd (D 1) H V FR := by
  obtain ⟨d1, d2, d3, d4, d5⟩ := hd
  obtain ⟨h1, SN, C, FR, h2, h3, h4, h5⟩ := hn
  exact ⟨SN, C, FR, ⟨d1, d2, d3, h1, h2, h3, h4, d4, d5⟩, h5⟩
theorem hrel_B {Bd Bd' : Nat} {D : Nat → Nat} {DA MA : Nat → Nat → Nat} {x ac : Nat} {R : Nat → HN} {P : Nat → Int32} (h : hrel Bd D DA MA x ac R P) (hb : Bd ≤ Bd') : hrel Bd' D DA MA x ac R P := ⟨h.1, h.2.1, fun i hi => nrel_B (h.2.2 i hi) hb⟩
theorem irel_B {Bd Bd' : Nat} {D : Nat → Nat} {DA MA : Nat → Nat → Nat} {im : Nat} {R : Nat → HN} {P : Nat → Int32} (h : irel Bd D DA MA im R P) (hb : Bd ≤ Bd') : irel Bd' D DA MA im R P := ⟨h.1, fun i hi => nrel_B (h.2 i hi) hb⟩
theorem hrel_keep {Bd : Nat} {D : Nat → Nat} {DA MA : Nat → Nat → Nat} {x ac : Nat} {R : Nat → HN} {P : Nat → Int32} {H : HN} {V : Nat → Int32} (h : hrel Bd D DA MA x ac R P) (hD : D 1 ≤ 6) (hn : nrel Bd D DA MA H V) : hrel Bd D DA MA ((x + 1) % 16) (min (ac + 1) 16) (va_up R x H) (remP ac V P) := by
  obtain ⟨h1, h2, h3⟩ := h
  refine ⟨by omega, by omega, fun i hi => ?_⟩
  by_cases e16 : ac = 16
  · subst e16
    by_cases e : i = 15
    · subst e
      rw [show ((x + 1) % 16 + 16 - min (16 + 1) 16 + 15) % 16 = x by omega]
      rw [va_up, if_pos rfl]
      refine nrel_V hn hD (fun k hk => ?_)
      show cpS (28 * remA 16) 28 V _ (28 * 15 + k) = _
      unfold cpS remA
      rw [if_pos rfl, if_pos (by omega), show 28 * 15 + k - 28 * 15 = k by omega]
    · have h4 := h3 (i + 1) (by omega)
      rw [show ((x + 1) % 16 + 16 - min (16 + 1) 16 + i) % 16 = (x + 16 - 16 + (i + 1)) % 16 by omega]
      rw [va_up, if_neg (by omega)]
      refine nrel_V h4 hD (fun k hk => ?_)
      show cpS (28 * remA 16) 28 V (if 16 = 16 then mix 420 P (fun y => P (y + 28)) else P) (28 * i + k) = P (28 * (i + 1) + k)
      unfold cpS remA
      rw [if_pos rfl, if_neg (by omega), if_pos rfl, mix, if_pos (by omega), show 28 * i + k + 28 = 28 * (i + 1) + k by omega]
  · by_cases e : i = ac
    · subst e
      rw [show ((x + 1) % 16 + 16 - min (i + 1) 16 + i) % 16 = x by omega]
      rw [va_up, if_pos rfl]
      refine nrel_V hn hD (fun k hk => ?_)
      show cpS (28 * remA i) 28 V _ (28 * i + k) = _
      unfold cpS remA
      rw [if_neg e16, if_pos (by omega), show 28 * i + k - 28 * i = k by omega]
    · have h4 := h3 i (by omega)
      rw [show ((x + 1) % 16 + 16 - min (ac + 1) 16 + i) % 16 = (x + 16 - ac + i) % 16 by omega]
      rw [va_up, if_neg (by omega)]
      refine nrel_V h4 hD (fun k hk => ?_)
      show cpS (28 * remA ac) 28 V (if ac = 16 then mix 420 P (fun y => P (y + 28)) else P) (28 * i + k) = P (28 * i + k)
      unfold cpS remA
      rw [if_neg e16, if_neg (by omega), if_neg e16]
