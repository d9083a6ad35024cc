/-! the reference's whole view; a call's contract lifted to it -/
abbrev mVu (rd : Option Nat) (F : Nat → Int32) (wd : Int64) (ac im : Int32) (c : Nat → Nat) (V P Q : Nat → Int32) (tr wh : Int32) (th : Int32) (lw tk st : Int32) (sh ru : Int64) (rz aw al sd : Int32) (r sn : Nat → Nat) (g f : Nat → Option Nat) (b1 b2 b3 b4 c0 : Nat → Nat) : mj_W := [(mo th tr wh none rd F wd ac im lw tk st sh ru rz aw al sd)] ++ [(152, ab c), (153, aI 28 V), (154, aI 448 P), (155, aI 84 Q), (156, an r), (157, an sn), (158, sq g), (159, sq f), (160, aL 6 b1), (161, aL 6 b2), (162, aL 6 b3), (163, aL 36 b4), (164, aN 18 c0)]
abbrev mVd (rd : Option Nat) (F : Nat → Int32) (wd : Int64) (ac im : Int32) (c : Nat → Nat) (V P Q : Nat → Int32) (q : Nat) (D : Nat → Nat) (hi er se : Int32) (MA : Nat → Nat → Nat) (nm : Nat → Nat) (tr wh : Int32) (th : Int32) (lw tk st : Int32) (sh ru : Int64) (rz aw al sd : Int32) (r sn : Nat → Nat) (g f : Nat → Option Nat) (b1 b2 b3 b4 c0 : Nat → Nat) : mj_W := [(mo th tr wh (some q) rd F wd ac im lw tk st sh ru rz aw al sd)] ++ [(152, ab c), (153, aI 28 V), (154, aI 448 P), (155, aI 84 Q), (156, an r), (157, an sn), (158, sq g), (159, sq f), (160, aL 6 b1), (161, aL 6 b2), (162, aL 6 b3), (163, aL 36 b4), (164, aN 18 c0)] ++ [mdh q D hi er se, (q + 1, an (MA 0)), (q + 2, an (MA 1)), (q + 3, an (MA 2)), (q + 4, an (MA 3)), (q + 5, an (MA 4)), (q + 6, aL 6 nm), (q + 7, a3 (MA 5))]
def mSu (rd : Option Nat) (F : Nat → Int32) (wd : Int64) (ac im : Int32) (c : Nat → Nat) (V P Q : Nat → Int32) (pl tr : Int32) (w : mj_W) : Prop := ∃ th lw tk st sh ru rz aw al sd r sn g f b1 b2 b3 b4 c0, w = mVu rd F wd ac im c V P Q tr (if tr = 4 then pl else -1) th lw tk st sh ru rz aw al sd r sn g f b1 b2 b3 b4 c0
def mSd (rd : Option Nat) (F : Nat → Int32) (wd : Int64) (ac im : Int32) (c : Nat → Nat) (V P Q : Nat → Int32) (q : Nat) (D : Nat → Nat) (hi er se : Int32) (MA : Nat → Nat → Nat) (nm : Nat → Nat) (pl tr : Int32) (w : mj_W) : Prop := ∃ th lw tk st sh ru rz aw al sd r sn g f b1 b2 b3 b4 c0, w = mVd rd F wd ac im c V P Q q D hi er se MA nm tr (if tr = 4 then pl else -1) th lw tk st sh ru rz aw al sd r sn g f b1 b2 b3 b4 c0
section Mp
variable {sta : mj_S} {d mid : Nat} {as : List Value} {val vl2 : Value} {t : Int32} {rd : Option Nat} {F : Nat → Int32} {wd : Int64} {ac im : Int32} {c : Nat → Nat} {V P Q : Nat → Int32} {q : Nat} {D : Nat → Nat} {hi er se : Int32} {MA : Nat → Nat → Nat} {nm : Nat → Nat} {pl tr : Int32} {w : mj_W}
theorem mp_wo (hm : mSd rd F wd ac im c V P Q q D hi er se MA nm pl tr w) (ht : ¬ t = 4) (hS : ∀ th wh lw tk st sh ru rz aw al sd r sn g f b1 b2 b3 b4, mj_Sx sta d mid as (wo (wg (mo th tr wh (some q) rd F wd ac im lw tk st sh ru rz aw al sd) q D hi er se (MA 1) (MA 3) (MA 4) V r sn g f) b1 b2 b3 b4) (fun v w => v = some vl2 ∧ ∃ lw tk st sh ru r sn g f b1 b2 b3 b4, w = wo (wg (mo 0 t (-1) (some q) rd F wd ac im lw tk st sh ru rz aw al sd) q D hi er se (MA 1) (MA 3) (MA 4) V r sn g f) b1 b2 b3 b4)) (he : vl2 = val) : mj_Sx sta d mid as w (fun v w => v = some val ∧ mSd rd F wd ac im c V P Q q D hi er se MA nm pl t w) := by
  subst he
  obtain ⟨th, lw, tk, st, sh, ru, rz, aw, al, sd, r, sn, g, f, b1, b2, b3, b4, c0, rfl⟩ := hm
  refine ((hS th _ lw tk st sh ru rz aw al sd r sn g f b1 b2 b3 b4).fr [0, 14, 16, 18, 19, 2, 5, 6, 7, 8, 9, 10, 11, 12] rfl rfl (by decide)).post ?_
  rintro v w ⟨wc', ⟨hv, lw', tk', st', sh', ru', r', sn', g', f', b1', b2', b3', b4', rfl⟩, -, rfl⟩ -
  refine ⟨hv, 0, lw', tk', st', sh', ru', rz, aw, al, sd, r', sn', g', f', b1', b2', b3', b4', c0, ?_⟩
  rw [if_neg ht]
  rfl
theorem mp_wf (hm : mSd rd F wd ac im c V P Q q D hi er se MA nm pl tr w) (ht : ¬ t = 4) (hS : ∀ th wh lw tk st sh ru rz aw al sd r sn g f c0, mj_Sx sta d mid as (wf (wg (mo th tr wh (some q) rd F wd ac im lw tk st sh ru rz aw al sd) q D hi er se (MA 1) (MA 3) (MA 4) V r sn g f) q (MA 5) c0) (fun v w => v = some vl2 ∧ ∃ lw tk st rz aw al r sn g f c0, w = wf (wg (mo 0 t (-1) (some q) rd F wd ac im lw tk st sh ru rz aw al sd) q D hi er se (MA 1) (MA 3) (MA 4) V r sn g f) q (MA 5) c0)) (he : vl2 = val) : mj_Sx sta d mid as w (fun v w => v = some val ∧ mSd rd F wd ac im c V P Q q D hi er se MA nm pl t w) := by
  subst he
  obtain ⟨th, lw, tk, st, sh, ru, rz, aw, al, sd, r, sn, g, f, b1, b2, b3, b4, c0, rfl⟩ := hm
  refine ((hS th _ lw tk st sh ru rz aw al sd r sn g f c0).fr [0, 14, 16, 18, 19, 2, 5, 6, 7, 8, 21, 13] rfl rfl (by decide)).post ?_
  rintro v w ⟨wc', ⟨hv, lw', tk', st', rz', aw', al', r', sn', g', f', c0', rfl⟩, -, rfl⟩ -
  refine ⟨hv, 0, lw', tk', st', sh, ru, rz', aw', al', sd, r', sn', g', f', b1, b2, b3, b4, c0', ?_⟩
  rw [if_neg ht]
  rfl
theorem mp_wg (hm : mSd rd F wd ac im c V P Q q D hi er se MA nm pl tr w) (ht : ¬ t = 4) (hS : ∀ th wh lw tk st sh ru rz aw al sd r sn g f, mj_Sx sta d mid as (wg (mo th tr wh (some q) rd F wd ac im lw tk st sh ru rz aw al sd) q D hi er se (MA 1) (MA 3) (MA 4) V r sn g f) (fun v w => v = some vl2 ∧ ∃ lw tk st r sn g f, w = wg (mo 0 t (-1) (some q) rd F wd ac im lw tk st sh ru rz aw al sd) q D hi er se (MA 1) (MA 3) (MA 4) V r sn g f)) (he : vl2 = val) : mj_Sx sta d mid as w (fun v w => v = some val ∧ mSd rd F wd ac im c V P Q q D hi er se MA nm pl t w) := by
  subst he
  obtain ⟨th, lw, tk, st, sh, ru, rz, aw, al, sd, r, sn, g, f, b1, b2, b3, b4, c0, rfl⟩ := hm
  refine ((hS th _ lw tk st sh ru rz aw al sd r sn g f).fr [0, 14, 16, 18, 19, 2, 5, 6, 7, 8] rfl rfl (by decide)).post ?_
  rintro v w ⟨wc', ⟨hv, lw', tk', st', r', sn', g', f', rfl⟩, -, rfl⟩ -
  refine ⟨hv, 0, lw', tk', st', sh, ru, rz, aw, al, sd, r', sn', g', f', b1, b2, b3, b4, c0, ?_⟩
  rw [if_neg ht]
  rfl
theorem mp_wgs (hm : mSd rd F wd ac im c V P Q q D hi er se MA nm pl tr w) (ht : ¬ t = 4) (hS : ∀ th wh lw tk st sh ru rz aw al sd r sn g f, mj_Sx sta d mid as (wg (mo th tr wh (some q) rd F wd ac im lw tk st sh ru rz aw al sd) q D hi er se (MA 1) (MA 3) (MA 4) V r sn g f) (fun v w => v = some vl2 ∧ ∃ lw tk st sd r sn g f, w = wg (mo 0 t (-1) (some q) rd F wd ac im lw tk st sh ru rz aw al sd) q D hi er se (MA 1) (MA 3) (MA 4) V r sn g f)) (he : vl2 = val) : mj_Sx sta d mid as w (fun v w => v = some val ∧ mSd rd F wd ac im c V P Q q D hi er se MA nm pl t w) := by
  subst he
  obtain ⟨th, lw, tk, st, sh, ru, rz, aw, al, sd, r, sn, g, f, b1, b2, b3, b4, c0, rfl⟩ := hm
  refine ((hS th _ lw tk st sh ru rz aw al sd r sn g f).fr [0, 14, 16, 18, 19, 2, 5, 6, 7, 8] rfl rfl (by decide)).post ?_
  rintro v w ⟨wc', ⟨hv, lw', tk', st', sd', r', sn', g', f', rfl⟩, -, rfl⟩ -
  refine ⟨hv, 0, lw', tk', st', sh, ru, rz, aw, al, sd', r', sn', g', f', b1, b2, b3, b4, c0, ?_⟩
  rw [if_neg ht]
  rfl
theorem mp_wg2 (hm : mSd rd F wd ac im c V P Q q D hi er se MA nm pl tr w) (ht : ¬ t = 4) (hS : ∀ th wh lw tk st sh ru rz aw al sd r sn g f, mj_Sx sta d mid as (wg (mo th tr wh (some q) rd F wd ac im lw tk st sh ru rz aw al sd) q D hi er se (MA 1) (MA 3) (MA 4) V r sn g f) (fun v w => v = some vl2 ∧ ∃ lw sn, w = wg (mo 0 t (-1) (some q) rd F wd ac im lw tk st sh ru rz aw al sd) q D hi er se (MA 1) (MA 3) (MA 4) V r sn g f)) (he : vl2 = val) : mj_Sx sta d mid as w (fun v w => v = some val ∧ mSd rd F wd ac im c V P Q q D hi er se MA nm pl t w) := by
  subst he
  obtain ⟨th, lw, tk, st, sh, ru, rz, aw, al, sd, r, sn, g, f, b1, b2, b3, b4, c0, rfl⟩ := hm
  refine ((hS th _ lw tk st sh ru rz aw al sd r sn g f).fr [0, 14, 16, 18, 19, 2, 5, 6, 7, 8] rfl rfl (by decide)).post ?_
  rintro v w ⟨wc', ⟨hv, lw', sn', rfl⟩, -, rfl⟩ -
  refine ⟨hv, 0, lw', tk, st, sh, ru, rz, aw, al, sd, r, sn', g, f, b1, b2, b3, b4, c0, ?_⟩
  rw [if_neg ht]
  rfl
theorem mp_wg0 (hm : mSd rd F wd ac im c V P Q q D hi er se MA nm pl tr w) (ht : ¬ t = 4) (hS : ∀ th wh lw tk st sh ru rz aw al sd r sn g f, mj_Sx sta d mid as (wg (mo th tr wh (some q) rd F wd ac im lw tk st sh ru rz aw al sd) q D hi er se (MA 1) (MA 3) (MA 4) V r sn g f) (fun v w => v = some vl2 ∧ w = wg (mo 0 t (-1) (some q) rd F wd ac im lw tk st sh ru rz aw al sd) q D hi er se (MA 1) (MA 3) (MA 4) V r sn g f)) (he : vl2 = val) : mj_Sx sta d mid as w (fun v w => v = some val ∧ mSd rd F wd ac im c V P Q q D hi er se MA nm pl t w) := by
  subst he
  obtain ⟨th, lw, tk, st, sh, ru, rz, aw, al, sd, r, sn, g, f, b1, b2, b3, b4, c0, rfl⟩ := hm
  refine ((hS th _ lw tk st sh ru rz aw al sd r sn g f).fr [0, 14, 16, 18, 19, 2, 5, 6, 7, 8] rfl rfl (by decide)).post ?_
  rintro v w ⟨wc', ⟨hv, rfl⟩, -, rfl⟩ -
  refine ⟨hv, 0, lw, tk, st, sh, ru, rz, aw, al, sd, r, sn, g, f, b1, b2, b3, b4, c0, ?_⟩
  rw [if_neg ht]
  rfl
theorem mp_od (hm : mSd rd F wd ac im c V P Q q D hi er se MA nm pl tr w) (ht : ¬ t = 4) (hS : ∀ th wh lw tk st sh ru rz aw al sd, mj_Sx sta d mid as ([(mo th tr wh (some q) rd F wd ac im lw tk st sh ru rz aw al sd), mdh q D hi er se]) (fun v w => v = some vl2 ∧ w = [(mo 0 t (-1) (some q) rd F wd ac im lw tk st sh ru rz aw al sd), mdh q D hi er se])) (he : vl2 = val) : mj_Sx sta d mid as w (fun v w => v = some val ∧ mSd rd F wd ac im c V P Q q D hi er se MA nm pl t w) := by
  subst he
  obtain ⟨th, lw, tk, st, sh, ru, rz, aw, al, sd, r, sn, g, f, b1, b2, b3, b4, c0, rfl⟩ := hm
  refine ((hS th _ lw tk st sh ru rz aw al sd).fr [0, 14] rfl rfl (by decide)).post ?_
  rintro v w ⟨wc', ⟨hv, rfl⟩, -, rfl⟩ -
  refine ⟨hv, 0, lw, tk, st, sh, ru, rz, aw, al, sd, r, sn, g, f, b1, b2, b3, b4, c0, ?_⟩
  rw [if_neg ht]
  rfl
theorem mp_o (hm : mSd rd F wd ac im c V P Q q D hi er se MA nm pl tr w) (ht : ¬ t = 4) (hS : ∀ th wh lw tk st sh ru rz aw al sd, mj_Sx sta d mid as ([(mo th tr wh (some q) rd F wd ac im lw tk st sh ru rz aw al sd)]) (fun v w => v = some vl2 ∧ w = [(mo 0 t (-1) (some q) rd F wd ac im lw tk st sh ru rz aw al sd)])) (he : vl2 = val) : mj_Sx sta d mid as w (fun v w => v = some val ∧ mSd rd F wd ac im c V P Q q D hi er se MA nm pl t w) := by
  subst he
  obtain ⟨th, lw, tk, st, sh, ru, rz, aw, al, sd, r, sn, g, f, b1, b2, b3, b4, c0, rfl⟩ := hm
  refine ((hS th _ lw tk st sh ru rz aw al sd).fr [0] rfl rfl (by decide)).post ?_
  rintro v w ⟨wc', ⟨hv, rfl⟩, -, rfl⟩ -
  refine ⟨hv, 0, lw, tk, st, sh, ru, rz, aw, al, sd, r, sn, g, f, b1, b2, b3, b4, c0, ?_⟩
  rw [if_neg ht]
  rfl
theorem mp_odv (hm : mSd rd F wd ac im c V P Q q D hi er se MA nm pl tr w) (ht : ¬ t = 4) (hS : ∀ th wh lw tk st sh ru rz aw al sd, mj_Sx sta d mid as ([(mo th tr wh (some q) rd F wd ac im lw tk st sh ru rz aw al sd), mdh q D hi er se, (153, aI 28 V)]) (fun v w => v = some vl2 ∧ w = [(mo 0 t (-1) (some q) rd F wd ac im lw tk st sh ru rz aw al sd), mdh q D hi er se, (153, aI 28 V)])) (he : vl2 = val) : mj_Sx sta d mid as w (fun v w => v = some val ∧ mSd rd F wd ac im c V P Q q D hi er se MA nm pl t w) := by
  subst he
  obtain ⟨th, lw, tk, st, sh, ru, rz, aw, al, sd, r, sn, g, f, b1, b2, b3, b4, c0, rfl⟩ := hm
  refine ((hS th _ lw tk st sh ru rz aw al sd).fr [0, 14, 2] rfl rfl (by decide)).post ?_
  rintro v w ⟨wc', ⟨hv, rfl⟩, -, rfl⟩ -
  refine ⟨hv, 0, lw, tk, st, sh, ru, rz, aw, al, sd, r, sn, g, f, b1, b2, b3, b4, c0, ?_⟩
  rw [if_neg ht]
  rfl
theorem mp_ov (hm : mSd rd F wd ac im c V P Q q D hi er se MA nm pl tr w) (ht : ¬ t = 4) (hS : ∀ th wh lw tk st sh ru rz aw al sd, mj_Sx sta d mid as ([(mo th tr wh (some q) rd F wd ac im lw tk st sh ru rz aw al sd), (153, aI 28 V)]) (fun v w => v = some vl2 ∧ w = [(mo 0 t (-1) (some q) rd F wd ac im lw tk st sh ru rz aw al sd), (153, aI 28 V)])) (he : vl2 = val) : mj_Sx sta d mid as w (fun v w => v = some val ∧ mSd rd F wd ac im c V P Q q D hi er se MA nm pl t w) := by
  subst he
  obtain ⟨th, lw, tk, st, sh, ru, rz, aw, al, sd, r, sn, g, f, b1, b2, b3, b4, c0, rfl⟩ := hm
  refine ((hS th _ lw tk st sh ru rz aw al sd).fr [0, 2] rfl rfl (by decide)).post ?_
  rintro v w ⟨wc', ⟨hv, rfl⟩, -, rfl⟩ -
  refine ⟨hv, 0, lw, tk, st, sh, ru, rz, aw, al, sd, r, sn, g, f, b1, b2, b3, b4, c0, ?_⟩
  rw [if_neg ht]
  rfl
theorem mk_o (hm : mSd rd F wd ac im c V P Q q D hi er se MA nm pl tr w) (hS : ∀ th wh lw tk st sh ru rz aw al sd, mj_Sx sta d mid as ([(mo th tr wh (some q) rd F wd ac im lw tk st sh ru rz aw al sd)]) (fun v w => v = some vl2 ∧ w = [(mo 0 tr wh (some q) rd F wd ac im lw tk st sh ru rz aw al sd)])) (he : vl2 = val) : mj_Sx sta d mid as w (fun v w => v = some val ∧ mSd rd F wd ac im c V P Q q D hi er se MA nm pl tr w) := by
  subst he
  obtain ⟨th, lw, tk, st, sh, ru, rz, aw, al, sd, r, sn, g, f, b1, b2, b3, b4, c0, rfl⟩ := hm
  refine ((hS th _ lw tk st sh ru rz aw al sd).fr [0] rfl rfl (by decide)).post ?_
  rintro v w ⟨wc', ⟨hv, rfl⟩, -, rfl⟩ -
  exact ⟨hv, 0, lw, tk, st, sh, ru, rz, aw, al, sd, r, sn, g, f, b1, b2, b3, b4, c0, rfl⟩
theorem mk_odv (hm : mSd rd F wd ac im c V P Q q D hi er se MA nm pl tr w) (hS : ∀ th wh lw tk st sh ru rz aw al sd, mj_Sx sta d mid as ([(mo th tr wh (some q) rd F wd ac im lw tk st sh ru rz aw al sd), mdh q D hi er se, (153, aI 28 V)]) (fun v w => v = some vl2 ∧ w = [(mo 0 tr wh (some q) rd F wd ac im lw tk st sh ru rz aw al sd), mdh q D hi er se, (153, aI 28 V)])) (he : vl2 = val) : mj_Sx sta d mid as w (fun v w => v = some val ∧ mSd rd F wd ac im c V P Q q D hi er se MA nm pl tr w) := by
  subst he
  obtain ⟨th, lw, tk, st, sh, ru, rz, aw, al, sd, r, sn, g, f, b1, b2, b3, b4, c0, rfl⟩ := hm
  refine ((hS th _ lw tk st sh ru rz aw al sd).fr [0, 14, 2] rfl rfl (by decide)).post ?_
  rintro v w ⟨wc', ⟨hv, rfl⟩, -, rfl⟩ -
  exact ⟨hv, 0, lw, tk, st, sh, ru, rz, aw, al, sd, r, sn, g, f, b1, b2, b3, b4, c0, rfl⟩
theorem mu_o (hm : mSu rd F wd ac im c V P Q pl tr w) (ht : ¬ t = 4) (hS : ∀ th wh lw tk st sh ru rz aw al sd, mj_Sx sta d mid as ([(mo th tr wh none rd F wd ac im lw tk st sh ru rz aw al sd)]) (fun v w => v = some vl2 ∧ w = [(mo 0 t (-1) none rd F wd ac im lw tk st sh ru rz aw al sd)])) (he : vl2 = val) : mj_Sx sta d mid as w (fun v w => v = some val ∧ mSu rd F wd ac im c V P Q pl t w) := by
  subst he
  obtain ⟨th, lw, tk, st, sh, ru, rz, aw, al, sd, r, sn, g, f, b1, b2, b3, b4, c0, rfl⟩ := hm
  refine ((hS th _ lw tk st sh ru rz aw al sd).fr [0] rfl rfl (by decide)).post ?_
  rintro v w ⟨wc', ⟨hv, rfl⟩, -, rfl⟩ -
  refine ⟨hv, 0, lw, tk, st, sh, ru, rz, aw, al, sd, r, sn, g, f, b1, b2, b3, b4, c0, ?_⟩
  rw [if_neg ht]
  rfl
theorem mq_o (hm : mSu rd F wd ac im c V P Q pl tr w) (hS : ∀ th wh lw tk st sh ru rz aw al sd, mj_Sx sta d mid as ([(mo th tr wh none rd F wd ac im lw tk st sh ru rz aw al sd)]) (fun v w => v = some vl2 ∧ w = [(mo 0 tr wh none rd F wd ac im lw tk st sh ru rz aw al sd)])) (he : vl2 = val) : mj_Sx sta d mid as w (fun v w => v = some val ∧ mSu rd F wd ac im c V P Q pl tr w) := by
  subst he
  obtain ⟨th, lw, tk, st, sh, ru, rz, aw, al, sd, r, sn, g, f, b1, b2, b3, b4, c0, rfl⟩ := hm
  refine ((hS th _ lw tk st sh ru rz aw al sd).fr [0] rfl rfl (by decide)).post ?_
  rintro v w ⟨wc', ⟨hv, rfl⟩, -, rfl⟩ -
  exact ⟨hv, 0, lw, tk, st, sh, ru, rz, aw, al, sd, r, sn, g, f, b1, b2, b3, b4, c0, rfl⟩
end Mp
