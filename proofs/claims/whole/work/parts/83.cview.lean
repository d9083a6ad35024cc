/-! the component's whole view; a call's contract lifted to it -/
abbrev cV (tr : Int32) (dr sl : Bool) (a b : Nat) (tp : List Value) (c na nl : Nat → Nat) (D : Nat → Nat) (DA : Nat → Nat → Nat) (D2 : Nat → Nat) (DA2 : Nat → Nat → Nat) (H H2 : HN) (rg pa : Nat → Option Nat) (x ac im : Nat) (R P : Nat → HN) (tb sb cl : Int32) (g2 : Nat → Option Nat) (r : Nat → Nat) (X X2 : CX) (kn fi : Nat) (hm : Nat → Int64) (wf wt : Int32) (wc : Nat → Nat → Nat) : mj_W :=
  ([wob tr dr a b sl, (1, .inr (6, tp)), (2, ab c), (3, an na), (4, an nl)] ++ dv a D DA ++ dv b D2 DA2 ++ nvH 19 H ++ nvH 24 H2 ++ kh rg pa x ac im ++ [(127, .inr (4, lob 127 tb sb cl)), (128, sq g2), (129, an r)] ++ cs7 130 X ++ cs7 137 X2 ++ wlw (nI kn) (nI fi) hm ++ wwt wf wt wc) ++ kt R P
def cok2 (dr : Bool) (D : Nat → Nat) (DA : Nat → Nat → Nat) (H : HN) (sl : Bool) (r : Nat → Nat) (X X2 : CX) (kn fi : Nat) (hm : Nat → Int64) : Prop := okX X ∧ okX X2 ∧ bd 6 r ∧ (dr = true → sl = false → csk D DA (H.1 0) (H.2.1 0) (H.2.1 1) X) ∧ (dr = true → lwk D DA (H.2.1 0) (H.2.1 1) kn fi hm)
def cS (dr : Bool) (a b : Nat) (tp : List Value) (c na nl : Nat → Nat) (D : Nat → Nat) (DA : Nat → Nat → Nat) (D2 : Nat → Nat) (DA2 : Nat → Nat → Nat) (H : HN) (rg pa : Nat → Option Nat) (x ac im : Nat) (R P : Nat → HN) (tr : Int32) (w : mj_W) : Prop := ∃ sl H2 tb sb cl g2 r X X2 kn fi hm wf wt wc, cok2 dr D DA H sl r X X2 kn fi hm ∧ w = cV tr dr sl a b tp c na nl D DA D2 DA2 H H2 rg pa x ac im R P tb sb cl g2 r X X2 kn fi hm wf wt wc
section Up
variable {sta : mj_S} {d mid : Nat} {as : List Value} {val : Value} {t : Int32} {dr : Bool} {a b : Nat} {tp : List Value} {c na nl : Nat → Nat} {D : Nat → Nat} {DA : Nat → Nat → Nat} {D2 : Nat → Nat} {DA2 : Nat → Nat → Nat} {H : HN} {rg pa : Nat → Option Nat} {x ac im : Nat} {R P : Nat → HN} {tr : Int32} {w : mj_W}
theorem up_wod (hc : cS true a b tp c na nl D DA D2 DA2 H rg pa x ac im R P tr w) (hS : ∀ sl X, okX X → (sl = false → csk D DA (H.1 0) (H.2.1 0) (H.2.1 1) X) → mj_Sx sta d mid as (wod tr true a b sl D DA H.1 H.2.1 H.2.2 X) (fun v w => v = some val ∧ ∃ sl' X', okX X' ∧ (sl' = false → csk D DA (H.1 0) (H.2.1 0) (H.2.1 1) X') ∧ w = wod 0 true a b sl' D DA H.1 H.2.1 H.2.2 X')) : mj_Sx sta d mid as w (fun v w => v = some val ∧ cS true a b tp c na nl D DA D2 DA2 H rg pa x ac im R P 0 w) := by
  obtain ⟨sl, H2, tb, sb, cl, g2, r, X, X2, kn, fi, hm, wf, wt, wc, ⟨h1, h2, h3, h4, h5⟩, rfl⟩ := hc
  refine (((hS sl X h1 (h4 rfl)).fr [0, 5, 6, 7, 8, 9, 10, 11, 19, 20, 21, 22, 23, 35, 36, 37, 38, 39, 40, 41] rfl rfl (by decide)).more (kt R P)).post ?_
  rintro v w ⟨u, ⟨wc', ⟨hv, sl', X', k1, k2, rfl⟩, -, rfl⟩, -, rfl⟩ -
  exact ⟨hv, sl', H2, tb, sb, cl, g2, r, X', X2, kn, fi, hm, wf, wt, wc, ⟨k1, h2, h3, fun _ => k2, h5⟩, rfl⟩
theorem up_wod' (hc : cS true a b tp c na nl D DA D2 DA2 H rg pa x ac im R P tr w) (hS : ∀ sl X, okX X → (sl = false → csk D DA (H.1 0) (H.2.1 0) (H.2.1 1) X) → mj_Sx sta d mid as (wod tr true a b sl D DA H.1 H.2.1 H.2.2 X) (fun v w => v = some val ∧ ∃ X', okX X' ∧ csk D DA (H.1 0) (H.2.1 0) (H.2.1 1) X' ∧ w = wod 0 true a b false D DA H.1 H.2.1 H.2.2 X')) : mj_Sx sta d mid as w (fun v w => v = some val ∧ cS true a b tp c na nl D DA D2 DA2 H rg pa x ac im R P 0 w) :=
  up_wod hc (fun sl X h1 h2 => (hS sl X h1 h2).post (fun v w hp _ => ⟨hp.1, by
    obtain ⟨-, X', k1, k2, k3⟩ := hp
    exact ⟨false, X', k1, fun _ => k2, k3⟩⟩))
theorem up_wmr (hc : cS true a b tp c na nl D DA D2 DA2 H rg pa x ac im R P tr w) (hS : ∀ sl (H2 : HN) X, okX X → mj_Sx sta d mid as (wmr tr true a b sl D DA H.1 H.2.1 H.2.2 H2.1 H2.2.1 H2.2.2 X) (fun v w => v = some val ∧ ∃ NA' X', okX X' ∧ w = wmr 0 true a b sl D DA H.1 H.2.1 H.2.2 H.1 NA' H.2.2 X')) : mj_Sx sta d mid as w (fun v w => v = some val ∧ cS true a b tp c na nl D DA D2 DA2 H rg pa x ac im R P 0 w) := by
  obtain ⟨sl, H2, tb, sb, cl, g2, r, X, X2, kn, fi, hm, wf, wt, wc, ⟨h1, h2, h3, h4, h5⟩, rfl⟩ := hc
  refine (((hS sl H2 X2 h2).fr [0, 5, 6, 7, 8, 9, 10, 11, 19, 20, 21, 22, 23, 24, 25, 26, 27, 28, 42, 43, 44, 45, 46, 47, 48] rfl rfl (by decide)).more (kt R P)).post ?_
  rintro v w ⟨u, ⟨wc', ⟨hv, NA', X', k1, rfl⟩, -, rfl⟩, -, rfl⟩ -
  exact ⟨hv, sl, (H.1, NA', H.2.2), tb, sb, cl, g2, r, X, X', kn, fi, hm, wf, wt, wc, ⟨h1, k1, h3, h4, h5⟩, rfl⟩
theorem up_wln (hc : cS true a b tp c na nl D DA D2 DA2 H rg pa x ac im R P tr w) (hS : ∀ sl X kn fi hm, okX X → lwk D DA (H.2.1 0) (H.2.1 1) kn fi hm → mj_Sx sta d mid as (wln tr true a b sl D DA H.1 H.2.1 H.2.2 X kn fi hm) (fun v w => v = some val ∧ ∃ X' kn' fi' hm', okX X' ∧ lwk D DA (H.2.1 0) (H.2.1 1) kn' fi' hm' ∧ w = wln 0 true a b sl D DA H.1 H.2.1 H.2.2 X' kn' fi' hm')) : mj_Sx sta d mid as w (fun v w => v = some val ∧ cS true a b tp c na nl D DA D2 DA2 H rg pa x ac im R P 0 w) := by
  obtain ⟨sl, H2, tb, sb, cl, g2, r, X, X2, kn, fi, hm, wf, wt, wc, ⟨h1, h2, h3, h4, h5⟩, rfl⟩ := hc
  refine (((hS sl X2 kn fi hm h2 (h5 rfl)).fr [0, 5, 6, 7, 8, 9, 10, 11, 19, 20, 21, 22, 23, 42, 43, 44, 45, 46, 47, 48, 49, 50] rfl rfl (by decide)).more (kt R P)).post ?_
  rintro v w ⟨u, ⟨wc', ⟨hv, X', kn', fi', hm', k1, k2, rfl⟩, -, rfl⟩, -, rfl⟩ -
  exact ⟨hv, sl, H2, tb, sb, cl, g2, r, X, X', kn', fi', hm', wf, wt, wc, ⟨h1, k1, h3, h4, fun _ => k2⟩, rfl⟩
theorem up_wlv (hc : cS true a b tp c na nl D DA D2 DA2 H rg pa x ac im R P tr w) {y1 y2 : Int32} {y3 : Nat → Nat → Nat} (hS : ∀ sl X fi ti c, okX X → (sl = false → csk D DA (H.1 0) (H.2.1 0) (H.2.1 1) X) → mj_Sx sta d mid as (wlv tr true a b sl D DA H.1 H.2.1 H.2.2 X fi ti c) (fun v w => v = some val ∧ ∃ X', okX X' ∧ csk D DA (H.1 0) (H.2.1 0) (H.2.1 1) X' ∧ w = wlv 0 true a b false D DA H.1 H.2.1 H.2.2 X' y1 y2 y3)) : mj_Sx sta d mid as w (fun v w => v = some val ∧ cS true a b tp c na nl D DA D2 DA2 H rg pa x ac im R P 0 w) := by
  obtain ⟨sl, H2, tb, sb, cl, g2, r, X, X2, kn, fi, hm, wf, wt, wc, ⟨h1, h2, h3, h4, h5⟩, rfl⟩ := hc
  refine (((hS sl X wf wt wc h1 (h4 rfl)).fr [0, 5, 6, 7, 8, 9, 10, 11, 19, 20, 21, 22, 23, 35, 36, 37, 38, 39, 40, 41, 51, 52, 53, 54, 55] rfl rfl (by decide)).more (kt R P)).post ?_
  rintro v w ⟨u, ⟨wc', ⟨hv, X', k1, k2, rfl⟩, -, rfl⟩, -, rfl⟩ -
  exact ⟨hv, false, H2, tb, sb, cl, g2, r, X', X2, kn, fi, hm, y1, y2, y3, ⟨k1, h2, h3, fun _ _ => k2, h5⟩, rfl⟩
theorem up_wrv (hc : cS true a b tp c na nl D DA D2 DA2 H rg pa x ac im R P tr w) (hS : ∀ sl tb sb cl g2 r, bd 6 r → mj_Sx sta d mid as (wrv tr true a b sl D DA H.1 H.2.1 H.2.2 tb sb cl g2 r) (fun v w => v = some val ∧ ∃ tb sb cl g2 r', bd 6 r' ∧ w = wrv t true a b sl D DA H.1 H.2.1 H.2.2 tb sb cl g2 r')) : mj_Sx sta d mid as w (fun v w => v = some val ∧ cS true a b tp c na nl D DA D2 DA2 H rg pa x ac im R P t w) := by
  obtain ⟨sl, H2, tb, sb, cl, g2, r, X, X2, kn, fi, hm, wf, wt, wc, ⟨h1, h2, h3, h4, h5⟩, rfl⟩ := hc
  refine (((hS sl tb sb cl g2 r h3).fr [0, 5, 6, 7, 8, 9, 10, 11, 19, 20, 21, 22, 23, 32, 33, 34] rfl rfl (by decide)).more (kt R P)).post ?_
  rintro v w ⟨u, ⟨wc', ⟨hv, tb', sb', cl', g2', r', k1, rfl⟩, -, rfl⟩, -, rfl⟩ -
  exact ⟨hv, sl, H2, tb', sb', cl', g2', r', X, X2, kn, fi, hm, wf, wt, wc, ⟨h1, h2, k1, h4, h5⟩, rfl⟩
theorem up_wgo (hc : cS true a b tp c na nl D DA D2 DA2 H rg pa x ac im R P tr w) (hS : ∀ sl tb sb cl, mj_Sx sta d mid as (wmn tr true a b sl D DA H.1 H.2.1 H.2.2 ++ [(127, .inr (4, lob 127 tb sb cl))]) (fun v w => v = some val ∧ w = wmn t true a b sl D DA H.1 H.2.1 H.2.2 ++ [(127, .inr (4, lob 127 tb sb cl))])) : mj_Sx sta d mid as w (fun v w => v = some val ∧ cS true a b tp c na nl D DA D2 DA2 H rg pa x ac im R P t w) := by
  obtain ⟨sl, H2, tb, sb, cl, g2, r, X, X2, kn, fi, hm, wf, wt, wc, hok, rfl⟩ := hc
  refine (((hS sl tb sb cl).fr [0, 5, 6, 7, 8, 9, 10, 11, 19, 20, 21, 22, 23, 32] rfl rfl (by decide)).more (kt R P)).post ?_
  rintro v w ⟨u, ⟨wc', ⟨hv, rfl⟩, -, rfl⟩, -, rfl⟩ -
  exact ⟨hv, sl, H2, tb, sb, cl, g2, r, X, X2, kn, fi, hm, wf, wt, wc, hok, rfl⟩
theorem up_wmn (hc : cS true a b tp c na nl D DA D2 DA2 H rg pa x ac im R P tr w) (hS : ∀ sl, mj_Sx sta d mid as (wmn tr true a b sl D DA H.1 H.2.1 H.2.2) (fun v w => v = some val ∧ w = wmn t true a b sl D DA H.1 H.2.1 H.2.2)) : mj_Sx sta d mid as w (fun v w => v = some val ∧ cS true a b tp c na nl D DA D2 DA2 H rg pa x ac im R P t w) := by
  obtain ⟨sl, H2, tb, sb, cl, g2, r, X, X2, kn, fi, hm, wf, wt, wc, hok, rfl⟩ := hc
  refine (((hS sl).fr [0, 5, 6, 7, 8, 9, 10, 11, 19, 20, 21, 22, 23] rfl rfl (by decide)).more (kt R P)).post ?_
  rintro v w ⟨u, ⟨wc', ⟨hv, rfl⟩, -, rfl⟩, -, rfl⟩ -
  exact ⟨hv, sl, H2, tb, sb, cl, g2, r, X, X2, kn, fi, hm, wf, wt, wc, hok, rfl⟩
theorem up_od (hc : cS dr a b tp c na nl D DA D2 DA2 H rg pa x ac im R P tr w) (hS : ∀ sl, mj_Sx sta d mid as [wob tr dr a b sl, dhd a D] (fun v w => v = some val ∧ w = [wob t dr a b sl, dhd a D])) : mj_Sx sta d mid as w (fun v w => v = some val ∧ cS dr a b tp c na nl D DA D2 DA2 H rg pa x ac im R P t w) := by
  obtain ⟨sl, H2, tb, sb, cl, g2, r, X, X2, kn, fi, hm, wf, wt, wc, hok, rfl⟩ := hc
  refine (((hS sl).fr [0, 5] rfl rfl (by decide)).more (kt R P)).post ?_
  rintro v w ⟨u, ⟨wc', ⟨hv, rfl⟩, -, rfl⟩, -, rfl⟩ -
  exact ⟨hv, sl, H2, tb, sb, cl, g2, r, X, X2, kn, fi, hm, wf, wt, wc, hok, rfl⟩
theorem up_o (hc : cS dr a b tp c na nl D DA D2 DA2 H rg pa x ac im R P tr w) (hS : ∀ sl, mj_Sx sta d mid as [wob tr dr a b sl] (fun v w => v = some val ∧ w = [wob t dr a b sl])) : mj_Sx sta d mid as w (fun v w => v = some val ∧ cS dr a b tp c na nl D DA D2 DA2 H rg pa x ac im R P t w) := by
  obtain ⟨sl, H2, tb, sb, cl, g2, r, X, X2, kn, fi, hm, wf, wt, wc, hok, rfl⟩ := hc
  refine (((hS sl).fr [0] rfl rfl (by decide)).more (kt R P)).post ?_
  rintro v w ⟨u, ⟨wc', ⟨hv, rfl⟩, -, rfl⟩, -, rfl⟩ -
  exact ⟨hv, sl, H2, tb, sb, cl, g2, r, X, X2, kn, fi, hm, wf, wt, wc, hok, rfl⟩
theorem up_odn (hc : cS dr a b tp c na nl D DA D2 DA2 H rg pa x ac im R P tr w) (hS : ∀ sl, mj_Sx sta d mid as ([wob tr dr a b sl, dhd a D] ++ nvH 19 H) (fun v w => v = some val ∧ w = [wob t dr a b sl, dhd a D] ++ nvH 19 H)) : mj_Sx sta d mid as w (fun v w => v = some val ∧ cS dr a b tp c na nl D DA D2 DA2 H rg pa x ac im R P t w) := by
  obtain ⟨sl, H2, tb, sb, cl, g2, r, X, X2, kn, fi, hm, wf, wt, wc, hok, rfl⟩ := hc
  refine (((hS sl).fr [0, 5, 19, 20, 21, 22, 23] rfl rfl (by decide)).more (kt R P)).post ?_
  rintro v w ⟨u, ⟨wc', ⟨hv, rfl⟩, -, rfl⟩, -, rfl⟩ -
  exact ⟨hv, sl, H2, tb, sb, cl, g2, r, X, X2, kn, fi, hm, wf, wt, wc, hok, rfl⟩
theorem up_on (hc : cS dr a b tp c na nl D DA D2 DA2 H rg pa x ac im R P tr w) (hS : ∀ sl, mj_Sx sta d mid as ([wob tr dr a b sl] ++ nvH 19 H) (fun v w => v = some val ∧ w = [wob t dr a b sl] ++ nvH 19 H)) : mj_Sx sta d mid as w (fun v w => v = some val ∧ cS dr a b tp c na nl D DA D2 DA2 H rg pa x ac im R P t w) := by
  obtain ⟨sl, H2, tb, sb, cl, g2, r, X, X2, kn, fi, hm, wf, wt, wc, hok, rfl⟩ := hc
  refine (((hS sl).fr [0, 19, 20, 21, 22, 23] rfl rfl (by decide)).more (kt R P)).post ?_
  rintro v w ⟨u, ⟨wc', ⟨hv, rfl⟩, -, rfl⟩, -, rfl⟩ -
  exact ⟨hv, sl, H2, tb, sb, cl, g2, r, X, X2, kn, fi, hm, wf, wt, wc, hok, rfl⟩
theorem up_ot (hc : cS dr a b tp c na nl D DA D2 DA2 H rg pa x ac im R P tr w) (hS : ∀ sl, mj_Sx sta d mid as [wob tr dr a b sl, (1, .inr (6, tp))] (fun v w => v = some val ∧ w = [wob t dr a b sl, (1, .inr (6, tp))])) : mj_Sx sta d mid as w (fun v w => v = some val ∧ cS dr a b tp c na nl D DA D2 DA2 H rg pa x ac im R P t w) := by
  obtain ⟨sl, H2, tb, sb, cl, g2, r, X, X2, kn, fi, hm, wf, wt, wc, hok, rfl⟩ := hc
  refine (((hS sl).fr [0, 1] rfl rfl (by decide)).more (kt R P)).post ?_
  rintro v w ⟨u, ⟨wc', ⟨hv, rfl⟩, -, rfl⟩, -, rfl⟩ -
  exact ⟨hv, sl, H2, tb, sb, cl, g2, r, X, X2, kn, fi, hm, wf, wt, wc, hok, rfl⟩
theorem up_ok (hc : cS dr a b tp c na nl D DA D2 DA2 H rg pa x ac im R P tr w) (hS : ∀ sl, mj_Sx sta d mid as [wob tr dr a b sl, (29, .inr (2, kob (nI x) (nI ac) (nI im)))] (fun v w => v = some val ∧ w = [wob t dr a b sl, (29, .inr (2, kob (nI x) (nI ac) (nI im)))])) : mj_Sx sta d mid as w (fun v w => v = some val ∧ cS dr a b tp c na nl D DA D2 DA2 H rg pa x ac im R P t w) := by
  obtain ⟨sl, H2, tb, sb, cl, g2, r, X, X2, kn, fi, hm, wf, wt, wc, hok, rfl⟩ := hc
  refine (((hS sl).fr [0, 29] rfl rfl (by decide)).more (kt R P)).post ?_
  rintro v w ⟨u, ⟨wc', ⟨hv, rfl⟩, -, rfl⟩, -, rfl⟩ -
  exact ⟨hv, sl, H2, tb, sb, cl, g2, r, X, X2, kn, fi, hm, wf, wt, wc, hok, rfl⟩
theorem up_sz (hc : cS dr a b tp c na nl D DA D2 DA2 H rg pa x ac im R P tr w) (hS : ∀ sl, mj_Sx sta d mid as [wob tr dr a b sl, dhd a D, nhd 19 H.1, (29, .inr (2, kob (nI x) (nI ac) (nI im)))] (fun v w => v = some val ∧ w = [wob t dr a b sl, dhd a D, nhd 19 H.1, (29, .inr (2, kob (nI x) (nI ac) (nI im)))])) : mj_Sx sta d mid as w (fun v w => v = some val ∧ cS dr a b tp c na nl D DA D2 DA2 H rg pa x ac im R P t w) := by
  obtain ⟨sl, H2, tb, sb, cl, g2, r, X, X2, kn, fi, hm, wf, wt, wc, hok, rfl⟩ := hc
  refine (((hS sl).fr [0, 5, 19, 29] rfl rfl (by decide)).more (kt R P)).post ?_
  rintro v w ⟨u, ⟨wc', ⟨hv, rfl⟩, -, rfl⟩, -, rfl⟩ -
  exact ⟨hv, sl, H2, tb, sb, cl, g2, r, X, X2, kn, fi, hm, wf, wt, wc, hok, rfl⟩
theorem up_e (hc : cS dr a b tp c na nl D DA D2 DA2 H rg pa x ac im R P tr w) (hS : mj_Sx sta d mid as [] (fun v w => v = some val ∧ w = [])) : mj_Sx sta d mid as w (fun v w => v = some val ∧ cS dr a b tp c na nl D DA D2 DA2 H rg pa x ac im R P tr w) := by
  refine (hS.more w).post ?_
  rintro v w ⟨u, ⟨hv, rfl⟩, -, rfl⟩ -
  exact ⟨hv, hc⟩
end Up
