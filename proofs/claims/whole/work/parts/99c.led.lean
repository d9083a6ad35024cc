/-! led, in a turn of the law -/
def thr (sta : mj_S) (d : Nat) (k : Int32) (u : mj_W) : Prop := mj_Sx sta d 160 [.ref 151] u (fun v u' => v = some (.int k) ∧ u' = u)
/-- the component finds nobody -/
def lno (sta : mj_S) (d : Nat) (i : Int32) (w : mj_W) : Prop := ∀ h, mj_vw w h → ∃ h1, mj_Vw h w h1 ∧ mj_go sta (mj_Cl sta d) m_X8_led (fun pc _ st g => pc = 68 ∧ st = [] ∧ g = h1) 0 (mj_e0 (mj_mx m_X8_led) [.ref 0, .int i]) [] h
section Ld
variable {sta : mj_S} {d Bd : Nat} {tr : Int32} {w u : mj_W}
theorem lno.more {i : Int32} (t : mj_W) (hS : lno sta d i w) : lno sta d i (w ++ t) := by
  intro h hv
  obtain ⟨h1, a1, b1⟩ := hS h hv.pre
  exact ⟨h1, hv.V.preC rfl a1, b1⟩
theorem lno.fr {i : Int32} {wc : mj_W} (is : List Nat) (hpk : mj_pk w is = wc) (hil : wc.length = is.length) (hnd : is.Nodup) (hpb : mj_pb w is wc = w) (hS : lno sta d i wc) : lno sta d i w := by
  subst hpk
  intro h hv
  obtain ⟨h1, a1, b1⟩ := hS h (mj_Vw.pick (h0 := h) hv.V hil hnd)
  refine ⟨h1, ?_, b1⟩
  have h5 := mj_Vw.call (h0 := h) hv.V hil hnd rfl a1
  rw [hpb] at h5
  exact h5
theorem lno_0 {dr sl : Bool} {a b : Nat} {H : HN} {i : Int32} (hN : okN H.1 H.2.1 H.2.2) (hl : ldr (gnZ dr H) i 6 0 0 = none) : lno sta (d + 1) i ([wob tr dr a b sl] ++ nvH 19 H) := by
  intro h hp
  have hg := l_led sta d tr dr sl a b H (h0 := h) (T := fun pc _ st g => pc = 68 ∧ st = [] ∧ mj_Vw h ([wob tr dr a b sl] ++ nvH 19 H) g) i hN hp.V (fun m g lv _ e => by rw [hl] at e; cases e) (fun g lv hg _ => mj_go.here ⟨rfl, rfl, hg⟩)
  obtain ⟨pc1, lv1, st1, h1, ⟨e1, e2, h3⟩, h4⟩ := hg.ex
  exact ⟨h1, h3, mj_go.trans h4 (fun pc lv st g hh => mj_go.here ⟨hh.1.trans e1, hh.2.2.1.trans e2, hh.2.2.2⟩)⟩
theorem lno_of {dr : Bool} {a b : Nat} {tp : List Value} {c na nl : Nat → Nat} {D : Nat → Nat} {DA : Nat → Nat → Nat} {D2 : Nat → Nat} {DA2 : Nat → Nat → Nat} {H : HN} {rg pa : Nat → Option Nat} {x ac im : Nat} {R P : Nat → HN} {i : Int32} (hc : cS dr a b tp c na nl D DA D2 DA2 H rg pa x ac im R P tr w) (hN : okN H.1 H.2.1 H.2.2) (hl : ldr (gnZ dr H) i 6 0 0 = none) : lno sta (d + 1) i w := by
  obtain ⟨sl, H2, tb, sb, cl, g2, r, X, X2, kn, fi, hm, wf, wt, wc, hok, rfl⟩ := hc
  refine lno.more (kt R P) ?_
  refine lno.fr (wc := [wob tr dr a b sl] ++ nvH 19 H) [0, 19, 20, 21, 22, 23] ?_ rfl (by decide) ?_ (lno_0 hN hl)
  · rfl
  · rfl
theorem J_led (i : Int32) (hJ : J sta Bd tr w u) : (∃ (m : Nat) (CP MP : mj_W → Prop), mj_Sx sta (d + 8) 128 [.ref 0, .int i] w (fun v w' => v = some (.int (nI m)) ∧ CP w') ∧ mj_Sx sta (d + 9) 279 [.ref 151, .int i] u (fun v u' => v = some (.int (nI m)) ∧ MP u') ∧ ∀ w' u', CP w' → MP u' → J sta (Bd + 1) tr w' u' ∧ thr sta (d + 9) 0 u') ∨ (∃ MP : mj_W → Prop, lno sta (d + 7) i w ∧ mj_Sx sta (d + 9) 279 [.ref 151, .int i] u (fun v u' => v = some (.int 0) ∧ MP u') ∧ ∀ u', MP u' → J sta (Bd + 1) tr w u' ∧ thr sta (d + 9) 1 u') := by
  rcases hJ with ⟨a, b, L, fa, pl, en, at_, be, ki, td, va, c, na, nl, D, DA, D2, DA2, H, rg, pa, x, ac, im, R, P, rd, F, wd, V, PP, QQ, q, MA, nm, h1, h2, h3, h4, h5, h6, h7, h8, h9⟩ | ⟨a, b, L, fa, pl, en, at_, be, ki, td, va, c, na, nl, D, DA, D2, DA2, H, rg, pa, x, R, P, rd, F, wd, mac, mim, V, PP, QQ, h1, h2, h3, h4, h5, h6, h7, h8, h9⟩
  · have hN := h4.1
    have hn : D 1 ≤ 6 := h3.2.1.2.1
    have h4' := h4
    obtain ⟨-, SN, C, FR, -, -, -, hy⟩ := h4'
    have hle := led_eq hy hn i
    obtain ⟨b1, b2, b3, b4, b5, b6, b7, b8, b9, b10⟩ := hy
    obtain ⟨th, lw, tk, st, sh, ru, rz, aw, al, sd, r, sn, g, f, c1, c2, c3, c4, c0, hu⟩ := h2
    have jj : ∀ (k : Int32) (w' : mj_W), cS true a b (tpg (nI L) fa pl en at_ be ki td va) c na nl D DA D2 DA2 H rg pa x ac im R P tr w' → J sta (Bd + 1) tr w' (mVd rd F wd (nI ac) (nI im) c V PP QQ q D (hiI D) (erI D) (seI D) MA nm tr (if tr = 4 then pl else -1) k lw tk st sh ru rz aw al sd r sn g f c1 c2 c3 c4 c0) := fun k w' hw => Or.inl ⟨a, b, L, fa, pl, en, at_, be, ki, td, va, c, na, nl, D, DA, D2, DA2, H, rg, pa, x, ac, im, R, P, rd, F, wd, V, PP, QQ, q, MA, nm, hw, ⟨k, lw, tk, st, sh, ru, rz, aw, al, sd, r, sn, g, f, c1, c2, c3, c4, c0, rfl⟩, h3, nrel_B h4 (by omega), hrel_B h5 (by omega), irel_B h6 (by omega), h7, h8, h9⟩
    have tt : ∀ k : Int32, thr sta (d + 9) k (mVd rd F wd (nI ac) (nI im) c V PP QQ q D (hiI D) (erI D) (seI D) MA nm tr (if tr = 4 then pl else -1) k lw tk st sh ru rz aw al sd r sn g f c1 c2 c3 c4 c0) := by
      intro k
      refine ((s_Mthrown sta (d + 8) k tr (if tr = 4 then pl else -1) (some q) rd F wd (nI ac) (nI im) lw tk st sh ru rz aw al sd).fr [0] rfl rfl (by decide)).post ?_
      rintro v w' ⟨wc', ⟨hv, rfl⟩, -, rfl⟩ -
      exact ⟨hv, rfl⟩
    have sM := (s_Mled sta (d + 6) th tr (if tr = 4 then pl else -1) q rd F wd (nI ac) (nI im) lw tk st sh ru rz aw al sd V D (hiI D) (erI D) (seI D) i (H.1 3) FR hn b1 hN.2.2.1 b6 b7)
    subst hu
    cases hm : ldr (gnZ true H) i 6 0 0 with
    | some m =>
      rw [← hle, hm] at sM
      refine Or.inl ⟨m, cS true a b (tpg (nI L) fa pl en at_ be ki td va) c na nl D DA D2 DA2 H rg pa x ac im R P tr, fun u' => u' = mVd rd F wd (nI ac) (nI im) c V PP QQ q D (hiI D) (erI D) (seI D) MA nm tr (if tr = 4 then pl else -1) 0 lw tk st sh ru rz aw al sd r sn g f c1 c2 c3 c4 c0, up_on h1 (fun sl => s_led sta (d + 6) tr true sl a b H i m hN hm), (sM.fr [0, 14, 2] rfl rfl (by decide)).post ?_, ?_⟩
      · rintro v w' ⟨wc', ⟨hv, rfl⟩, -, rfl⟩ -
        exact ⟨hv, rfl⟩
      · rintro w' u' hw rfl
        exact ⟨jj 0 w' hw, tt 0⟩
    | none =>
      rw [← hle, hm] at sM
      refine Or.inr ⟨fun u' => u' = mVd rd F wd (nI ac) (nI im) c V PP QQ q D (hiI D) (erI D) (seI D) MA nm tr (if tr = 4 then pl else -1) 1 lw tk st sh ru rz aw al sd r sn g f c1 c2 c3 c4 c0, lno_of (d := d + 6) h1 hN hm, (sM.fr [0, 14, 2] rfl rfl (by decide)).post ?_, ?_⟩
      · rintro v w' ⟨wc', ⟨hv, rfl⟩, -, rfl⟩ -
        exact ⟨hv, rfl⟩
      · rintro u' rfl
        exact ⟨jj 1 w h1, tt 1⟩
  · obtain ⟨th, lw, tk, st, sh, ru, rz, aw, al, sd, r, sn, g, f, c1, c2, c3, c4, c0, hu⟩ := h2
    subst hu
    refine Or.inr ⟨fun u' => u' = mVu rd F wd mac mim c V PP QQ tr (if tr = 4 then pl else -1) 1 lw tk st sh ru rz aw al sd r sn g f c1 c2 c3 c4 c0, lno_of (d := d + 6) h1 h8 (led_u i), ((s_Mled_u sta (d + 8) th tr (if tr = 4 then pl else -1) rd F wd mac mim lw tk st sh ru rz aw al sd i).fr [0] rfl rfl (by decide)).post ?_, ?_⟩
    · rintro v w' ⟨wc', ⟨hv, rfl⟩, -, rfl⟩ -
      exact ⟨hv, rfl⟩
    · rintro u' rfl
      refine ⟨Or.inr ⟨a, b, L, fa, pl, en, at_, be, ki, td, va, c, na, nl, D, DA, D2, DA2, H, rg, pa, x, R, P, rd, F, wd, mac, mim, V, PP, QQ, h1, ⟨1, lw, tk, st, sh, ru, rz, aw, al, sd, r, sn, g, f, c1, c2, c3, c4, c0, rfl⟩, h3, h4, h5, h6, h7, h8, h9⟩, ?_⟩
      refine ((s_Mthrown sta (d + 8) 1 tr (if tr = 4 then pl else -1) none rd F wd mac mim lw tk st sh ru rz aw al sd).fr [0] rfl rfl (by decide)).post ?_
      rintro v w' ⟨wc', ⟨hv, rfl⟩, -, rfl⟩ -
      exact ⟨hv, rfl⟩
end Ld
