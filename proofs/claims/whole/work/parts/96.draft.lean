/-! the component's draft, lifted -/
theorem pm_ab {α : Type} {S A B N N2 K V X X2 l W t : List α} : ((S ++ A ++ B ++ N ++ N2 ++ K ++ V ++ X ++ X2 ++ l ++ W) ++ t).Perm ((S ++ B ++ A ++ N ++ N2 ++ K ++ V ++ X ++ X2 ++ l ++ W) ++ t) := by
  have h : (S ++ A ++ B).Perm (S ++ B ++ A) := by
    rw [List.append_assoc, List.append_assoc]
    exact List.Perm.append_left S List.perm_append_comm
  exact (((((((((h.append_right N).append_right N2).append_right K).append_right V).append_right X).append_right X2).append_right l).append_right W).append_right t)
section Ud
variable {sta : mj_S} {d : Nat} {dr : Bool} {a b L : Nat} {fa pl en at_ be ki td va : Int32} {c na nl : Nat → Nat} {D : Nat → Nat} {DA : Nat → Nat → Nat} {D2 : Nat → Nat} {DA2 : Nat → Nat → Nat} {H : HN} {rg pa : Nat → Option Nat} {x ac im : Nat} {R P : Nat → HN} {tr : Int32} {w : mj_W}
theorem up_draft (n : Nat) (hc : cS dr a b (tpg (nI L) fa pl en at_ be ki td va) c na nl D DA D2 DA2 H rg pa x ac im R P tr w) (hn : n ≤ L) (hL : L ≤ 800) (hD2 : okD D2 DA2) (hcb : bd 256 c) : mj_Sx sta (d + 9) 69 [.ref 0, (.int (nI n))] w (fun v w' => match lAll c n 801 (rn blk_ c n 0, false, dclr D2, va_up DA2 4 (fun _ => 0), fun _ => []) with
    | .inr e => v = some (.int (-1)) ∧ ∃ en at_ be ki td va na nl D2' DA2', okD D2' DA2' ∧ cS dr a b (tpg (nI 0) (nI e.1) (nI e.2) en at_ be ki td va) c na nl D DA D2' DA2' H rg pa x ac im R P 4 w'
    | .inl t => v = some (.int (nI (t.2.2.1 1))) ∧ okD t.2.2.1 t.2.2.2.1 ∧ ∃ pl en at_ be ki td va na nl w2, w'.Perm w2 ∧ cS true b a (tpg (nI 0) (nI 0) pl en at_ be ki td va) c na nl t.2.2.1 t.2.2.2.1 D DA (nw0 t.2.2.1 t.2.2.2.1) rg pa x 0 0 R P 0 w2) := by
  obtain ⟨sl, H2, tb, sb, cl, g2, r, X, X2, kn, fi, hm, wf, wt, wc, ⟨h1, h2, h3, h4, h5⟩, rfl⟩ := hc
  refine mj_Sx.perm pmD ((s_draft sta (d + 1) c L fa pl en at_ be ki td va tr dr sl a b n (nI kn) (nI fi) (nI x) (nI ac) (nI im) na nl D2 DA2 H (fun _ => []) hn hL hD2 hcb).more _) ?_
  rintro v w ⟨u, hp, -, rfl⟩ -
  cases hA : lAll c n 801 (rn blk_ c n 0, false, dclr D2, va_up DA2 4 (fun _ => 0), fun _ => []) with
  | inr e =>
    rw [hA] at hp
    obtain ⟨hv, en', at', be', ki', td', va', na', nl', D2', DA2', hD', rfl⟩ := hp
    refine ⟨cV 4 dr sl a b (tpg (nI 0) (nI e.1) (nI e.2) en' at' be' ki' td' va') c na' nl' D DA D2' DA2' H H2 rg pa x ac im R P tb sb cl g2 r X X2 kn fi hm wf wt wc, pmD.symm, rfl, hv, en', at', be', ki', td', va', na', nl', D2', DA2', hD', sl, H2, tb, sb, cl, g2, r, X, X2, kn, fi, hm, wf, wt, wc, ⟨h1, h2, h3, h4, h5⟩, rfl⟩
  | inl t =>
    rw [hA] at hp
    obtain ⟨hv, hD', pl', en', at', be', ki', td', va', na', nl', rfl⟩ := hp
    refine ⟨([wob 0 true b a true, (1, .inr (6, tpg (nI 0) (nI 0) pl' en' at' be' ki' td' va')), (2, ab c), (3, an na'), (4, an nl')] ++ dv a D DA ++ dv b t.2.2.1 t.2.2.2.1 ++ nvH 19 (nw0 t.2.2.1 t.2.2.2.1) ++ nvH 24 H2 ++ kh rg pa x 0 0 ++ [(127, .inr (4, lob 127 tb sb cl)), (128, sq g2), (129, an r)] ++ cs7 130 X ++ cs7 137 X2 ++ wlw (nI 0) (nI 0) hm ++ wwt wf wt wc) ++ kt R P, pmD.symm, rfl, hv, hD', pl', en', at', be', ki', td', va', na', nl', cV 0 true true b a (tpg (nI 0) (nI 0) pl' en' at' be' ki' td' va') c na' nl' t.2.2.1 t.2.2.2.1 D DA (nw0 t.2.2.1 t.2.2.2.1) H2 rg pa x 0 0 R P tb sb cl g2 r X X2 0 0 hm wf wt wc, pm_ab, true, H2, tb, sb, cl, g2, r, X, X2, 0, 0, hm, wf, wt, wc, ⟨h1, h2, h3, (fun _ e => by cases e), fun _ => lwk_0⟩, rfl⟩
end Ud
