/-! acts of the component, lifted to its whole view -/
theorem pmA {α : Type} {o l h t1 t2 t3 t4 : α} {A B N N2 K V X X2 W t : List α} : (([o, t1, t2, t3, t4] ++ A ++ B ++ N ++ N2 ++ K ++ V ++ X ++ X2 ++ [l, h] ++ W) ++ t).Perm ((([o, l] ++ A ++ N ++ K) ++ t) ++ ([t1, t2, t3, t4] ++ B ++ N2 ++ V ++ X ++ X2 ++ [h] ++ W)) := by
  let f : Nat → List α := fun i => match i with
    | 0 => [o] | 1 => [t1, t2, t3, t4] | 2 => A | 3 => B | 4 => N | 5 => N2 | 6 => K | 7 => V | 8 => X | 9 => X2 | 10 => [l] | 11 => [h] | 12 => W | _ => t
  have hp : ([0, 1, 2, 3, 4, 5, 6, 7, 8, 9, 10, 11, 12, 13] : List Nat).Perm [0, 10, 2, 4, 6, 13, 1, 3, 5, 7, 8, 9, 11, 12] := by decide
  have h2 := (hp.map f).flatten
  have e1 : (List.map f [0, 1, 2, 3, 4, 5, 6, 7, 8, 9, 10, 11, 12, 13]).flatten = (([o, t1, t2, t3, t4] ++ A ++ B ++ N ++ N2 ++ K ++ V ++ X ++ X2 ++ [l, h] ++ W) ++ t) := by
    show [[o], [t1, t2, t3, t4], A, B, N, N2, K, V, X, X2, [l], [h], W, t].flatten = _
    simp [List.append_assoc]
  have e2 : (List.map f [0, 10, 2, 4, 6, 13, 1, 3, 5, 7, 8, 9, 11, 12]).flatten = ((([o, l] ++ A ++ N ++ K) ++ t) ++ ([t1, t2, t3, t4] ++ B ++ N2 ++ V ++ X ++ X2 ++ [h] ++ W)) := by
    show [[o], [l], A, N, K, t, [t1, t2, t3, t4], B, N2, V, X, X2, [h], W].flatten = _
    simp [List.append_assoc]
  rw [e1, e2] at h2
  exact h2
theorem pmH {α : Type} {o l h t1 t2 t3 t4 : α} {A B N N2 K V X X2 W t : List α} : (([o, t1, t2, t3, t4] ++ A ++ B ++ N ++ N2 ++ K ++ V ++ X ++ X2 ++ [l, h] ++ W) ++ t).Perm ((([o, l] ++ A ++ V ++ N ++ K) ++ t) ++ ([t1, t2, t3, t4] ++ B ++ N2 ++ X ++ X2 ++ [h] ++ W)) := by
  let f : Nat → List α := fun i => match i with
    | 0 => [o] | 1 => [t1, t2, t3, t4] | 2 => A | 3 => B | 4 => N | 5 => N2 | 6 => K | 7 => V | 8 => X | 9 => X2 | 10 => [l] | 11 => [h] | 12 => W | _ => t
  have hp : ([0, 1, 2, 3, 4, 5, 6, 7, 8, 9, 10, 11, 12, 13] : List Nat).Perm [0, 10, 2, 7, 4, 6, 13, 1, 3, 5, 8, 9, 11, 12] := by decide
  have h2 := (hp.map f).flatten
  have e1 : (List.map f [0, 1, 2, 3, 4, 5, 6, 7, 8, 9, 10, 11, 12, 13]).flatten = (([o, t1, t2, t3, t4] ++ A ++ B ++ N ++ N2 ++ K ++ V ++ X ++ X2 ++ [l, h] ++ W) ++ t) := by
    show [[o], [t1, t2, t3, t4], A, B, N, N2, K, V, X, X2, [l], [h], W, t].flatten = _
    simp [List.append_assoc]
  have e2 : (List.map f [0, 10, 2, 7, 4, 6, 13, 1, 3, 5, 8, 9, 11, 12]).flatten = ((([o, l] ++ A ++ V ++ N ++ K) ++ t) ++ ([t1, t2, t3, t4] ++ B ++ N2 ++ X ++ X2 ++ [h] ++ W)) := by
    show [[o], [l], A, V, N, K, t, [t1, t2, t3, t4], B, N2, X, X2, [h], W].flatten = _
    simp [List.append_assoc]
  rw [e1, e2] at h2
  exact h2
theorem pmD {α : Type} {o l h t1 t2 t3 t4 k0 : α} {A B N N2 K V X X2 W t : List α} : (([o, t1, t2, t3, t4] ++ A ++ B ++ N ++ N2 ++ (k0 :: K) ++ V ++ X ++ X2 ++ [l, h] ++ W) ++ t).Perm (([o, l] ++ ([t1, t2, t3, t4] ++ B) ++ N ++ [k0]) ++ (A ++ N2 ++ K ++ V ++ X ++ X2 ++ [h] ++ W ++ t)) := by
  let f : Nat → List α := fun i => match i with
    | 0 => [o] | 1 => [t1, t2, t3, t4] | 2 => A | 3 => B | 4 => N | 5 => N2 | 6 => K | 7 => V | 8 => X | 9 => X2 | 10 => [l] | 11 => [h] | 12 => W | 13 => t | _ => [k0]
  have hp : ([0, 1, 2, 3, 4, 5, 14, 6, 7, 8, 9, 10, 11, 12, 13] : List Nat).Perm [0, 10, 1, 3, 4, 14, 2, 5, 6, 7, 8, 9, 11, 12, 13] := by decide
  have h2 := (hp.map f).flatten
  have e1 : (List.map f [0, 1, 2, 3, 4, 5, 14, 6, 7, 8, 9, 10, 11, 12, 13]).flatten = (([o, t1, t2, t3, t4] ++ A ++ B ++ N ++ N2 ++ (k0 :: K) ++ V ++ X ++ X2 ++ [l, h] ++ W) ++ t) := by
    show [[o], [t1, t2, t3, t4], A, B, N, N2, [k0], K, V, X, X2, [l], [h], W, t].flatten = _
    simp [List.append_assoc]
  have e2 : (List.map f [0, 10, 1, 3, 4, 14, 2, 5, 6, 7, 8, 9, 11, 12, 13]).flatten = (([o, l] ++ ([t1, t2, t3, t4] ++ B) ++ N ++ [k0]) ++ (A ++ N2 ++ K ++ V ++ X ++ X2 ++ [h] ++ W ++ t)) := by
    show [[o], [l], [t1, t2, t3, t4], B, N, [k0], A, N2, K, V, X, X2, [h], W, t].flatten = _
    simp [List.append_assoc]
  rw [e1, e2] at h2
  exact h2
theorem kt_ks {R P R' P' : Nat → HN} : mj_ks (kt R P) = mj_ks (kt R' P') := by
  unfold kt
  rw [mj_ks_app, mj_ks_app, fam_ks (R' := R') 0 16, fam_ks (R' := P') 0 3]
theorem lwk_0 {D : Nat → Nat} {DA : Nat → Nat → Nat} {sn C : Nat → Nat} {hm : Nat → Int64} : lwk D DA sn C 0 0 hm := ⟨by decide, by decide, fun l _ => ⟨(fun h => by rw [Nat.zero_testBit] at h; cases h), fun _ => Nat.zero_testBit l⟩⟩
section Ua
variable {sta : mj_S} {d mid : Nat} {as : List Value} {val : Value} {t : Int32} {dr : Bool} {a b : Nat} {tp : List Value} {c na nl : Nat → Nat} {D : Nat → Nat} {DA : Nat → Nat → Nat} {D2 : Nat → Nat} {DA2 : Nat → Nat → Nat} {H H' : HN} {rg pa : Nat → Option Nat} {x ac im x' ac' im' : Nat} {R P R' P' : Nat → HN} {tr : Int32} {w : mj_W}
theorem up_wacC (hc : cS true a b tp c na nl D DA D2 DA2 H rg pa x ac im R P tr w) (hS : ∀ sl kn fi, mj_Sx sta d mid as (wac tr true a b sl D DA kn fi rg pa x ac im R P H) (fun v w => v = some val ∧ w = wac 0 true a b true D DA 0 0 rg pa x' ac' im' R' P' H')) : mj_Sx sta d mid as w (fun v w => v = some val ∧ cS true a b tp c na nl D DA D2 DA2 H' rg pa x' ac' im' R' P'  0 w) := by
  obtain ⟨sl, H2, tb, sb, cl, g2, r, X, X2, kn, fi, hm, wf, wt, wc, ⟨h1, h2, h3, h4, h5⟩, rfl⟩ := hc
  refine mj_Sx.perm pmA ((hS sl (nI kn) (nI fi)).more _) ?_
  rintro v w ⟨u, ⟨hv, rfl⟩, -, rfl⟩ -
  refine ⟨cV 0 true true a b tp c na nl D DA D2 DA2 H' H2 rg pa x' ac' im' R' P' tb sb cl g2 r X X2 0 0 hm wf wt wc, ?_, ?_, hv, true, H2, tb, sb, cl, g2, r, X, X2, 0, 0, hm, wf, wt, wc, ⟨h1, h2, h3, (fun _ e => by cases e), fun _ => lwk_0⟩, rfl⟩
  · exact pmA.symm
  · rw [mj_ks_app, kt_ks (R' := R) (P' := P), ← mj_ks_app]
    rfl
theorem up_wacK (hc : cS true a b tp c na nl D DA D2 DA2 H rg pa x ac im R P tr w) (e0 : H'.1 0 = H.1 0) (e1 : H'.2.1 0 = H.2.1 0) (e2 : H'.2.1 1 = H.2.1 1) (hS : ∀ sl kn fi, mj_Sx sta d mid as (wac tr true a b sl D DA kn fi rg pa x ac im R P H) (fun v w => v = some val ∧ w = wac 0 true a b sl D DA kn fi rg pa x' ac' im' R' P' H')) : mj_Sx sta d mid as w (fun v w => v = some val ∧ cS true a b tp c na nl D DA D2 DA2 H' rg pa x' ac' im' R' P'  0 w) := by
  obtain ⟨sl, H2, tb, sb, cl, g2, r, X, X2, kn, fi, hm, wf, wt, wc, ⟨h1, h2, h3, h4, h5⟩, rfl⟩ := hc
  refine mj_Sx.perm pmA ((hS sl (nI kn) (nI fi)).more _) ?_
  rintro v w ⟨u, ⟨hv, rfl⟩, -, rfl⟩ -
  refine ⟨cV 0 true sl a b tp c na nl D DA D2 DA2 H' H2 rg pa x' ac' im' R' P' tb sb cl g2 r X X2 kn fi hm wf wt wc, ?_, ?_, hv, sl, H2, tb, sb, cl, g2, r, X, X2, kn, fi, hm, wf, wt, wc, ⟨h1, h2, h3, by rw [e0, e1, e2]; exact h4, by rw [e1, e2]; exact h5⟩, rfl⟩
  · exact pmA.symm
  · rw [mj_ks_app, kt_ks (R' := R) (P' := P), ← mj_ks_app]
    rfl
theorem up_wah {K : HN → Prop} (hc : cS true a b tp c na nl D DA D2 DA2 H rg pa x ac im R P tr w) (hS : ∀ sl kn fi tb sb cl g2 r, bd 6 r → mj_Sx sta d mid as (wah tr true a b sl D DA kn fi tb sb cl g2 r rg pa x ac im R P H) (fun v w => v = some val ∧ ∃ tb sb cl g2 r' H', bd 6 r' ∧ K H' ∧ w = wah 0 true a b true D DA 0 0 tb sb cl g2 r' rg pa x' ac' im' R' P' H')) : mj_Sx sta d mid as w (fun v w => v = some val ∧ ∃ H', K H' ∧ cS true a b tp c na nl D DA D2 DA2 H' rg pa x' ac' im' R' P'  0 w) := by
  obtain ⟨sl, H2, tb, sb, cl, g2, r, X, X2, kn, fi, hm, wf, wt, wc, ⟨h1, h2, h3, h4, h5⟩, rfl⟩ := hc
  refine mj_Sx.perm pmH ((hS sl (nI kn) (nI fi) tb sb cl g2 r h3).more _) ?_
  rintro v w ⟨u, ⟨hv, tb, sb, cl, g2, r', H', hr', hK, rfl⟩, -, rfl⟩ -
  refine ⟨cV 0 true true a b tp c na nl D DA D2 DA2 H' H2 rg pa x' ac' im' R' P' tb sb cl g2 r' X X2 0 0 hm wf wt wc, ?_, ?_, hv, H', hK, true, H2, tb, sb, cl, g2, r', X, X2, 0, 0, hm, wf, wt, wc, ⟨h1, h2, hr', (fun _ e => by cases e), fun _ => lwk_0⟩, rfl⟩
  · exact pmH.symm
  · rw [mj_ks_app, kt_ks (R' := R) (P' := P), ← mj_ks_app]
    rfl
theorem up_seed (hc : cS true a b tp c na nl D DA D2 DA2 H rg pa x ac im R P tr w) (e0 : H'.1 0 = H.1 0) (e1 : H'.2.1 0 = H.2.1 0) (e2 : H'.2.1 1 = H.2.1 1) (hS : ∀ sl, mj_Sx sta d mid as ([wob tr true a b sl] ++ nvH 19 H) (fun v w => v = some val ∧ w = [wob 0 true a b sl] ++ nvH 19 H')) : mj_Sx sta d mid as w (fun v w => v = some val ∧ cS true a b tp c na nl D DA D2 DA2 H' rg pa x ac im R P 0 w) := by
  obtain ⟨sl, H2, tb, sb, cl, g2, r, X, X2, kn, fi, hm, wf, wt, wc, ⟨h1, h2, h3, h4, h5⟩, rfl⟩ := hc
  refine (((hS sl).fr [0, 19, 20, 21, 22, 23] rfl rfl (by decide)).more (kt R P)).post ?_
  rintro v w ⟨u, ⟨wc', ⟨hv, rfl⟩, -, rfl⟩, -, rfl⟩ -
  exact ⟨hv, sl, H2, tb, sb, cl, g2, r, X, X2, kn, fi, hm, wf, wt, wc, ⟨h1, h2, h3, by rw [e0, e1, e2]; exact h4, by rw [e1, e2]; exact h5⟩, rfl⟩
theorem up_feed {tp' : List Value} {c' : Nat → Nat} (hc : cS dr a b tp c na nl D DA D2 DA2 H rg pa x ac im R P tr w) (hS : ∀ sl, mj_Sx sta d mid as [wob tr dr a b sl, (1, .inr (6, tp)), (2, ab c)] (fun v w => v = some val ∧ w = [wob tr dr a b sl, (1, .inr (6, tp')), (2, ab c')])) : mj_Sx sta d mid as w (fun v w => v = some val ∧ cS dr a b tp' c' na nl D DA D2 DA2 H rg pa x ac im R P tr w) := by
  obtain ⟨sl, H2, tb, sb, cl, g2, r, X, X2, kn, fi, hm, wf, wt, wc, hok, rfl⟩ := hc
  refine (((hS sl).fr [0, 1, 2] rfl rfl (by decide)).more (kt R P)).post ?_
  rintro v w ⟨u, ⟨wc', ⟨hv, rfl⟩, -, rfl⟩, -, rfl⟩ -
  exact ⟨hv, sl, H2, tb, sb, cl, g2, r, X, X2, kn, fi, hm, wf, wt, wc, hok, rfl⟩
end Ua
