/-! the law's turn: tools -/
theorem J_at {sta : mj_S} {Bd : Nat} {tr : Int32} {w u : mj_W} (hJ : J sta Bd tr w u) : (∃ fs, mj_nth w 0 = some (0, .inr (8, fs))) ∧ ∃ fs, mj_nth u 0 = some (151, .inr (10, fs)) := by
  rcases hJ with ⟨a, b, L, fa, pl, en, at_, be, ki, td, va, c, na, nl, D, DA, D2, DA2, H, rg, pa, x, ac, im, R, P, rd, F, wd, V, PP, QQ, q, MA, nm, h1, h2, -⟩ | ⟨a, b, L, fa, pl, en, at_, be, ki, td, va, c, na, nl, D, DA, D2, DA2, H, rg, pa, x, R, P, rd, F, wd, mac, mim, V, PP, QQ, h1, h2, -⟩
  · obtain ⟨sl, H2, tb, sb, cl, g2, r, X, X2, kn, fi, hm, wf, wt, wc, -, rfl⟩ := h1
    obtain ⟨th, lw, tk, st, sh, ru, rz, aw, al, sd, r, sn, g, f, b1, b2, b3, b4, c0, rfl⟩ := h2
    exact ⟨⟨_, rfl⟩, ⟨_, rfl⟩⟩
  · obtain ⟨sl, H2, tb, sb, cl, g2, r, X, X2, kn, fi, hm, wf, wt, wc, -, rfl⟩ := h1
    obtain ⟨th, lw, tk, st, sh, ru, rz, aw, al, sd, r, sn, g, f, b1, b2, b3, b4, c0, rfl⟩ := h2
    exact ⟨⟨_, rfl⟩, ⟨_, rfl⟩⟩
section Lt
variable {sta : mj_S} {d Bd : Nat} {M : mj_M} {T : Nat → mj_L → List Value → mj_H → Prop} {pc q len wp c : Nat} {lv : mj_L} {st rest ar as2 : List Value} {h : mj_H} {w u t : mj_W} {raw : Instr} {tr : Int32} {i2 : Nat}
/-- the component's call in a turn of the law -/
theorem L_one (hJ : J sta Bd tr w u) (hs : sjp sta d (c / 256) i2 (.ref 0 :: ar) as2 w u Bd) (hv : mj_vw (w ++ (u ++ t)) h) (hc : c % 16 = 8) (he : mj_ent (mj_cd M) pc = some (q, .invokevirtual c, len, raw, wp)) (hlen : Nat.ble (c / 16 % 16) st.length = true) (has : (st.take (c / 16 % 16)).reverse = .ref 0 :: ar) (hdr : st.drop (c / 16 % 16) = rest) (hcat : Nat.ble (rest.map Value.category).sum 8 = true)
    (k : ∀ (v : Value) (MP : mj_W → Prop) (w' : mj_W) (h' : mj_H), mj_Sx sta d i2 as2 u (fun v' u' => v' = some v ∧ MP u') → (∀ u', MP u' → ∃ tr', J sta (Bd + 1) tr' w' u') → mj_vw (w' ++ (u ++ t)) h' → h'.1.length = h.1.length → h'.2 = h.2 → mj_go sta (mj_Cl sta d) M T (q + 3) lv (v :: rest) h') : mj_go sta (mj_Cl sta d) M T pc lv st h := by
  obtain ⟨v, CP, MP, s1, s2, s3⟩ := hs
  obtain ⟨fs, hf⟩ := (J_at hJ).1
  refine g_callVp (h0 := h) hv.V 0 he hlen has (fs := fs) (by rw [hc]; exact hf) hdr hcat s1 (fun v' w' h' hp hk hv' => ?_)
  obtain ⟨rfl, hp⟩ := hp
  exact k v MP w' h' s2 (fun u' hu => s3 w' u' hp hu) hv'.1 hv'.2.1 hv'.2.2.1
/-- the reference's call -/
theorem L_two {v : Value} {MP : mj_W → Prop} {w' : mj_W} {fs : List Value} (hf : mj_nth u 0 = some (151, .inr (10, fs))) (s2 : mj_Sx sta d (c / 256) (.ref 151 :: ar) u (fun v' u' => v' = some v ∧ MP u')) (s3 : ∀ u', MP u' → ∃ tr', J sta (Bd + 1) tr' w' u') (hv : mj_vw (w' ++ (u ++ t)) h) (hc : c % 16 = 10) (he : mj_ent (mj_cd M) pc = some (q, .invokevirtual c, len, raw, wp)) (hlen : Nat.ble (c / 16 % 16) st.length = true) (has : (st.take (c / 16 % 16)).reverse = .ref 151 :: ar) (hdr : st.drop (c / 16 % 16) = rest) (hcat : Nat.ble (rest.map Value.category).sum 8 = true)
    (k : ∀ tr' u' h', J sta (Bd + 1) tr' w' u' → mj_vw (w' ++ (u' ++ t)) h' → h'.1.length = h.1.length → h'.2 = h.2 → mj_go sta (mj_Cl sta d) M T (q + 3) lv (v :: rest) h') : mj_go sta (mj_Cl sta d) M T pc lv st h := by
  have hp1 : (w' ++ (u ++ t)).Perm (u ++ (w' ++ t)) := by
    rw [← List.append_assoc, ← List.append_assoc]
    exact List.Perm.append_right t List.perm_append_comm
  refine g_callVp (h0 := h) (hv.perm hp1).V 0 he hlen has (fs := fs) (by rw [hc]; exact hf) hdr hcat s2 (fun v' u' h' hp hk hv' => ?_)
  obtain ⟨rfl, hp⟩ := hp
  obtain ⟨tr', hJ'⟩ := s3 u' hp
  have hp2 : (u' ++ (w' ++ t)).Perm (w' ++ (u' ++ t)) := by
    rw [← List.append_assoc, ← List.append_assoc]
    exact List.Perm.append_right t List.perm_append_comm
  exact k tr' u' h' hJ' (hv'.1.perm hp2) hv'.2.1 hv'.2.2.1
end Lt
