/-! one step of both: draft, all cases -/
section Jd
variable {sta : mj_S} {d Bd : Nat} {tr : Int32} {w u : mj_W}
theorem J_draft (y : Int32) (hJ : J sta Bd tr w u) : sjp sta (d + 9) 69 195 (.ref 0 :: [.int y]) (.ref 151 :: [.int y]) w u Bd ∨ sja sta (d + 9) y w u Bd := by
  rcases hJ with ⟨a, b, L, fa, pl, en, at_, be, ki, td, va, c, na, nl, D, DA, D2, DA2, H, rg, pa, x, ac, im, R, P, rd, F, wd, V, PP, QQ, q, MA, nm, h1, h2, h3, h4, h5, h6, h7, h8, h9⟩ | ⟨a, b, L, fa, pl, en, at_, be, ki, td, va, c, na, nl, D, DA, D2, DA2, H, rg, pa, x, R, P, rd, F, wd, mac, mim, V, PP, QQ, h1, h2, h3, h4, h5, h6, h7, h8, h9⟩
  · by_cases hk0 : inR (L + 1) y = true
    · obtain ⟨n, hn, -, rfl⟩ := inR_at hk0
      refine Or.inr ?_
      obtain ⟨th, lw, tk, st, sh, ru, rz, aw, al, sd, r, sn, g, f, b1, b2, b3, b4, c0, rfl⟩ := h2
      exact sja_in (t := [mdh q D (hiI D) (erI D) (seI D), (q + 1, an (MA 0)), (q + 2, an (MA 1)), (q + 3, an (MA 2)), (q + 4, an (MA 3)), (q + 5, an (MA 4)), (q + 6, aL 6 nm), (q + 7, a3 (MA 5))]) h1 h3.1 h3.2.1 h8 h9 h5.1 h7 (by omega) (fun e F' wd' p en' at' be' ki' td' va' na' nl' D2' DA2' w' k1 k2 k3 => ⟨mVd (some p) F' wd' (nI ac) (nI im) c V PP QQ q D (hiI D) (erI D) (seI D) MA nm 4 (nI e.2) 0 lw tk st sh ru rz aw al sd r sn g f b1 b2 b3 b4 c0, [], by rw [List.append_nil]; exact List.Perm.refl _, Or.inl ⟨a, b, 0, nI e.1, nI e.2, en', at', be', ki', td', va', c, na', nl', D, DA, D2', DA2', H, rg, pa, x, ac, im, R, P, some p, F', wd', V, PP, QQ, q, MA, nm, k3, ⟨0, lw, tk, st, sh, ru, rz, aw, al, sd, r, sn, g, f, b1, b2, b3, b4, c0, rfl⟩, h3, nrel_B h4 (Nat.le_succ Bd), hrel_B h5 (Nat.le_succ Bd), irel_B h6 (Nat.le_succ Bd), k2, k1, h9⟩⟩)
    · have hk := eq_false_of_ne_true hk0
      exact Or.inl (sjp_q h3 h4 h5 h6 h7 h8 h9 ⟨_, _, up_ot h1 (fun sl => s_draft_2 _ _ _ _ _ _ _ _ _ _ _ _ _ _ _ _ _ (h7.1) (hk)), mp_o h2 (by decide) (fun _ _ _ _ _ _ _ _ _ _ _ => s_Mdraft_2 _ _ _ _ _ _ _ _ _ _ _ _ _ _ _ _ _ _ _ _ _ _ (h7.2.2.1) (h7.1) (hk)) rfl⟩)
  · by_cases hk0 : inR (L + 1) y = true
    · obtain ⟨n, hn, -, rfl⟩ := inR_at hk0
      refine Or.inr ?_
      obtain ⟨th, lw, tk, st, sh, ru, rz, aw, al, sd, r, sn, g, f, b1, b2, b3, b4, c0, rfl⟩ := h2
      exact sja_in (t := []) h1 h3 h4 h5 h6 h7 h9 (by omega) (fun e F' wd' p en' at' be' ki' td' va' na' nl' D2' DA2' w' k1 k2 k3 => ⟨mVu (some p) F' wd' mac mim c V PP QQ 4 (nI e.2) 0 lw tk st sh ru rz aw al sd r sn g f b1 b2 b3 b4 c0, [], by rw [List.append_nil]; exact List.Perm.refl _, Or.inr ⟨a, b, 0, nI e.1, nI e.2, en', at', be', ki', td', va', c, na', nl', D, DA, D2', DA2', H, rg, pa, x, R, P, some p, F', wd', mac, mim, V, PP, QQ, k3, ⟨0, lw, tk, st, sh, ru, rz, aw, al, sd, r, sn, g, f, b1, b2, b3, b4, c0, rfl⟩, h3, h4, k1, h6, h7, h8, k2⟩⟩)
    · have hk := eq_false_of_ne_true hk0
      exact Or.inl (sjp_u h3 h4 h5 h6 h7 h8 h9 ⟨_, _, up_ot h1 (fun sl => s_draft_2 _ _ _ _ _ _ _ _ _ _ _ _ _ _ _ _ _ (h9.1) (hk)), mu_o h2 (by decide) (fun _ _ _ _ _ _ _ _ _ _ _ => s_Mdraft_2 _ _ _ _ _ _ _ _ _ _ _ _ _ _ _ _ _ _ _ _ _ _ (h9.2.2.1) (h9.1) (hk)) rfl⟩)
end Jd
