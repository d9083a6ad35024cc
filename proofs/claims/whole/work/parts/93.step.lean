/-! one step of both: every question -/
section Sq
variable {sta : mj_S} {d Bd : Nat} {tr : Int32} {w u : mj_W}
theorem J_wouldGo (m : Int32) (hB : Bd < 2 ^ 30) (hJ : J sta Bd tr w u) : sjp sta (d + 9) 75 217 (.ref 0 :: [.int m]) (.ref 151 :: [.int m]) w u Bd := by
  rcases hJ with ⟨a, b, L, fa, pl, en, at_, be, ki, td, va, c, na, nl, D, DA, D2, DA2, H, rg, pa, x, ac, im, R, P, rd, F, wd, V, PP, QQ, q, MA, nm, h1, h2, h3, h4, h5, h6, h7, h8, h9⟩ | ⟨a, b, L, fa, pl, en, at_, be, ki, td, va, c, na, nl, D, DA, D2, DA2, H, rg, pa, x, R, P, rd, F, wd, mac, mim, V, PP, QQ, h1, h2, h3, h4, h5, h6, h7, h8, h9⟩
  · obtain ⟨SN, C, FR, hy, hv⟩ := hyp_of h3 h4
    exact sjp_q h3 h4 h5 h6 h7 h8 h9 (b_wouldGo m hy h1 h2)
  · exact sjp_u h3 h4 h5 h6 h7 h8 h9 (n_wouldGo m h4 h1 h2)
theorem J_firstTaken (m : Int32) (hB : Bd < 2 ^ 30) (hJ : J sta Bd tr w u) : sjp sta (d + 9) 80 224 (.ref 0 :: [.int m]) (.ref 151 :: [.int m]) w u Bd := by
  rcases hJ with ⟨a, b, L, fa, pl, en, at_, be, ki, td, va, c, na, nl, D, DA, D2, DA2, H, rg, pa, x, ac, im, R, P, rd, F, wd, V, PP, QQ, q, MA, nm, h1, h2, h3, h4, h5, h6, h7, h8, h9⟩ | ⟨a, b, L, fa, pl, en, at_, be, ki, td, va, c, na, nl, D, DA, D2, DA2, H, rg, pa, x, R, P, rd, F, wd, mac, mim, V, PP, QQ, h1, h2, h3, h4, h5, h6, h7, h8, h9⟩
  · obtain ⟨SN, C, FR, hy, hv⟩ := hyp_of h3 h4
    exact sjp_q h3 h4 h5 h6 h7 h8 h9 (b_firstTaken m hy h1 h2)
  · exact sjp_u h3 h4 h5 h6 h7 h8 h9 (n_firstTaken m h4 h1 h2)
theorem J_fate (m : Int32) (hB : Bd < 2 ^ 30) (hJ : J sta Bd tr w u) : sjp sta (d + 9) 121 273 (.ref 0 :: [.int m]) (.ref 151 :: [.int m]) w u Bd := by
  rcases hJ with ⟨a, b, L, fa, pl, en, at_, be, ki, td, va, c, na, nl, D, DA, D2, DA2, H, rg, pa, x, ac, im, R, P, rd, F, wd, V, PP, QQ, q, MA, nm, h1, h2, h3, h4, h5, h6, h7, h8, h9⟩ | ⟨a, b, L, fa, pl, en, at_, be, ki, td, va, c, na, nl, D, DA, D2, DA2, H, rg, pa, x, R, P, rd, F, wd, mac, mim, V, PP, QQ, h1, h2, h3, h4, h5, h6, h7, h8, h9⟩
  · obtain ⟨SN, C, FR, hy, hv⟩ := hyp_of h3 h4
    exact sjp_q h3 h4 h5 h6 h7 h8 h9 (b_fate m hv hy h1 h2)
  · exact sjp_u h3 h4 h5 h6 h7 h8 h9 (n_fate m h4 h1 h2)
theorem J_lot (m : Int32) (hB : Bd < 2 ^ 30) (hJ : J sta Bd tr w u) : sjp sta (d + 9) 123 274 (.ref 0 :: [.int m]) (.ref 151 :: [.int m]) w u Bd := by
  rcases hJ with ⟨a, b, L, fa, pl, en, at_, be, ki, td, va, c, na, nl, D, DA, D2, DA2, H, rg, pa, x, ac, im, R, P, rd, F, wd, V, PP, QQ, q, MA, nm, h1, h2, h3, h4, h5, h6, h7, h8, h9⟩ | ⟨a, b, L, fa, pl, en, at_, be, ki, td, va, c, na, nl, D, DA, D2, DA2, H, rg, pa, x, R, P, rd, F, wd, mac, mim, V, PP, QQ, h1, h2, h3, h4, h5, h6, h7, h8, h9⟩
  · obtain ⟨SN, C, FR, hy, hv⟩ := hyp_of h3 h4
    exact sjp_q h3 h4 h5 h6 h7 h8 h9 (b_lot m hB hv hy h1 h2)
  · exact sjp_u h3 h4 h5 h6 h7 h8 h9 (n_lot m h4 h1 h2)
theorem J_taken (m : Int32) (lo : Bool) (hB : Bd < 2 ^ 30) (hJ : J sta Bd tr w u) : sjp sta (d + 9) 83 226 (.ref 0 :: [.int m, .int (bl lo)]) (.ref 151 :: [.int m, .int (bl lo)]) w u Bd := by
  rcases hJ with ⟨a, b, L, fa, pl, en, at_, be, ki, td, va, c, na, nl, D, DA, D2, DA2, H, rg, pa, x, ac, im, R, P, rd, F, wd, V, PP, QQ, q, MA, nm, h1, h2, h3, h4, h5, h6, h7, h8, h9⟩ | ⟨a, b, L, fa, pl, en, at_, be, ki, td, va, c, na, nl, D, DA, D2, DA2, H, rg, pa, x, R, P, rd, F, wd, mac, mim, V, PP, QQ, h1, h2, h3, h4, h5, h6, h7, h8, h9⟩
  · obtain ⟨SN, C, FR, hy, hv⟩ := hyp_of h3 h4
    exact sjp_q h3 h4 h5 h6 h7 h8 h9 (b_taken m lo hy h1 h2)
  · exact sjp_u h3 h4 h5 h6 h7 h8 h9 (n_taken m lo h4 h1 h2)
theorem J_goes (m : Int32) (lo : Bool) (hB : Bd < 2 ^ 30) (hJ : J sta Bd tr w u) : sjp sta (d + 9) 84 227 (.ref 0 :: [.int m, .int (bl lo)]) (.ref 151 :: [.int m, .int (bl lo)]) w u Bd := by
  rcases hJ with ⟨a, b, L, fa, pl, en, at_, be, ki, td, va, c, na, nl, D, DA, D2, DA2, H, rg, pa, x, ac, im, R, P, rd, F, wd, V, PP, QQ, q, MA, nm, h1, h2, h3, h4, h5, h6, h7, h8, h9⟩ | ⟨a, b, L, fa, pl, en, at_, be, ki, td, va, c, na, nl, D, DA, D2, DA2, H, rg, pa, x, R, P, rd, F, wd, mac, mim, V, PP, QQ, h1, h2, h3, h4, h5, h6, h7, h8, h9⟩
  · obtain ⟨SN, C, FR, hy, hv⟩ := hyp_of h3 h4
    exact sjp_q h3 h4 h5 h6 h7 h8 h9 (b_goes m lo hy h1 h2)
  · exact sjp_u h3 h4 h5 h6 h7 h8 h9 (n_goes m lo h4 h1 h2)
theorem J_loss (m : Int32) (lo : Bool) (hB : Bd < 2 ^ 30) (hJ : J sta Bd tr w u) : sjp sta (d + 9) 86 229 (.ref 0 :: [.int m, .int (bl lo)]) (.ref 151 :: [.int m, .int (bl lo)]) w u Bd := by
  rcases hJ with ⟨a, b, L, fa, pl, en, at_, be, ki, td, va, c, na, nl, D, DA, D2, DA2, H, rg, pa, x, ac, im, R, P, rd, F, wd, V, PP, QQ, q, MA, nm, h1, h2, h3, h4, h5, h6, h7, h8, h9⟩ | ⟨a, b, L, fa, pl, en, at_, be, ki, td, va, c, na, nl, D, DA, D2, DA2, H, rg, pa, x, R, P, rd, F, wd, mac, mim, V, PP, QQ, h1, h2, h3, h4, h5, h6, h7, h8, h9⟩
  · obtain ⟨SN, C, FR, hy, hv⟩ := hyp_of h3 h4
    exact sjp_q h3 h4 h5 h6 h7 h8 h9 (b_loss m lo hy h1 h2)
  · exact sjp_u h3 h4 h5 h6 h7 h8 h9 (n_loss m lo h4 h1 h2)
theorem J_ifMarried (m : Int32) (lo : Bool) (hB : Bd < 2 ^ 30) (hJ : J sta Bd tr w u) : sjp sta (d + 9) 91 235 (.ref 0 :: [.int m, .int (bl lo)]) (.ref 151 :: [.int m, .int (bl lo)]) w u Bd := by
  rcases hJ with ⟨a, b, L, fa, pl, en, at_, be, ki, td, va, c, na, nl, D, DA, D2, DA2, H, rg, pa, x, ac, im, R, P, rd, F, wd, V, PP, QQ, q, MA, nm, h1, h2, h3, h4, h5, h6, h7, h8, h9⟩ | ⟨a, b, L, fa, pl, en, at_, be, ki, td, va, c, na, nl, D, DA, D2, DA2, H, rg, pa, x, R, P, rd, F, wd, mac, mim, V, PP, QQ, h1, h2, h3, h4, h5, h6, h7, h8, h9⟩
  · obtain ⟨SN, C, FR, hy, hv⟩ := hyp_of h3 h4
    exact sjp_q h3 h4 h5 h6 h7 h8 h9 (b_ifMarried m lo hy h1 h2)
  · exact sjp_u h3 h4 h5 h6 h7 h8 h9 (n_ifMarried m lo h4 h1 h2)
theorem J_club (m : Int32) (lo : Bool) (hB : Bd < 2 ^ 30) (hJ : J sta Bd tr w u) : sjp sta (d + 9) 87 231 (.ref 0 :: [.int m, .int (bl lo)]) (.ref 151 :: [.int m, .int (bl lo)]) w u Bd := by
  rcases hJ with ⟨a, b, L, fa, pl, en, at_, be, ki, td, va, c, na, nl, D, DA, D2, DA2, H, rg, pa, x, ac, im, R, P, rd, F, wd, V, PP, QQ, q, MA, nm, h1, h2, h3, h4, h5, h6, h7, h8, h9⟩ | ⟨a, b, L, fa, pl, en, at_, be, ki, td, va, c, na, nl, D, DA, D2, DA2, H, rg, pa, x, R, P, rd, F, wd, mac, mim, V, PP, QQ, h1, h2, h3, h4, h5, h6, h7, h8, h9⟩
  · obtain ⟨SN, C, FR, hy, hv⟩ := hyp_of h3 h4
    exact sjp_q h3 h4 h5 h6 h7 h8 h9 (b_club m lo hy h1 h2)
  · exact sjp_u h3 h4 h5 h6 h7 h8 h9 (n_club m lo h4 h1 h2)
theorem J_harm (m : Int32) (lo : Bool) (hB : Bd < 2 ^ 30) (hJ : J sta Bd tr w u) : sjp sta (d + 9) 92 238 (.ref 0 :: [.int m, .int (bl lo)]) (.ref 151 :: [.int m, .int (bl lo)]) w u Bd := by
  rcases hJ with ⟨a, b, L, fa, pl, en, at_, be, ki, td, va, c, na, nl, D, DA, D2, DA2, H, rg, pa, x, ac, im, R, P, rd, F, wd, V, PP, QQ, q, MA, nm, h1, h2, h3, h4, h5, h6, h7, h8, h9⟩ | ⟨a, b, L, fa, pl, en, at_, be, ki, td, va, c, na, nl, D, DA, D2, DA2, H, rg, pa, x, R, P, rd, F, wd, mac, mim, V, PP, QQ, h1, h2, h3, h4, h5, h6, h7, h8, h9⟩
  · obtain ⟨SN, C, FR, hy, hv⟩ := hyp_of h3 h4
    exact sjp_q h3 h4 h5 h6 h7 h8 h9 (b_harm m lo hy h1 h2)
  · exact sjp_u h3 h4 h5 h6 h7 h8 h9 (n_harm m lo h4 h1 h2)
theorem J_ruin (m y : Int32) (lo : Bool) (hB : Bd < 2 ^ 30) (hJ : J sta Bd tr w u) : sjp sta (d + 9) 88 232 (.ref 0 :: [.int m, .int y, .int (bl lo)]) (.ref 151 :: [.int m, .int y, .int (bl lo)]) w u Bd := by
  rcases hJ with ⟨a, b, L, fa, pl, en, at_, be, ki, td, va, c, na, nl, D, DA, D2, DA2, H, rg, pa, x, ac, im, R, P, rd, F, wd, V, PP, QQ, q, MA, nm, h1, h2, h3, h4, h5, h6, h7, h8, h9⟩ | ⟨a, b, L, fa, pl, en, at_, be, ki, td, va, c, na, nl, D, DA, D2, DA2, H, rg, pa, x, R, P, rd, F, wd, mac, mim, V, PP, QQ, h1, h2, h3, h4, h5, h6, h7, h8, h9⟩
  · obtain ⟨SN, C, FR, hy, hv⟩ := hyp_of h3 h4
    exact sjp_q h3 h4 h5 h6 h7 h8 h9 (b_ruin m y lo hy h1 h2)
  · exact sjp_u h3 h4 h5 h6 h7 h8 h9 (n_ruin m y lo h4 h1 h2)
theorem J_goesFor (m y : Int32) (lo : Bool) (hB : Bd < 2 ^ 30) (hJ : J sta Bd tr w u) : sjp sta (d + 9) 85 228 (.ref 0 :: [.int m, .int y, .int (bl lo)]) (.ref 151 :: [.int m, .int y, .int (bl lo)]) w u Bd := by
  rcases hJ with ⟨a, b, L, fa, pl, en, at_, be, ki, td, va, c, na, nl, D, DA, D2, DA2, H, rg, pa, x, ac, im, R, P, rd, F, wd, V, PP, QQ, q, MA, nm, h1, h2, h3, h4, h5, h6, h7, h8, h9⟩ | ⟨a, b, L, fa, pl, en, at_, be, ki, td, va, c, na, nl, D, DA, D2, DA2, H, rg, pa, x, R, P, rd, F, wd, mac, mim, V, PP, QQ, h1, h2, h3, h4, h5, h6, h7, h8, h9⟩
  · obtain ⟨SN, C, FR, hy, hv⟩ := hyp_of h3 h4
    exact sjp_q h3 h4 h5 h6 h7 h8 h9 (b_goesFor m y lo hy h1 h2)
  · exact sjp_u h3 h4 h5 h6 h7 h8 h9 (n_goesFor m y lo h4 h1 h2)
theorem J_toJoin (m : Int32) (hB : Bd < 2 ^ 30) (hJ : J sta Bd tr w u) : sjp sta (d + 9) 89 233 (.ref 0 :: [.int m]) (.ref 151 :: [.int m]) w u Bd := by
  rcases hJ with ⟨a, b, L, fa, pl, en, at_, be, ki, td, va, c, na, nl, D, DA, D2, DA2, H, rg, pa, x, ac, im, R, P, rd, F, wd, V, PP, QQ, q, MA, nm, h1, h2, h3, h4, h5, h6, h7, h8, h9⟩ | ⟨a, b, L, fa, pl, en, at_, be, ki, td, va, c, na, nl, D, DA, D2, DA2, H, rg, pa, x, R, P, rd, F, wd, mac, mim, V, PP, QQ, h1, h2, h3, h4, h5, h6, h7, h8, h9⟩
  · obtain ⟨SN, C, FR, hy, hv⟩ := hyp_of h3 h4
    exact sjp_q h3 h4 h5 h6 h7 h8 h9 (b_toJoin m hy h1 h2)
  · exact sjp_u h3 h4 h5 h6 h7 h8 h9 (n_toJoin m h4 h1 h2)
theorem J_could (m : Int32) (hB : Bd < 2 ^ 30) (hJ : J sta Bd tr w u) : sjp sta (d + 9) 98 246 (.ref 0 :: [.int m]) (.ref 151 :: [.int m]) w u Bd := by
  rcases hJ with ⟨a, b, L, fa, pl, en, at_, be, ki, td, va, c, na, nl, D, DA, D2, DA2, H, rg, pa, x, ac, im, R, P, rd, F, wd, V, PP, QQ, q, MA, nm, h1, h2, h3, h4, h5, h6, h7, h8, h9⟩ | ⟨a, b, L, fa, pl, en, at_, be, ki, td, va, c, na, nl, D, DA, D2, DA2, H, rg, pa, x, R, P, rd, F, wd, mac, mim, V, PP, QQ, h1, h2, h3, h4, h5, h6, h7, h8, h9⟩
  · obtain ⟨SN, C, FR, hy, hv⟩ := hyp_of h3 h4
    exact sjp_q h3 h4 h5 h6 h7 h8 h9 (b_could m hy h1 h2)
  · exact sjp_u h3 h4 h5 h6 h7 h8 h9 (n_could m h4 h1 h2)
theorem J_surely (m : Int32) (hB : Bd < 2 ^ 30) (hJ : J sta Bd tr w u) : sjp sta (d + 9) 99 247 (.ref 0 :: [.int m]) (.ref 151 :: [.int m]) w u Bd := by
  rcases hJ with ⟨a, b, L, fa, pl, en, at_, be, ki, td, va, c, na, nl, D, DA, D2, DA2, H, rg, pa, x, ac, im, R, P, rd, F, wd, V, PP, QQ, q, MA, nm, h1, h2, h3, h4, h5, h6, h7, h8, h9⟩ | ⟨a, b, L, fa, pl, en, at_, be, ki, td, va, c, na, nl, D, DA, D2, DA2, H, rg, pa, x, R, P, rd, F, wd, mac, mim, V, PP, QQ, h1, h2, h3, h4, h5, h6, h7, h8, h9⟩
  · obtain ⟨SN, C, FR, hy, hv⟩ := hyp_of h3 h4
    exact sjp_q h3 h4 h5 h6 h7 h8 h9 (b_surely m hy h1 h2)
  · exact sjp_u h3 h4 h5 h6 h7 h8 h9 (n_surely m h4 h1 h2)
theorem J_many (m : Int32) (hB : Bd < 2 ^ 30) (hJ : J sta Bd tr w u) : sjp sta (d + 9) 74 216 (.ref 0 :: [.int m]) (.ref 151 :: [.int m]) w u Bd := by
  rcases hJ with ⟨a, b, L, fa, pl, en, at_, be, ki, td, va, c, na, nl, D, DA, D2, DA2, H, rg, pa, x, ac, im, R, P, rd, F, wd, V, PP, QQ, q, MA, nm, h1, h2, h3, h4, h5, h6, h7, h8, h9⟩ | ⟨a, b, L, fa, pl, en, at_, be, ki, td, va, c, na, nl, D, DA, D2, DA2, H, rg, pa, x, R, P, rd, F, wd, mac, mim, V, PP, QQ, h1, h2, h3, h4, h5, h6, h7, h8, h9⟩
  · obtain ⟨SN, C, FR, hy, hv⟩ := hyp_of h3 h4
    exact sjp_q h3 h4 h5 h6 h7 h8 h9 (b_many m hy h1 h2)
  · exact sjp_u h3 h4 h5 h6 h7 h8 h9 (n_many m h4 h1 h2)
theorem J_fills (m : Int32) (hB : Bd < 2 ^ 30) (hJ : J sta Bd tr w u) : sjp sta (d + 9) 93 239 (.ref 0 :: [.int m]) (.ref 151 :: [.int m]) w u Bd := by
  rcases hJ with ⟨a, b, L, fa, pl, en, at_, be, ki, td, va, c, na, nl, D, DA, D2, DA2, H, rg, pa, x, ac, im, R, P, rd, F, wd, V, PP, QQ, q, MA, nm, h1, h2, h3, h4, h5, h6, h7, h8, h9⟩ | ⟨a, b, L, fa, pl, en, at_, be, ki, td, va, c, na, nl, D, DA, D2, DA2, H, rg, pa, x, R, P, rd, F, wd, mac, mim, V, PP, QQ, h1, h2, h3, h4, h5, h6, h7, h8, h9⟩
  · obtain ⟨SN, C, FR, hy, hv⟩ := hyp_of h3 h4
    exact sjp_q h3 h4 h5 h6 h7 h8 h9 (b_fills m hy h1 h2)
  · exact sjp_u h3 h4 h5 h6 h7 h8 h9 (n_fills m h4 h1 h2)
theorem J_rests (m : Int32) (hB : Bd < 2 ^ 30) (hJ : J sta Bd tr w u) : sjp sta (d + 9) 107 260 (.ref 0 :: [.int m]) (.ref 151 :: [.int m]) w u Bd := by
  rcases hJ with ⟨a, b, L, fa, pl, en, at_, be, ki, td, va, c, na, nl, D, DA, D2, DA2, H, rg, pa, x, ac, im, R, P, rd, F, wd, V, PP, QQ, q, MA, nm, h1, h2, h3, h4, h5, h6, h7, h8, h9⟩ | ⟨a, b, L, fa, pl, en, at_, be, ki, td, va, c, na, nl, D, DA, D2, DA2, H, rg, pa, x, R, P, rd, F, wd, mac, mim, V, PP, QQ, h1, h2, h3, h4, h5, h6, h7, h8, h9⟩
  · obtain ⟨SN, C, FR, hy, hv⟩ := hyp_of h3 h4
    exact sjp_q h3 h4 h5 h6 h7 h8 h9 (b_rests m hy h1 h2)
  · exact sjp_u h3 h4 h5 h6 h7 h8 h9 (n_rests m h4 h1 h2)
theorem J_rest (m : Int32) (hB : Bd < 2 ^ 30) (hJ : J sta Bd tr w u) : sjp sta (d + 9) 108 261 (.ref 0 :: [.int m]) (.ref 151 :: [.int m]) w u Bd := by
  rcases hJ with ⟨a, b, L, fa, pl, en, at_, be, ki, td, va, c, na, nl, D, DA, D2, DA2, H, rg, pa, x, ac, im, R, P, rd, F, wd, V, PP, QQ, q, MA, nm, h1, h2, h3, h4, h5, h6, h7, h8, h9⟩ | ⟨a, b, L, fa, pl, en, at_, be, ki, td, va, c, na, nl, D, DA, D2, DA2, H, rg, pa, x, R, P, rd, F, wd, mac, mim, V, PP, QQ, h1, h2, h3, h4, h5, h6, h7, h8, h9⟩
  · obtain ⟨SN, C, FR, hy, hv⟩ := hyp_of h3 h4
    exact sjp_q h3 h4 h5 h6 h7 h8 h9 (b_rest m hy h1 h2)
  · exact sjp_u h3 h4 h5 h6 h7 h8 h9 (n_rest m h4 h1 h2)
theorem J_man (m y : Int32) (hB : Bd < 2 ^ 30) (hJ : J sta Bd tr w u) : sjp sta (d + 9) 72 214 (.ref 0 :: [.int m, .int y]) (.ref 151 :: [.int m, .int y]) w u Bd := by
  rcases hJ with ⟨a, b, L, fa, pl, en, at_, be, ki, td, va, c, na, nl, D, DA, D2, DA2, H, rg, pa, x, ac, im, R, P, rd, F, wd, V, PP, QQ, q, MA, nm, h1, h2, h3, h4, h5, h6, h7, h8, h9⟩ | ⟨a, b, L, fa, pl, en, at_, be, ki, td, va, c, na, nl, D, DA, D2, DA2, H, rg, pa, x, R, P, rd, F, wd, mac, mim, V, PP, QQ, h1, h2, h3, h4, h5, h6, h7, h8, h9⟩
  · obtain ⟨SN, C, FR, hy, hv⟩ := hyp_of h3 h4
    exact sjp_q h3 h4 h5 h6 h7 h8 h9 (b_man m y hy h1 h2)
  · exact sjp_u h3 h4 h5 h6 h7 h8 h9 (n_man m y h4 h1 h2)
theorem J_sendsBy (y m : Int32) (hB : Bd < 2 ^ 30) (hJ : J sta Bd tr w u) : sjp sta (d + 9) 78 222 (.ref 0 :: [.int y, .int m]) (.ref 151 :: [.int y, .int m]) w u Bd := by
  rcases hJ with ⟨a, b, L, fa, pl, en, at_, be, ki, td, va, c, na, nl, D, DA, D2, DA2, H, rg, pa, x, ac, im, R, P, rd, F, wd, V, PP, QQ, q, MA, nm, h1, h2, h3, h4, h5, h6, h7, h8, h9⟩ | ⟨a, b, L, fa, pl, en, at_, be, ki, td, va, c, na, nl, D, DA, D2, DA2, H, rg, pa, x, R, P, rd, F, wd, mac, mim, V, PP, QQ, h1, h2, h3, h4, h5, h6, h7, h8, h9⟩
  · obtain ⟨SN, C, FR, hy, hv⟩ := hyp_of h3 h4
    exact sjp_q h3 h4 h5 h6 h7 h8 h9 (b_sendsBy y m hy h1 h2)
  · exact sjp_u h3 h4 h5 h6 h7 h8 h9 (n_sendsBy y m h4 h1 h2)
theorem J_lossBy (y m : Int32) (hB : Bd < 2 ^ 30) (hJ : J sta Bd tr w u) : sjp sta (d + 9) 79 223 (.ref 0 :: [.int y, .int m]) (.ref 151 :: [.int y, .int m]) w u Bd := by
  rcases hJ with ⟨a, b, L, fa, pl, en, at_, be, ki, td, va, c, na, nl, D, DA, D2, DA2, H, rg, pa, x, ac, im, R, P, rd, F, wd, V, PP, QQ, q, MA, nm, h1, h2, h3, h4, h5, h6, h7, h8, h9⟩ | ⟨a, b, L, fa, pl, en, at_, be, ki, td, va, c, na, nl, D, DA, D2, DA2, H, rg, pa, x, R, P, rd, F, wd, mac, mim, V, PP, QQ, h1, h2, h3, h4, h5, h6, h7, h8, h9⟩
  · obtain ⟨SN, C, FR, hy, hv⟩ := hyp_of h3 h4
    exact sjp_q h3 h4 h5 h6 h7 h8 h9 (b_lossBy y m hy h1 h2)
  · exact sjp_u h3 h4 h5 h6 h7 h8 h9 (n_lossBy y m h4 h1 h2)
theorem J_takenBy (y : Int32) (hB : Bd < 2 ^ 30) (hJ : J sta Bd tr w u) : sjp sta (d + 9) 76 220 (.ref 0 :: [.int y]) (.ref 151 :: [.int y]) w u Bd := by
  rcases hJ with ⟨a, b, L, fa, pl, en, at_, be, ki, td, va, c, na, nl, D, DA, D2, DA2, H, rg, pa, x, ac, im, R, P, rd, F, wd, V, PP, QQ, q, MA, nm, h1, h2, h3, h4, h5, h6, h7, h8, h9⟩ | ⟨a, b, L, fa, pl, en, at_, be, ki, td, va, c, na, nl, D, DA, D2, DA2, H, rg, pa, x, R, P, rd, F, wd, mac, mim, V, PP, QQ, h1, h2, h3, h4, h5, h6, h7, h8, h9⟩
  · obtain ⟨SN, C, FR, hy, hv⟩ := hyp_of h3 h4
    exact sjp_q h3 h4 h5 h6 h7 h8 h9 (b_takenBy y hy h1 h2)
  · exact sjp_u h3 h4 h5 h6 h7 h8 h9 (n_takenBy y h4 h1 h2)
theorem J_goesBy (y : Int32) (hB : Bd < 2 ^ 30) (hJ : J sta Bd tr w u) : sjp sta (d + 9) 77 221 (.ref 0 :: [.int y]) (.ref 151 :: [.int y]) w u Bd := by
  rcases hJ with ⟨a, b, L, fa, pl, en, at_, be, ki, td, va, c, na, nl, D, DA, D2, DA2, H, rg, pa, x, ac, im, R, P, rd, F, wd, V, PP, QQ, q, MA, nm, h1, h2, h3, h4, h5, h6, h7, h8, h9⟩ | ⟨a, b, L, fa, pl, en, at_, be, ki, td, va, c, na, nl, D, DA, D2, DA2, H, rg, pa, x, R, P, rd, F, wd, mac, mim, V, PP, QQ, h1, h2, h3, h4, h5, h6, h7, h8, h9⟩
  · obtain ⟨SN, C, FR, hy, hv⟩ := hyp_of h3 h4
    exact sjp_q h3 h4 h5 h6 h7 h8 h9 (b_goesBy y hy h1 h2)
  · exact sjp_u h3 h4 h5 h6 h7 h8 h9 (n_goesBy y h4 h1 h2)
theorem J_spared  (hB : Bd < 2 ^ 30) (hJ : J sta Bd tr w u) : sjp sta (d + 9) 73 215 (.ref 0 :: []) (.ref 151 :: []) w u Bd := by
  rcases hJ with ⟨a, b, L, fa, pl, en, at_, be, ki, td, va, c, na, nl, D, DA, D2, DA2, H, rg, pa, x, ac, im, R, P, rd, F, wd, V, PP, QQ, q, MA, nm, h1, h2, h3, h4, h5, h6, h7, h8, h9⟩ | ⟨a, b, L, fa, pl, en, at_, be, ki, td, va, c, na, nl, D, DA, D2, DA2, H, rg, pa, x, R, P, rd, F, wd, mac, mim, V, PP, QQ, h1, h2, h3, h4, h5, h6, h7, h8, h9⟩
  · obtain ⟨SN, C, FR, hy, hv⟩ := hyp_of h3 h4
    exact sjp_q h3 h4 h5 h6 h7 h8 h9 (b_spared  hy h1 h2)
  · exact sjp_u h3 h4 h5 h6 h7 h8 h9 (n_spared  h4 h1 h2)
theorem J_bestLaw  (hB : Bd < 2 ^ 30) (hJ : J sta Bd tr w u) : sjp sta (d + 9) 94 240 (.ref 0 :: []) (.ref 151 :: []) w u Bd := by
  rcases hJ with ⟨a, b, L, fa, pl, en, at_, be, ki, td, va, c, na, nl, D, DA, D2, DA2, H, rg, pa, x, ac, im, R, P, rd, F, wd, V, PP, QQ, q, MA, nm, h1, h2, h3, h4, h5, h6, h7, h8, h9⟩ | ⟨a, b, L, fa, pl, en, at_, be, ki, td, va, c, na, nl, D, DA, D2, DA2, H, rg, pa, x, R, P, rd, F, wd, mac, mim, V, PP, QQ, h1, h2, h3, h4, h5, h6, h7, h8, h9⟩
  · obtain ⟨SN, C, FR, hy, hv⟩ := hyp_of h3 h4
    exact sjp_q h3 h4 h5 h6 h7 h8 h9 (b_bestLaw  hy h1 h2)
  · exact sjp_u h3 h4 h5 h6 h7 h8 h9 (n_bestLaw  h4 h1 h2)
theorem J_toSpare  (hB : Bd < 2 ^ 30) (hJ : J sta Bd tr w u) : sjp sta (d + 9) 95 241 (.ref 0 :: []) (.ref 151 :: []) w u Bd := by
  rcases hJ with ⟨a, b, L, fa, pl, en, at_, be, ki, td, va, c, na, nl, D, DA, D2, DA2, H, rg, pa, x, ac, im, R, P, rd, F, wd, V, PP, QQ, q, MA, nm, h1, h2, h3, h4, h5, h6, h7, h8, h9⟩ | ⟨a, b, L, fa, pl, en, at_, be, ki, td, va, c, na, nl, D, DA, D2, DA2, H, rg, pa, x, R, P, rd, F, wd, mac, mim, V, PP, QQ, h1, h2, h3, h4, h5, h6, h7, h8, h9⟩
  · obtain ⟨SN, C, FR, hy, hv⟩ := hyp_of h3 h4
    exact sjp_q h3 h4 h5 h6 h7 h8 h9 (b_toSpare  hy h1 h2)
  · exact sjp_u h3 h4 h5 h6 h7 h8 h9 (n_toSpare  h4 h1 h2)
theorem J_rows  (hB : Bd < 2 ^ 30) (hJ : J sta Bd tr w u) : sjp sta (d + 9) 97 243 (.ref 0 :: []) (.ref 151 :: []) w u Bd := by
  rcases hJ with ⟨a, b, L, fa, pl, en, at_, be, ki, td, va, c, na, nl, D, DA, D2, DA2, H, rg, pa, x, ac, im, R, P, rd, F, wd, V, PP, QQ, q, MA, nm, h1, h2, h3, h4, h5, h6, h7, h8, h9⟩ | ⟨a, b, L, fa, pl, en, at_, be, ki, td, va, c, na, nl, D, DA, D2, DA2, H, rg, pa, x, R, P, rd, F, wd, mac, mim, V, PP, QQ, h1, h2, h3, h4, h5, h6, h7, h8, h9⟩
  · obtain ⟨SN, C, FR, hy, hv⟩ := hyp_of h3 h4
    exact sjp_q h3 h4 h5 h6 h7 h8 h9 (b_rows  hy h1 h2)
  · exact sjp_u h3 h4 h5 h6 h7 h8 h9 (n_rows  h4 h1 h2)
theorem J_ask  (hB : Bd < 2 ^ 30) (hJ : J sta Bd tr w u) : sjp sta (d + 9) 100 249 (.ref 0 :: []) (.ref 151 :: []) w u Bd := by
  rcases hJ with ⟨a, b, L, fa, pl, en, at_, be, ki, td, va, c, na, nl, D, DA, D2, DA2, H, rg, pa, x, ac, im, R, P, rd, F, wd, V, PP, QQ, q, MA, nm, h1, h2, h3, h4, h5, h6, h7, h8, h9⟩ | ⟨a, b, L, fa, pl, en, at_, be, ki, td, va, c, na, nl, D, DA, D2, DA2, H, rg, pa, x, R, P, rd, F, wd, mac, mim, V, PP, QQ, h1, h2, h3, h4, h5, h6, h7, h8, h9⟩
  · obtain ⟨SN, C, FR, hy, hv⟩ := hyp_of h3 h4
    exact sjp_q h3 h4 h5 h6 h7 h8 h9 (b_ask  hy h1 h2)
  · exact sjp_u h3 h4 h5 h6 h7 h8 h9 (n_ask  h4 h1 h2)
theorem J_askLeaves  (hB : Bd < 2 ^ 30) (hJ : J sta Bd tr w u) : sjp sta (d + 9) 101 250 (.ref 0 :: []) (.ref 151 :: []) w u Bd := by
  rcases hJ with ⟨a, b, L, fa, pl, en, at_, be, ki, td, va, c, na, nl, D, DA, D2, DA2, H, rg, pa, x, ac, im, R, P, rd, F, wd, V, PP, QQ, q, MA, nm, h1, h2, h3, h4, h5, h6, h7, h8, h9⟩ | ⟨a, b, L, fa, pl, en, at_, be, ki, td, va, c, na, nl, D, DA, D2, DA2, H, rg, pa, x, R, P, rd, F, wd, mac, mim, V, PP, QQ, h1, h2, h3, h4, h5, h6, h7, h8, h9⟩
  · obtain ⟨SN, C, FR, hy, hv⟩ := hyp_of h3 h4
    exact sjp_q h3 h4 h5 h6 h7 h8 h9 (b_askLeaves  hy h1 h2)
  · exact sjp_u h3 h4 h5 h6 h7 h8 h9 (n_askLeaves  h4 h1 h2)
theorem J_surelyTaken  (hB : Bd < 2 ^ 30) (hJ : J sta Bd tr w u) : sjp sta (d + 9) 102 251 (.ref 0 :: []) (.ref 151 :: []) w u Bd := by
  rcases hJ with ⟨a, b, L, fa, pl, en, at_, be, ki, td, va, c, na, nl, D, DA, D2, DA2, H, rg, pa, x, ac, im, R, P, rd, F, wd, V, PP, QQ, q, MA, nm, h1, h2, h3, h4, h5, h6, h7, h8, h9⟩ | ⟨a, b, L, fa, pl, en, at_, be, ki, td, va, c, na, nl, D, DA, D2, DA2, H, rg, pa, x, R, P, rd, F, wd, mac, mim, V, PP, QQ, h1, h2, h3, h4, h5, h6, h7, h8, h9⟩
  · obtain ⟨SN, C, FR, hy, hv⟩ := hyp_of h3 h4
    exact sjp_q h3 h4 h5 h6 h7 h8 h9 (b_surelyTaken  hy h1 h2)
  · exact sjp_u h3 h4 h5 h6 h7 h8 h9 (n_surelyTaken  h4 h1 h2)
theorem J_shortOf (lo : Bool) (hB : Bd < 2 ^ 30) (hJ : J sta Bd tr w u) : sjp sta (d + 9) 90 234 (.ref 0 :: [.int (bl lo)]) (.ref 151 :: [.int (bl lo)]) w u Bd := by
  rcases hJ with ⟨a, b, L, fa, pl, en, at_, be, ki, td, va, c, na, nl, D, DA, D2, DA2, H, rg, pa, x, ac, im, R, P, rd, F, wd, V, PP, QQ, q, MA, nm, h1, h2, h3, h4, h5, h6, h7, h8, h9⟩ | ⟨a, b, L, fa, pl, en, at_, be, ki, td, va, c, na, nl, D, DA, D2, DA2, H, rg, pa, x, R, P, rd, F, wd, mac, mim, V, PP, QQ, h1, h2, h3, h4, h5, h6, h7, h8, h9⟩
  · obtain ⟨SN, C, FR, hy, hv⟩ := hyp_of h3 h4
    exact sjp_q h3 h4 h5 h6 h7 h8 h9 (b_shortOf lo hy h1 h2)
  · exact sjp_u h3 h4 h5 h6 h7 h8 h9 (n_shortOf lo h4 h1 h2)
theorem J_believed (s lo : Bool) (hB : Bd < 2 ^ 30) (hJ : J sta Bd tr w u) : sjp sta (d + 9) 104 253 (.ref 0 :: [.int (bl s), .int (bl lo)]) (.ref 151 :: [.int (bl s), .int (bl lo)]) w u Bd := by
  rcases hJ with ⟨a, b, L, fa, pl, en, at_, be, ki, td, va, c, na, nl, D, DA, D2, DA2, H, rg, pa, x, ac, im, R, P, rd, F, wd, V, PP, QQ, q, MA, nm, h1, h2, h3, h4, h5, h6, h7, h8, h9⟩ | ⟨a, b, L, fa, pl, en, at_, be, ki, td, va, c, na, nl, D, DA, D2, DA2, H, rg, pa, x, R, P, rd, F, wd, mac, mim, V, PP, QQ, h1, h2, h3, h4, h5, h6, h7, h8, h9⟩
  · obtain ⟨SN, C, FR, hy, hv⟩ := hyp_of h3 h4
    exact sjp_q h3 h4 h5 h6 h7 h8 h9 (b_believed s lo h3.2.1 h1 h2)
  · exact sjp_u h3 h4 h5 h6 h7 h8 h9 (n_believed s lo h4 h1 h2)
theorem J_wrong (lo : Bool) (hB : Bd < 2 ^ 30) (hJ : J sta Bd tr w u) : sjp sta (d + 9) 105 254 (.ref 0 :: [.int (bl lo)]) (.ref 151 :: [.int (bl lo)]) w u Bd := by
  rcases hJ with ⟨a, b, L, fa, pl, en, at_, be, ki, td, va, c, na, nl, D, DA, D2, DA2, H, rg, pa, x, ac, im, R, P, rd, F, wd, V, PP, QQ, q, MA, nm, h1, h2, h3, h4, h5, h6, h7, h8, h9⟩ | ⟨a, b, L, fa, pl, en, at_, be, ki, td, va, c, na, nl, D, DA, D2, DA2, H, rg, pa, x, R, P, rd, F, wd, mac, mim, V, PP, QQ, h1, h2, h3, h4, h5, h6, h7, h8, h9⟩
  · obtain ⟨SN, C, FR, hy, hv⟩ := hyp_of h3 h4
    exact sjp_q h3 h4 h5 h6 h7 h8 h9 (b_wrong lo h3.2.1 h1 h2)
  · exact sjp_u h3 h4 h5 h6 h7 h8 h9 (n_wrong lo h4 h1 h2)
theorem J_agent (y z m : Int32) (o : Bool) (hB : Bd < 2 ^ 30) (hJ : J sta Bd tr w u) : sjp sta (d + 9) 106 258 (.ref 0 :: [.int y, .int z, .int m, .int (bl o)]) (.ref 151 :: [.int y, .int z, .int m, .int (bl o)]) w u Bd := by
  rcases hJ with ⟨a, b, L, fa, pl, en, at_, be, ki, td, va, c, na, nl, D, DA, D2, DA2, H, rg, pa, x, ac, im, R, P, rd, F, wd, V, PP, QQ, q, MA, nm, h1, h2, h3, h4, h5, h6, h7, h8, h9⟩ | ⟨a, b, L, fa, pl, en, at_, be, ki, td, va, c, na, nl, D, DA, D2, DA2, H, rg, pa, x, R, P, rd, F, wd, mac, mim, V, PP, QQ, h1, h2, h3, h4, h5, h6, h7, h8, h9⟩
  · obtain ⟨SN, C, FR, hy, hv⟩ := hyp_of h3 h4
    exact sjp_q h3 h4 h5 h6 h7 h8 h9 (b_agent y z m o hy h1 h2)
  · exact sjp_u h3 h4 h5 h6 h7 h8 h9 (n_agent y z m o h4 h1 h2)
theorem J_lossIn (y z : Int32) (hB : Bd < 2 ^ 30) (hJ : J sta Bd tr w u) : sjp sta (d + 9) 115 266 (.ref 0 :: [.int y, .int z]) (.ref 151 :: [.int y, .int z]) w u Bd := by
  rcases hJ with ⟨a, b, L, fa, pl, en, at_, be, ki, td, va, c, na, nl, D, DA, D2, DA2, H, rg, pa, x, ac, im, R, P, rd, F, wd, V, PP, QQ, q, MA, nm, h1, h2, h3, h4, h5, h6, h7, h8, h9⟩ | ⟨a, b, L, fa, pl, en, at_, be, ki, td, va, c, na, nl, D, DA, D2, DA2, H, rg, pa, x, R, P, rd, F, wd, mac, mim, V, PP, QQ, h1, h2, h3, h4, h5, h6, h7, h8, h9⟩
  · obtain ⟨SN, C, FR, hy, hv⟩ := hyp_of h3 h4
    exact sjp_q h3 h4 h5 h6 h7 h8 h9 (b_lossIn y z hy h1 h2)
  · exact sjp_u h3 h4 h5 h6 h7 h8 h9 (n_lossIn y z h4 h1 h2)
theorem J_drafts (m y z : Int32) (hB : Bd < 2 ^ 30) (hJ : J sta Bd tr w u) : sjp sta (d + 9) 112 264 (.ref 0 :: [.int m, .int y, .int z]) (.ref 151 :: [.int m, .int y, .int z]) w u Bd := by
  rcases hJ with ⟨a, b, L, fa, pl, en, at_, be, ki, td, va, c, na, nl, D, DA, D2, DA2, H, rg, pa, x, ac, im, R, P, rd, F, wd, V, PP, QQ, q, MA, nm, h1, h2, h3, h4, h5, h6, h7, h8, h9⟩ | ⟨a, b, L, fa, pl, en, at_, be, ki, td, va, c, na, nl, D, DA, D2, DA2, H, rg, pa, x, R, P, rd, F, wd, mac, mim, V, PP, QQ, h1, h2, h3, h4, h5, h6, h7, h8, h9⟩
  · obtain ⟨SN, C, FR, hy, hv⟩ := hyp_of h3 h4
    exact sjp_q h3 h4 h5 h6 h7 h8 h9 (b_drafts m y z hy h1 h2)
  · exact sjp_u h3 h4 h5 h6 h7 h8 h9 (n_drafts m y z h4 h1 h2)
theorem J_sentIn (m y z : Int32) (hB : Bd < 2 ^ 30) (hJ : J sta Bd tr w u) : sjp sta (d + 9) 113 265 (.ref 0 :: [.int m, .int y, .int z]) (.ref 151 :: [.int m, .int y, .int z]) w u Bd := by
  rcases hJ with ⟨a, b, L, fa, pl, en, at_, be, ki, td, va, c, na, nl, D, DA, D2, DA2, H, rg, pa, x, ac, im, R, P, rd, F, wd, V, PP, QQ, q, MA, nm, h1, h2, h3, h4, h5, h6, h7, h8, h9⟩ | ⟨a, b, L, fa, pl, en, at_, be, ki, td, va, c, na, nl, D, DA, D2, DA2, H, rg, pa, x, R, P, rd, F, wd, mac, mim, V, PP, QQ, h1, h2, h3, h4, h5, h6, h7, h8, h9⟩
  · obtain ⟨SN, C, FR, hy, hv⟩ := hyp_of h3 h4
    exact sjp_q h3 h4 h5 h6 h7 h8 h9 (b_sentIn m y z hy h1 h2)
  · exact sjp_u h3 h4 h5 h6 h7 h8 h9 (n_sentIn m y z h4 h1 h2)
theorem J_trouble  (hB : Bd < 2 ^ 30) (hJ : J sta Bd tr w u) : sjp sta (d + 9) 131 281 (.ref 0 :: []) (.ref 151 :: []) w u Bd := by
  rcases hJ with ⟨a, b, L, fa, pl, en, at_, be, ki, td, va, c, na, nl, D, DA, D2, DA2, H, rg, pa, x, ac, im, R, P, rd, F, wd, V, PP, QQ, q, MA, nm, h1, h2, h3, h4, h5, h6, h7, h8, h9⟩ | ⟨a, b, L, fa, pl, en, at_, be, ki, td, va, c, na, nl, D, DA, D2, DA2, H, rg, pa, x, R, P, rd, F, wd, mac, mim, V, PP, QQ, h1, h2, h3, h4, h5, h6, h7, h8, h9⟩
  · obtain ⟨SN, C, FR, hy, hv⟩ := hyp_of h3 h4
    exact sjp_q h3 h4 h5 h6 h7 h8 h9 (b_trouble  h1 h2)
  · exact sjp_u h3 h4 h5 h6 h7 h8 h9 (b_trouble_n  h1 h2)
theorem J_fault  (hB : Bd < 2 ^ 30) (hJ : J sta Bd tr w u) : sjp sta (d + 9) 70 196 (.ref 0 :: []) (.ref 151 :: []) w u Bd := by
  rcases hJ with ⟨a, b, L, fa, pl, en, at_, be, ki, td, va, c, na, nl, D, DA, D2, DA2, H, rg, pa, x, ac, im, R, P, rd, F, wd, V, PP, QQ, q, MA, nm, h1, h2, h3, h4, h5, h6, h7, h8, h9⟩ | ⟨a, b, L, fa, pl, en, at_, be, ki, td, va, c, na, nl, D, DA, D2, DA2, H, rg, pa, x, R, P, rd, F, wd, mac, mim, V, PP, QQ, h1, h2, h3, h4, h5, h6, h7, h8, h9⟩
  · obtain ⟨SN, C, FR, hy, hv⟩ := hyp_of h3 h4
    exact sjp_q h3 h4 h5 h6 h7 h8 h9 (b_fault h7.2.2.2 h1 h2)
  · exact sjp_u h3 h4 h5 h6 h7 h8 h9 (b_fault_n h9.2.2.2 h1 h2)
theorem J_where  (hB : Bd < 2 ^ 30) (hJ : J sta Bd tr w u) : sjp sta (d + 9) 71 197 (.ref 0 :: []) (.ref 151 :: []) w u Bd := by
  rcases hJ with ⟨a, b, L, fa, pl, en, at_, be, ki, td, va, c, na, nl, D, DA, D2, DA2, H, rg, pa, x, ac, im, R, P, rd, F, wd, V, PP, QQ, q, MA, nm, h1, h2, h3, h4, h5, h6, h7, h8, h9⟩ | ⟨a, b, L, fa, pl, en, at_, be, ki, td, va, c, na, nl, D, DA, D2, DA2, H, rg, pa, x, R, P, rd, F, wd, mac, mim, V, PP, QQ, h1, h2, h3, h4, h5, h6, h7, h8, h9⟩
  · obtain ⟨SN, C, FR, hy, hv⟩ := hyp_of h3 h4
    exact sjp_q h3 h4 h5 h6 h7 h8 h9 (b_where  h1 h2)
  · exact sjp_u h3 h4 h5 h6 h7 h8 h9 (b_where_n  h1 h2)
theorem J_size (y : Int32) (hB : Bd < 2 ^ 30) (hJ : J sta Bd tr w u) : sjp sta (d + 9) 129 280 (.ref 0 :: [.int y]) (.ref 151 :: [.int y]) w u Bd := by
  rcases hJ with ⟨a, b, L, fa, pl, en, at_, be, ki, td, va, c, na, nl, D, DA, D2, DA2, H, rg, pa, x, ac, im, R, P, rd, F, wd, V, PP, QQ, q, MA, nm, h1, h2, h3, h4, h5, h6, h7, h8, h9⟩ | ⟨a, b, L, fa, pl, en, at_, be, ki, td, va, c, na, nl, D, DA, D2, DA2, H, rg, pa, x, R, P, rd, F, wd, mac, mim, V, PP, QQ, h1, h2, h3, h4, h5, h6, h7, h8, h9⟩
  · obtain ⟨SN, C, FR, hy, hv⟩ := hyp_of h3 h4
    exact sjp_q h3 h4 h5 h6 h7 h8 h9 (b_size y h7.2.2.1 h3.2.1 hv rfl rfl h1 h2)
  · exact sjp_u h3 h4 h5 h6 h7 h8 h9 (b_size_n y h9.2.2.1 h1 h2)
end Sq
