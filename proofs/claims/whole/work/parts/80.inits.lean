/-! constructors -/
def cs_X5 (p : Nat) : List va_E := [.inr (5, nob p 0 0 0 0), zI 6, zI 6, zI 6, zI 6]
theorem s_I_X5 (sta : mj_S) (d : Nat) : mj_In sta (d + 2) 33 5 cs_X5 24 := by
  refine mj_In.mk m_X5_init (by decide) n_X5_init rfl (fun l z => ?_)
  refine g_run 1 rfl ?_
  refine a_oi rfl rfl rfl rfl ?_
  refine g_run 2 rfl ?_
  refine a_int (n := 6) (by decide) rfl ?_
  refine a_put (j := 0) rfl rfl rfl rfl rfl rfl rfl ?_
  refine g_run 2 rfl ?_
  refine a_int (n := 6) (by decide) rfl ?_
  refine a_put (j := 0) rfl rfl rfl rfl rfl rfl rfl ?_
  refine g_run 2 rfl ?_
  refine a_int (n := 6) (by decide) rfl ?_
  refine a_put (j := 0) rfl rfl rfl rfl rfl rfl rfl ?_
  refine g_run 2 rfl ?_
  refine a_int (n := 6) (by decide) rfl ?_
  refine a_put (j := 0) rfl rfl rfl rfl rfl rfl rfl ?_
  refine a_vret rfl rfl ?_
  refine Prod.ext ?_ (by show _ = z + 24; omega)
  show l ++ _ = l ++ cs_X5 l.length
  unfold cs_X5
  rfl
def cs_X1 (p : Nat) : List va_E := [.inr (1, dob p 0 0 0 0 0 0 0 0 0), zI 6, zI 6, zI 6, zI 6, zI 6, zI 3]
theorem s_I_X1 (sta : mj_S) (d : Nat) : mj_In sta (d + 2) 17 1 cs_X1 33 := by
  refine mj_In.mk m_X1_init (by decide) n_X1_init rfl (fun l z => ?_)
  refine g_run 1 rfl ?_
  refine a_oi rfl rfl rfl rfl ?_
  refine g_run 2 rfl ?_
  refine a_int (n := 6) (by decide) rfl ?_
  refine a_put (j := 0) rfl rfl rfl rfl rfl rfl rfl ?_
  refine g_run 2 rfl ?_
  refine a_int (n := 6) (by decide) rfl ?_
  refine a_put (j := 0) rfl rfl rfl rfl rfl rfl rfl ?_
  refine g_run 2 rfl ?_
  refine a_int (n := 6) (by decide) rfl ?_
  refine a_put (j := 0) rfl rfl rfl rfl rfl rfl rfl ?_
  refine g_run 2 rfl ?_
  refine a_int (n := 6) (by decide) rfl ?_
  refine a_put (j := 0) rfl rfl rfl rfl rfl rfl rfl ?_
  refine g_run 2 rfl ?_
  refine a_int (n := 6) (by decide) rfl ?_
  refine a_put (j := 0) rfl rfl rfl rfl rfl rfl rfl ?_
  refine g_run 2 rfl ?_
  refine a_int (n := 3) (by decide) rfl ?_
  refine a_put (j := 0) rfl rfl rfl rfl rfl rfl rfl ?_
  refine a_vret rfl rfl ?_
  refine Prod.ext ?_ (by show _ = z + 33; omega)
  show l ++ _ = l ++ cs_X1 l.length
  unfold cs_X1
  rfl
def cs_X6 (p : Nat) : List va_E := [.inr (6, [.ref (p + 1), .int 0, .int 0, .int 0, .int 0, .int 0, .int 0, .int 0, .int 0, .int 0, .ref (p + 2), .ref (p + 3)]), .inl (2, 800, .inl (fun _ => 0)), zI 6, zI 6]
theorem s_I_X6 (sta : mj_S) (d : Nat) : mj_In sta (d + 2) 36 6 cs_X6 812 := by
  refine mj_In.mk m_X6_init (by decide) n_X6_init rfl (fun l z => ?_)
  refine g_run 1 rfl ?_
  refine a_oi rfl rfl rfl rfl ?_
  refine g_run 2 rfl ?_
  refine a_byte (n := 800) (by decide) rfl ?_
  refine a_put (j := 0) rfl rfl rfl rfl rfl rfl rfl ?_
  refine g_run 2 rfl ?_
  refine a_int (n := 6) (by decide) rfl ?_
  refine a_put (j := 0) rfl rfl rfl rfl rfl rfl rfl ?_
  refine g_run 2 rfl ?_
  refine a_int (n := 6) (by decide) rfl ?_
  refine a_put (j := 0) rfl rfl rfl rfl rfl rfl rfl ?_
  refine a_vret rfl rfl ?_
  refine Prod.ext ?_ (by show _ = z + 812; omega)
  show l ++ _ = l ++ cs_X6 l.length
  unfold cs_X6
  rfl
def cs_X4 (p : Nat) : List va_E := [.inr (4, lob p 0 0 0), zI 6]
theorem s_I_X4 (sta : mj_S) (d : Nat) : mj_In sta (d + 2) 28 4 cs_X4 6 := by
  refine mj_In.mk m_X4_init (by decide) n_X4_init rfl (fun l z => ?_)
  refine g_run 1 rfl ?_
  refine a_oi rfl rfl rfl rfl ?_
  refine g_run 2 rfl ?_
  refine a_int (n := 6) (by decide) rfl ?_
  refine a_put (j := 0) rfl rfl rfl rfl rfl rfl rfl ?_
  refine a_vret rfl rfl ?_
  refine Prod.ext ?_ (by show _ = z + 6; omega)
  show l ++ _ = l ++ cs_X4 l.length
  unfold cs_X4
  rfl
def cs_X3 (p : Nat) : List va_E := [.inr (3, [.int 0, .int 0, .ref (p + 1)]), zL 16]
theorem s_I_X3 (sta : mj_S) (d : Nat) : mj_In sta (d + 2) 25 3 cs_X3 16 := by
  refine mj_In.mk m_X3_init (by decide) n_X3_init rfl (fun l z => ?_)
  refine g_run 1 rfl ?_
  refine a_oi rfl rfl rfl rfl ?_
  refine g_run 2 rfl ?_
  refine a_long (n := 16) (by decide) rfl ?_
  refine a_put (j := 0) rfl rfl rfl rfl rfl rfl rfl ?_
  refine a_vret rfl rfl ?_
  refine Prod.ext ?_ (by show _ = z + 16; omega)
  show l ++ _ = l ++ cs_X3 l.length
  unfold cs_X3
  rfl
def cs_X9 (p : Nat) : List va_E := [.inr (9, [.int (-1), .int 0, .int 0, .int 0, .int 0, .int (-1), .int 0, .int 0, .ref (p + 1), .ref (p + 2), .ref (p + 3), .ref (p + 4), .ref (p + 5), .ref (p + 6), .ref (p + 7)]), zI 6, zI 6, zI 6, zI 6, zI 6, zL 6, zI 3]
theorem s_I_X9 (sta : mj_S) (d : Nat) : mj_In sta (d + 2) 156 9 cs_X9 39 := by
  refine mj_In.mk m_X9_init (by decide) n_X9_init rfl (fun l z => ?_)
  refine g_run 1 rfl ?_
  refine a_oi rfl rfl rfl rfl ?_
  refine g_run 2 rfl ?_
  refine a_put (j := 0) rfl rfl rfl rfl rfl rfl rfl ?_
  refine g_run 2 rfl ?_
  refine a_put (j := 0) rfl rfl rfl rfl rfl rfl rfl ?_
  refine g_run 2 rfl ?_
  refine a_int (n := 6) (by decide) rfl ?_
  refine a_put (j := 0) rfl rfl rfl rfl rfl rfl rfl ?_
  refine g_run 2 rfl ?_
  refine a_int (n := 6) (by decide) rfl ?_
  refine a_put (j := 0) rfl rfl rfl rfl rfl rfl rfl ?_
  refine g_run 2 rfl ?_
  refine a_int (n := 6) (by decide) rfl ?_
  refine a_put (j := 0) rfl rfl rfl rfl rfl rfl rfl ?_
  refine g_run 2 rfl ?_
  refine a_int (n := 6) (by decide) rfl ?_
  refine a_put (j := 0) rfl rfl rfl rfl rfl rfl rfl ?_
  refine g_run 2 rfl ?_
  refine a_int (n := 6) (by decide) rfl ?_
  refine a_put (j := 0) rfl rfl rfl rfl rfl rfl rfl ?_
  refine g_run 2 rfl ?_
  refine a_long (n := 6) (by decide) rfl ?_
  refine a_put (j := 0) rfl rfl rfl rfl rfl rfl rfl ?_
  refine g_run 2 rfl ?_
  refine a_int (n := 3) (by decide) rfl ?_
  refine a_put (j := 0) rfl rfl rfl rfl rfl rfl rfl ?_
  refine a_vret rfl rfl ?_
  refine Prod.ext ?_ (by show _ = z + 39; omega)
  show l ++ _ = l ++ cs_X9 l.length
  unfold cs_X9
  rfl
def cs_X10 (p : Nat) : List va_E := [.inr (10, [.int 0, .int 0, .int (-1), .null, .null, .ref (p + 1), .int 0, .int 0, .int 0, .int 0, .int 0, .int 0, .int 0, .int 0, .long 0, .ref (p + 2), .ref (p + 3), .ref (p + 4), .int 0, .int 0, .ref (p + 5), .ref (p + 6), .ref (p + 7), .ref (p + 8), .int 0, .int 0, .int 0, .ref (p + 9), .ref (p + 10), .ref (p + 11), .ref (p + 12), .long 0, .long 0, .ref (p + 13), .int 0, .int 0, .int 0, .int 0]), .inl (2, 800, .inl (fun _ => 0)), zI 28, zI 448, zI 84, zI 6, zI 6, zI 6, zI 6, zL 6, zL 6, zL 6, zL 36, zI 18]
theorem s_I_X10 (sta : mj_S) (d : Nat) : mj_In sta (d + 2) 159 10 cs_X10 1456 := by
  refine mj_In.mk m_X10_init (by decide) n_X10_init rfl (fun l z => ?_)
  refine g_run 1 rfl ?_
  refine a_oi rfl rfl rfl rfl ?_
  refine g_run 2 rfl ?_
  refine a_put (j := 0) rfl rfl rfl rfl rfl rfl rfl ?_
  show mj_go sta (mj_Cl sta (d + 1)) m_X10_init _ 9 [some (.ref l.length)] [] (l ++ [.inr (10, [.int 0, .int 0, .int (-1), .null, .null, .null, .int 0, .int 0, .int 0, .int 0, .int 0, .int 0, .int 0, .int 0, .long 0, .null, .null, .null, .int 0, .int 0, .null, .null, .null, .null, .int 0, .int 0, .int 0, .null, .null, .null, .null, .long 0, .long 0, .null, .int 0, .int 0, .int 0, .int 0])], z)
  refine g_run 2 rfl ?_
  refine a_byte (n := 800) (by decide) rfl ?_
  refine a_put (j := 0) rfl rfl rfl rfl rfl rfl rfl ?_
  show mj_go sta (mj_Cl sta (d + 1)) m_X10_init _ 18 [some (.ref l.length)] [] (l ++ [.inr (10, [.int 0, .int 0, .int (-1), .null, .null, .ref (l.length + 1), .int 0, .int 0, .int 0, .int 0, .int 0, .int 0, .int 0, .int 0, .long 0, .null, .null, .null, .int 0, .int 0, .null, .null, .null, .null, .int 0, .int 0, .int 0, .null, .null, .null, .null, .long 0, .long 0, .null, .int 0, .int 0, .int 0, .int 0]), .inl (2, 800, .inl (fun _ => 0))], z + 800)
  refine g_run 2 rfl ?_
  refine a_int (n := 28) (by decide) rfl ?_
  refine a_put (j := 0) rfl rfl rfl rfl rfl rfl rfl ?_
  show mj_go sta (mj_Cl sta (d + 1)) m_X10_init _ 26 [some (.ref l.length)] [] (l ++ [.inr (10, [.int 0, .int 0, .int (-1), .null, .null, .ref (l.length + 1), .int 0, .int 0, .int 0, .int 0, .int 0, .int 0, .int 0, .int 0, .long 0, .ref (l.length + 2), .null, .null, .int 0, .int 0, .null, .null, .null, .null, .int 0, .int 0, .int 0, .null, .null, .null, .null, .long 0, .long 0, .null, .int 0, .int 0, .int 0, .int 0]), .inl (2, 800, .inl (fun _ => 0)), zI 28], z + 800 + 28)
  refine g_run 2 rfl ?_
  refine a_int (n := 448) (by decide) rfl ?_
  refine a_put (j := 0) rfl rfl rfl rfl rfl rfl rfl ?_
  show mj_go sta (mj_Cl sta (d + 1)) m_X10_init _ 35 [some (.ref l.length)] [] (l ++ [.inr (10, [.int 0, .int 0, .int (-1), .null, .null, .ref (l.length + 1), .int 0, .int 0, .int 0, .int 0, .int 0, .int 0, .int 0, .int 0, .long 0, .ref (l.length + 2), .ref (l.length + 3), .null, .int 0, .int 0, .null, .null, .null, .null, .int 0, .int 0, .int 0, .null, .null, .null, .null, .long 0, .long 0, .null, .int 0, .int 0, .int 0, .int 0]), .inl (2, 800, .inl (fun _ => 0)), zI 28, zI 448], z + 800 + 28 + 448)
  refine g_run 2 rfl ?_
  refine a_int (n := 84) (by decide) rfl ?_
  refine a_put (j := 0) rfl rfl rfl rfl rfl rfl rfl ?_
  show mj_go sta (mj_Cl sta (d + 1)) m_X10_init _ 43 [some (.ref l.length)] [] (l ++ [.inr (10, [.int 0, .int 0, .int (-1), .null, .null, .ref (l.length + 1), .int 0, .int 0, .int 0, .int 0, .int 0, .int 0, .int 0, .int 0, .long 0, .ref (l.length + 2), .ref (l.length + 3), .ref (l.length + 4), .int 0, .int 0, .null, .null, .null, .null, .int 0, .int 0, .int 0, .null, .null, .null, .null, .long 0, .long 0, .null, .int 0, .int 0, .int 0, .int 0]), .inl (2, 800, .inl (fun _ => 0)), zI 28, zI 448, zI 84], z + 800 + 28 + 448 + 84)
  refine g_run 2 rfl ?_
  refine a_int (n := 6) (by decide) rfl ?_
  refine a_put (j := 0) rfl rfl rfl rfl rfl rfl rfl ?_
  show mj_go sta (mj_Cl sta (d + 1)) m_X10_init _ 51 [some (.ref l.length)] [] (l ++ [.inr (10, [.int 0, .int 0, .int (-1), .null, .null, .ref (l.length + 1), .int 0, .int 0, .int 0, .int 0, .int 0, .int 0, .int 0, .int 0, .long 0, .ref (l.length + 2), .ref (l.length + 3), .ref (l.length + 4), .int 0, .int 0, .ref (l.length + 5), .null, .null, .null, .int 0, .int 0, .int 0, .null, .null, .null, .null, .long 0, .long 0, .null, .int 0, .int 0, .int 0, .int 0]), .inl (2, 800, .inl (fun _ => 0)), zI 28, zI 448, zI 84, zI 6], z + 800 + 28 + 448 + 84 + 6)
  refine g_run 2 rfl ?_
  refine a_int (n := 6) (by decide) rfl ?_
  refine a_put (j := 0) rfl rfl rfl rfl rfl rfl rfl ?_
  show mj_go sta (mj_Cl sta (d + 1)) m_X10_init _ 59 [some (.ref l.length)] [] (l ++ [.inr (10, [.int 0, .int 0, .int (-1), .null, .null, .ref (l.length + 1), .int 0, .int 0, .int 0, .int 0, .int 0, .int 0, .int 0, .int 0, .long 0, .ref (l.length + 2), .ref (l.length + 3), .ref (l.length + 4), .int 0, .int 0, .ref (l.length + 5), .ref (l.length + 6), .null, .null, .int 0, .int 0, .int 0, .null, .null, .null, .null, .long 0, .long 0, .null, .int 0, .int 0, .int 0, .int 0]), .inl (2, 800, .inl (fun _ => 0)), zI 28, zI 448, zI 84, zI 6, zI 6], z + 800 + 28 + 448 + 84 + 6 + 6)
  refine g_run 2 rfl ?_
  refine a_int (n := 6) (by decide) rfl ?_
  refine a_put (j := 0) rfl rfl rfl rfl rfl rfl rfl ?_
  show mj_go sta (mj_Cl sta (d + 1)) m_X10_init _ 67 [some (.ref l.length)] [] (l ++ [.inr (10, [.int 0, .int 0, .int (-1), .null, .null, .ref (l.length + 1), .int 0, .int 0, .int 0, .int 0, .int 0, .int 0, .int 0, .int 0, .long 0, .ref (l.length + 2), .ref (l.length + 3), .ref (l.length + 4), .int 0, .int 0, .ref (l.length + 5), .ref (l.length + 6), .ref (l.length + 7), .null, .int 0, .int 0, .int 0, .null, .null, .null, .null, .long 0, .long 0, .null, .int 0, .int 0, .int 0, .int 0]), .inl (2, 800, .inl (fun _ => 0)), zI 28, zI 448, zI 84, zI 6, zI 6, zI 6], z + 800 + 28 + 448 + 84 + 6 + 6 + 6)
  refine g_run 2 rfl ?_
  refine a_int (n := 6) (by decide) rfl ?_
  refine a_put (j := 0) rfl rfl rfl rfl rfl rfl rfl ?_
  show mj_go sta (mj_Cl sta (d + 1)) m_X10_init _ 75 [some (.ref l.length)] [] (l ++ [.inr (10, [.int 0, .int 0, .int (-1), .null, .null, .ref (l.length + 1), .int 0, .int 0, .int 0, .int 0, .int 0, .int 0, .int 0, .int 0, .long 0, .ref (l.length + 2), .ref (l.length + 3), .ref (l.length + 4), .int 0, .int 0, .ref (l.length + 5), .ref (l.length + 6), .ref (l.length + 7), .ref (l.length + 8), .int 0, .int 0, .int 0, .null, .null, .null, .null, .long 0, .long 0, .null, .int 0, .int 0, .int 0, .int 0]), .inl (2, 800, .inl (fun _ => 0)), zI 28, zI 448, zI 84, zI 6, zI 6, zI 6, zI 6], z + 800 + 28 + 448 + 84 + 6 + 6 + 6 + 6)
  refine g_run 2 rfl ?_
  refine a_long (n := 6) (by decide) rfl ?_
  refine a_put (j := 0) rfl rfl rfl rfl rfl rfl rfl ?_
  show mj_go sta (mj_Cl sta (d + 1)) m_X10_init _ 83 [some (.ref l.length)] [] (l ++ [.inr (10, [.int 0, .int 0, .int (-1), .null, .null, .ref (l.length + 1), .int 0, .int 0, .int 0, .int 0, .int 0, .int 0, .int 0, .int 0, .long 0, .ref (l.length + 2), .ref (l.length + 3), .ref (l.length + 4), .int 0, .int 0, .ref (l.length + 5), .ref (l.length + 6), .ref (l.length + 7), .ref (l.length + 8), .int 0, .int 0, .int 0, .ref (l.length + 9), .null, .null, .null, .long 0, .long 0, .null, .int 0, .int 0, .int 0, .int 0]), .inl (2, 800, .inl (fun _ => 0)), zI 28, zI 448, zI 84, zI 6, zI 6, zI 6, zI 6, zL 6], z + 800 + 28 + 448 + 84 + 6 + 6 + 6 + 6 + 6)
  refine g_run 2 rfl ?_
  refine a_long (n := 6) (by decide) rfl ?_
  refine a_put (j := 0) rfl rfl rfl rfl rfl rfl rfl ?_
  show mj_go sta (mj_Cl sta (d + 1)) m_X10_init _ 91 [some (.ref l.length)] [] (l ++ [.inr (10, [.int 0, .int 0, .int (-1), .null, .null, .ref (l.length + 1), .int 0, .int 0, .int 0, .int 0, .int 0, .int 0, .int 0, .int 0, .long 0, .ref (l.length + 2), .ref (l.length + 3), .ref (l.length + 4), .int 0, .int 0, .ref (l.length + 5), .ref (l.length + 6), .ref (l.length + 7), .ref (l.length + 8), .int 0, .int 0, .int 0, .ref (l.length + 9), .ref (l.length + 10), .null, .null, .long 0, .long 0, .null, .int 0, .int 0, .int 0, .int 0]), .inl (2, 800, .inl (fun _ => 0)), zI 28, zI 448, zI 84, zI 6, zI 6, zI 6, zI 6, zL 6, zL 6], z + 800 + 28 + 448 + 84 + 6 + 6 + 6 + 6 + 6 + 6)
  refine g_run 2 rfl ?_
  refine a_long (n := 6) (by decide) rfl ?_
  refine a_put (j := 0) rfl rfl rfl rfl rfl rfl rfl ?_
  show mj_go sta (mj_Cl sta (d + 1)) m_X10_init _ 99 [some (.ref l.length)] [] (l ++ [.inr (10, [.int 0, .int 0, .int (-1), .null, .null, .ref (l.length + 1), .int 0, .int 0, .int 0, .int 0, .int 0, .int 0, .int 0, .int 0, .long 0, .ref (l.length + 2), .ref (l.length + 3), .ref (l.length + 4), .int 0, .int 0, .ref (l.length + 5), .ref (l.length + 6), .ref (l.length + 7), .ref (l.length + 8), .int 0, .int 0, .int 0, .ref (l.length + 9), .ref (l.length + 10), .ref (l.length + 11), .null, .long 0, .long 0, .null, .int 0, .int 0, .int 0, .int 0]), .inl (2, 800, .inl (fun _ => 0)), zI 28, zI 448, zI 84, zI 6, zI 6, zI 6, zI 6, zL 6, zL 6, zL 6], z + 800 + 28 + 448 + 84 + 6 + 6 + 6 + 6 + 6 + 6 + 6)
  refine g_run 2 rfl ?_
  refine a_long (n := 36) (by decide) rfl ?_
  refine a_put (j := 0) rfl rfl rfl rfl rfl rfl rfl ?_
  show mj_go sta (mj_Cl sta (d + 1)) m_X10_init _ 107 [some (.ref l.length)] [] (l ++ [.inr (10, [.int 0, .int 0, .int (-1), .null, .null, .ref (l.length + 1), .int 0, .int 0, .int 0, .int 0, .int 0, .int 0, .int 0, .int 0, .long 0, .ref (l.length + 2), .ref (l.length + 3), .ref (l.length + 4), .int 0, .int 0, .ref (l.length + 5), .ref (l.length + 6), .ref (l.length + 7), .ref (l.length + 8), .int 0, .int 0, .int 0, .ref (l.length + 9), .ref (l.length + 10), .ref (l.length + 11), .ref (l.length + 12), .long 0, .long 0, .null, .int 0, .int 0, .int 0, .int 0]), .inl (2, 800, .inl (fun _ => 0)), zI 28, zI 448, zI 84, zI 6, zI 6, zI 6, zI 6, zL 6, zL 6, zL 6, zL 36], z + 800 + 28 + 448 + 84 + 6 + 6 + 6 + 6 + 6 + 6 + 6 + 36)
  refine g_run 2 rfl ?_
  refine a_int (n := 18) (by decide) rfl ?_
  refine a_put (j := 0) rfl rfl rfl rfl rfl rfl rfl ?_
  show mj_go sta (mj_Cl sta (d + 1)) m_X10_init _ 115 [some (.ref l.length)] [] (l ++ [.inr (10, [.int 0, .int 0, .int (-1), .null, .null, .ref (l.length + 1), .int 0, .int 0, .int 0, .int 0, .int 0, .int 0, .int 0, .int 0, .long 0, .ref (l.length + 2), .ref (l.length + 3), .ref (l.length + 4), .int 0, .int 0, .ref (l.length + 5), .ref (l.length + 6), .ref (l.length + 7), .ref (l.length + 8), .int 0, .int 0, .int 0, .ref (l.length + 9), .ref (l.length + 10), .ref (l.length + 11), .ref (l.length + 12), .long 0, .long 0, .ref (l.length + 13), .int 0, .int 0, .int 0, .int 0]), .inl (2, 800, .inl (fun _ => 0)), zI 28, zI 448, zI 84, zI 6, zI 6, zI 6, zI 6, zL 6, zL 6, zL 6, zL 36, zI 18], z + 800 + 28 + 448 + 84 + 6 + 6 + 6 + 6 + 6 + 6 + 6 + 36 + 18)
  refine a_vret rfl rfl ?_
  refine Prod.ext ?_ (by show _ = z + 1456; omega)
  show l ++ _ = l ++ cs_X10 l.length
  unfold cs_X10
  rfl
