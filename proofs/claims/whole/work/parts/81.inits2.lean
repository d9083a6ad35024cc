/-! constructors of constructors -/
section A3
variable {sta : mj_S} {d : Nat} {M : mj_M} {T : Nat → mj_L → List Value → mj_H → Prop} {pc q len wp : Nat} {lv : mj_L} {r st : List Value} {raw : Instr} {l t : List va_E} {z : Nat}
theorem a_init {c mid ci s : Nat} {cs : Nat → List va_E} (hI : mj_In sta d mid ci cs s) (hmid : Nat.beq (c / 256) mid = true) (he : mj_ent (mj_cd M) pc = some (q, .invokespecial c, len, raw, wp)) (hc2 : Nat.beq (c / 16 % 16) 1 = true) (hs : Nat.ble (r.map Value.category).sum 8 = true) (k : mj_go sta (mj_Cl sta d) M T (q + 3) lv r (l ++ (t ++ cs (l.length + t.length)), z + s)) : mj_go sta (mj_Cl sta d) M T pc lv (.ref (l.length + t.length) :: r) (l ++ (t ++ [.inr (ci, mj_new ci)]), z) := by
  refine a_call hmid he hc2 hs ?_ k
  have h := hI (l ++ t) z
  rw [List.length_append, List.append_assoc, List.append_assoc] at h
  exact h
theorem a_multi (he : mj_ent (mj_cd M) pc = some (q, .multianewarray 4 2, len, raw, wp)) {Cl : mj_R} (k : mj_go sta Cl M T (q + len) lv (.ref (l.length + t.length) :: st) (l ++ (t ++ [.inl (4, 3, .inr (.inr (.inr (.inr (fun i => if i < 3 then some (l.length + t.length + 1 + i) else none))))), zI 6, zI 6, zI 6]), z + 21)) : mj_go sta Cl M T pc lv (.int 6 :: .int 3 :: st) (l ++ t, z) := by
  refine g_nx he ?_ k
  simp only [mj_nx, List.length_append, List.append_assoc]
  rfl
end A3
def cs_X0 (p : Nat) : List va_E := [.inr (0, cob p 0 0), .inr (4, lob (p + 1) 0 0 0), zI 6, zI 6, zI 720, zI 720, zI 720]
theorem s_I_X0 (sta : mj_S) (d : Nat) : mj_In sta (d + 3) 4 0 cs_X0 2176 := by
  refine mj_In.mk m_X0_init (by decide) n_X0_init rfl (fun l z => ?_)
  refine g_run 1 rfl ?_
  refine a_oi rfl rfl rfl rfl ?_
  refine g_run 1 rfl ?_
  refine a_new rfl ?_
  refine g_run 1 rfl ?_
  refine a_init (s_I_X4 sta d) rfl rfl rfl rfl ?_
  refine a_put (j := 0) rfl rfl rfl rfl rfl rfl rfl ?_
  show mj_go sta (mj_Cl sta (d + 2)) m_X0_init _ 15 [some (.ref l.length)] [] (l ++ [.inr (0, [.ref (l.length + 1), .null, .int 0, .int 0, .null, .null, .null]), .inr (4, lob (l.length + 1) 0 0 0), zI 6], z + mj_sz 4 + 6)
  refine g_run 2 rfl ?_
  refine a_int (n := 6) (by decide) rfl ?_
  refine a_put (j := 0) rfl rfl rfl rfl rfl rfl rfl ?_
  refine g_run 2 rfl ?_
  refine a_int (n := 720) (by decide) rfl ?_
  refine a_put (j := 0) rfl rfl rfl rfl rfl rfl rfl ?_
  refine g_run 2 rfl ?_
  refine a_int (n := 720) (by decide) rfl ?_
  refine a_put (j := 0) rfl rfl rfl rfl rfl rfl rfl ?_
  refine g_run 2 rfl ?_
  refine a_int (n := 720) (by decide) rfl ?_
  refine a_put (j := 0) rfl rfl rfl rfl rfl rfl rfl ?_
  refine a_vret rfl rfl ?_
  have h4 : mj_sz 4 = 4 := rfl
  refine Prod.ext ?_ (by show z + mj_sz 4 + 6 + 6 + 720 + 720 + 720 = z + 2176; omega)
  show l ++ _ = l ++ cs_X0 l.length
  unfold cs_X0
  rfl
def cs_X7 (p : Nat) : List va_E := [.inr (7, [.int 0, .int 0, .ref (p + 1)]), .inl (4, 3, .inr (.inr (.inr (.inr (fun i => if i < 3 then some (p + 2 + i) else none))))), zI 6, zI 6, zI 6]
theorem s_I_X7 (sta : mj_S) (d : Nat) : mj_In sta (d + 2) 59 7 cs_X7 21 := by
  refine mj_In.mk m_X7_init (by decide) n_X7_init rfl (fun l z => ?_)
  refine g_run 1 rfl ?_
  refine a_oi rfl rfl rfl rfl ?_
  refine g_run 3 rfl ?_
  refine a_multi rfl ?_
  refine a_put (j := 0) rfl rfl rfl rfl rfl rfl rfl ?_
  refine a_vret rfl rfl ?_
  refine Prod.ext ?_ rfl
  show l ++ _ = l ++ cs_X7 l.length
  unfold cs_X7
  rfl
/-- the nows that are kept, one behind another -/
def nws (p : Nat) : Nat → List va_E
  | 0 => []
  | k + 1 => nws p k ++ cs_X5 (p + 3 + 5 * k)
theorem nws_len (p : Nat) : ∀ k, (nws p k).length = 5 * k
  | 0 => rfl
  | k + 1 => by
    rw [nws, List.length_append, nws_len p k]
    show 5 * k + 5 = 5 * (k + 1)
    omega
def rgf (p b k : Nat) : Nat → Option Nat := fun i => if i < k then some (p + 3 + 5 * (b + i)) else none
theorem rgf_up {p b k : Nat} : va_up (rgf p b k) k (some (p + (3 + 5 * (b + k)))) = rgf p b (k + 1) := by
  funext i
  unfold va_up rgf
  by_cases h : i = k
  · rw [if_pos h, if_pos (by omega), h, Nat.add_assoc]
  · rw [if_neg h]
    by_cases h2 : i < k
    · rw [if_pos h2, if_pos (by omega)]
    · rw [if_neg h2, if_neg (by omega)]
def k3 (p : Nat) (f g : Nat → Option Nat) : List va_E := [.inr (2, [.ref (p + 1), .ref (p + 2), .int 0, .int 0, .int 0]), ar 16 f, ar 3 g]
def cs_X2 (p : Nat) : List va_E := k3 p (rgf p 0 16) (rgf p 16 3) ++ nws p 19
theorem s_I_X2 (sta : mj_S) (d : Nat) : mj_In sta (d + 3) 19 2 cs_X2 627 := by
  refine mj_In.mk m_X2_init (by decide) n_X2_init rfl (fun l z => ?_)
  generalize hp : l.length = p
  have hlen : ∀ f g k, (k3 p f g ++ nws p k).length = 3 + 5 * k := by
    intro f g k
    rw [List.length_append, nws_len]
    rfl
  have loop2 : ∀ j k, k + j = 3 → mj_go sta (mj_Cl sta (d + 2)) m_X2_init (mj_ret m_X2_init none (l ++ cs_X2 p, z + 627)) 50 [some (.ref p), some (.int (nI k))] [] (l ++ (k3 p (rgf p 0 16) (rgf p 16 k) ++ nws p (16 + k)), z + 19 + 32 * (16 + k)) := by
    intro j
    induction j with
    | zero =>
      intro k hk
      have hk : k = 3 := by omega
      subst hk
      refine g_run 2 rfl ?_
      refine g_ic rfl (fun cq => ?_) (fun cq => absurd (cpT (by decide)) cq)
      exact a_vret rfl rfl rfl
    | succ j ih =>
      intro k hk
      refine g_run 2 rfl ?_
      refine g_ic rfl (fun cq => ?_) (fun cq => ?_)
      · have cq : nI 3 ≤ nI k := cq
        rw [nI_leI (by decide) (by omega)] at cq
        omega
      · refine g_run 1 rfl ?_
        refine a_get (j := 0) hp.symm rfl rfl rfl rfl ?_
        refine g_run 1 rfl ?_
        refine a_new rfl ?_
        refine g_run 1 rfl ?_
        refine a_init (s_I_X5 sta d) rfl rfl rfl rfl ?_
        rw [hlen, hp]
        refine a_ast (j := 2) (i := 3 + 5 * (16 + k)) (x := k) (n := 3) (fs := nob (p + (3 + 5 * (16 + k))) 0 0 0 0) (by rw [hp]) (by rw [hp]) rfl rfl ?_ (by omega) (by decide) ?_
        · rw [← hlen (rgf p 0 16) (rgf p 16 k) (16 + k)]
          exact (nth_ap (j := 0)).trans rfl
        · have e : ((k3 p (rgf p 0 16) (rgf p 16 k) ++ nws p (16 + k)) ++ cs_X5 (p + (3 + 5 * (16 + k)))).set 2 (.inl (3, 3, .inr (.inr (.inr (.inr (va_up (rgf p 16 k) k (some (p + (3 + 5 * (16 + k))))))))) ) = k3 p (rgf p 0 16) (rgf p 16 (k + 1)) ++ nws p (16 + (k + 1)) := by
            rw [rgf_up, show 16 + (k + 1) = (16 + k) + 1 by omega, nws, show p + 3 + 5 * (16 + k) = p + (3 + 5 * (16 + k)) by omega, ← List.append_assoc]
            rfl
          rw [e]
          refine g_run 2 rfl ?_
          have hnx := ih (k + 1) (by omega)
          rw [nI_succ, show z + 19 + 32 * (16 + (k + 1)) = z + 19 + 32 * (16 + k) + mj_sz 5 + 24 from by have : mj_sz 5 = 8 := rfl; omega] at hnx
          exact hnx
  have loop1 : ∀ j k, k + j = 16 → mj_go sta (mj_Cl sta (d + 2)) m_X2_init (mj_ret m_X2_init none (l ++ cs_X2 p, z + 627)) 23 [some (.ref p), some (.int (nI k))] [] (l ++ (k3 p (rgf p 0 k) (fun _ => none) ++ nws p k), z + 19 + 32 * k) := by
    intro j
    induction j with
    | zero =>
      intro k hk
      have hk : k = 16 := by omega
      subst hk
      refine g_run 2 rfl ?_
      refine g_ic rfl (fun cq => ?_) (fun cq => absurd (cpT (by decide)) cq)
      refine g_run 2 rfl ?_
      have h2 := loop2 3 0 (by omega)
      have e : rgf p 16 0 = fun _ => none := by
        funext i
        exact if_neg (by omega)
      rw [e] at h2
      exact h2
    | succ j ih =>
      intro k hk
      refine g_run 2 rfl ?_
      refine g_ic rfl (fun cq => ?_) (fun cq => ?_)
      · have cq : nI 16 ≤ nI k := cq
        rw [nI_leI (by decide) (by omega)] at cq
        omega
      · refine g_run 1 rfl ?_
        refine a_get (j := 0) hp.symm rfl rfl rfl rfl ?_
        refine g_run 1 rfl ?_
        refine a_new rfl ?_
        refine g_run 1 rfl ?_
        refine a_init (s_I_X5 sta d) rfl rfl rfl rfl ?_
        rw [hlen, hp]
        refine a_ast (j := 1) (i := 3 + 5 * k) (x := k) (n := 16) (fs := nob (p + (3 + 5 * k)) 0 0 0 0) (by rw [hp]) (by rw [hp]) rfl rfl ?_ (by omega) (by decide) ?_
        · rw [← hlen (rgf p 0 k) (fun _ => none) k]
          exact (nth_ap (j := 0)).trans rfl
        · have e : ((k3 p (rgf p 0 k) (fun _ => none) ++ nws p k) ++ cs_X5 (p + (3 + 5 * k))).set 1 (.inl (3, 16, .inr (.inr (.inr (.inr (va_up (rgf p 0 k) k (some (p + (3 + 5 * k)))))))) ) = k3 p (rgf p 0 (k + 1)) (fun _ => none) ++ nws p (k + 1) := by
            rw [show p + (3 + 5 * k) = p + (3 + 5 * (0 + k)) by omega, rgf_up, nws, show p + 3 + 5 * k = p + (3 + 5 * (0 + k)) by omega, ← List.append_assoc]
            rfl
          rw [e]
          refine g_run 2 rfl ?_
          have hnx := ih (k + 1) (by omega)
          rw [nI_succ, show z + 19 + 32 * (k + 1) = z + 19 + 32 * k + mj_sz 5 + 24 from by have : mj_sz 5 = 8 := rfl; omega] at hnx
          exact hnx
  refine g_run 1 rfl ?_
  refine a_oi rfl rfl rfl rfl ?_
  refine g_run 2 rfl ?_
  refine a_refs (n := 16) (by decide) rfl ?_
  refine a_put (j := 0) hp.symm rfl rfl rfl rfl rfl rfl ?_
  refine g_run 2 rfl ?_
  refine a_refs (n := 3) (by decide) rfl ?_
  refine a_put (j := 0) hp.symm rfl rfl rfl rfl rfl rfl ?_
  refine g_run 2 rfl ?_
  have h1 := loop1 16 0 (by omega)
  have e : rgf p 0 0 = fun _ => none := by
    funext i
    exact if_neg (by omega)
  rw [e] at h1
  rw [hp]
  exact h1
section A4
variable {sta : mj_S} {d : Nat} {Cl : mj_R} {M : mj_M} {T : Nat → mj_L → List Value → mj_H → Prop} {pc q len wp : Nat} {lv : mj_L} {r st : List Value} {raw : Instr} {l t : List va_E} {z n : Nat}
theorem a_newN {ci : Nat} (hn : t.length = n) (he : mj_ent (mj_cd M) pc = some (q, .new ci, len, raw, wp)) (k : mj_go sta Cl M T (q + len) lv (.ref (l.length + n) :: st) (l ++ (t ++ [.inr (ci, mj_new ci)]), z + mj_sz ci)) : mj_go sta Cl M T pc lv st (l ++ t, z) := by
  subst hn
  exact a_new he k
theorem a_intN {y : Nat} (hn : t.length = n) (hy : y ≤ 65536) (he : mj_ent (mj_cd M) pc = some (q, .newarray .int, len, raw, wp)) (k : mj_go sta Cl M T (q + len) lv (.ref (l.length + n) :: st) (l ++ (t ++ [.inl (0, y, .inl (fun _ => 0))]), z + y)) : mj_go sta Cl M T pc lv (.int (nI y) :: st) (l ++ t, z) := by
  subst hn
  exact a_int hy he k
theorem a_initN {c mid ci s : Nat} {cs : Nat → List va_E} (hn : t.length = n) (hI : mj_In sta d mid ci cs s) (hmid : Nat.beq (c / 256) mid = true) (he : mj_ent (mj_cd M) pc = some (q, .invokespecial c, len, raw, wp)) (hc2 : Nat.beq (c / 16 % 16) 1 = true) (hs : Nat.ble (r.map Value.category).sum 8 = true) (k : mj_go sta (mj_Cl sta d) M T (q + 3) lv r (l ++ (t ++ cs (l.length + n)), z + s)) : mj_go sta (mj_Cl sta d) M T pc lv (.ref (l.length + n) :: r) (l ++ (t ++ [.inr (ci, mj_new ci)]), z) := by
  subst hn
  exact a_init hI hmid he hc2 hs k
end A4
theorem ln_X6 (p : Nat) : (cs_X6 p).length = 4 := rfl
theorem ln_X1 (p : Nat) : (cs_X1 p).length = 7 := rfl
theorem ln_X5 (p : Nat) : (cs_X5 p).length = 5 := rfl
theorem ln_X4 (p : Nat) : (cs_X4 p).length = 2 := rfl
theorem ln_X0 (p : Nat) : (cs_X0 p).length = 7 := rfl
theorem ln_X3 (p : Nat) : (cs_X3 p).length = 2 := rfl
theorem ln_X7 (p : Nat) : (cs_X7 p).length = 5 := rfl
theorem ln_X2 (p : Nat) : (cs_X2 p).length = 98 := by
  unfold cs_X2
  rw [List.length_append, nws_len]
  rfl
def cs_X8 (p : Nat) : List va_E := .inr (8, [.ref (p + 1), .int 0, .int 0, .ref (p + 5), .ref (p + 12), .ref (p + 19), .ref (p + 24), .ref (p + 29), .ref (p + 127), .ref (p + 129), .ref (p + 130), .ref (p + 137), .int 0, .ref (p + 144), .ref (p + 146)]) :: (((((((((((cs_X6 (p + 1) ++ cs_X1 (p + 5)) ++ cs_X1 (p + 12)) ++ cs_X5 (p + 19)) ++ cs_X5 (p + 24)) ++ cs_X2 (p + 29)) ++ cs_X4 (p + 127)) ++ [zI 6]) ++ cs_X0 (p + 130)) ++ cs_X0 (p + 137)) ++ cs_X3 (p + 144)) ++ cs_X7 (p + 146))
theorem s_I_X8 (sta : mj_S) (d : Nat) : mj_In sta (d + 4) 67 8 cs_X8 6041 := by
  refine mj_In.mk m_X8_init (by decide) n_X8_init rfl (fun l z => ?_)
  refine g_run 1 rfl ?_
  refine a_oi rfl rfl rfl rfl ?_
  refine g_run 1 rfl ?_
  refine a_newN (n := 1) rfl rfl ?_
  refine g_run 1 rfl ?_
  refine a_initN (n := 1) rfl (s_I_X6 sta (d + 1)) rfl rfl rfl rfl ?_
  show mj_go sta (mj_Cl sta (d + 3)) m_X8_init _ 12 [some (.ref l.length)] [.ref (l.length + 1), .ref l.length] (l ++ (.inr (8, [.null, .int 0, .int 0, .null, .null, .null, .null, .null, .null, .null, .null, .null, .int 0, .null, .null]) :: cs_X6 (l.length + 1)), z + mj_sz 6 + 812)
  refine a_put (j := 0) rfl rfl rfl rfl rfl rfl rfl ?_
  show mj_go sta (mj_Cl sta (d + 3)) m_X8_init _ 15 [some (.ref l.length)] [] (l ++ (.inr (8, [.ref (l.length + 1), .int 0, .int 0, .null, .null, .null, .null, .null, .null, .null, .null, .null, .int 0, .null, .null]) :: cs_X6 (l.length + 1)), z + mj_sz 6 + 812)
  refine g_run 1 rfl ?_
  refine a_newN (n := 5) (by simp only [List.length_cons, List.length_append, List.length_nil, ln_X6, ln_X1, ln_X5, ln_X4, ln_X0, ln_X3, ln_X7, ln_X2]) rfl ?_
  refine g_run 1 rfl ?_
  refine a_initN (n := 5) (by simp only [List.length_cons, List.length_append, List.length_nil, ln_X6, ln_X1, ln_X5, ln_X4, ln_X0, ln_X3, ln_X7, ln_X2]) (s_I_X1 sta (d + 1)) rfl rfl rfl rfl ?_
  show mj_go sta (mj_Cl sta (d + 3)) m_X8_init _ 23 [some (.ref l.length)] [.ref (l.length + 5), .ref l.length] (l ++ (.inr (8, [.ref (l.length + 1), .int 0, .int 0, .null, .null, .null, .null, .null, .null, .null, .null, .null, .int 0, .null, .null]) :: (cs_X6 (l.length + 1) ++ cs_X1 (l.length + 5))), z + mj_sz 6 + 812 + mj_sz 1 + 33)
  refine a_put (j := 0) rfl rfl rfl rfl rfl rfl rfl ?_
  show mj_go sta (mj_Cl sta (d + 3)) m_X8_init _ 26 [some (.ref l.length)] [] (l ++ (.inr (8, [.ref (l.length + 1), .int 0, .int 0, .ref (l.length + 5), .null, .null, .null, .null, .null, .null, .null, .null, .int 0, .null, .null]) :: (cs_X6 (l.length + 1) ++ cs_X1 (l.length + 5))), z + mj_sz 6 + 812 + mj_sz 1 + 33)
  refine g_run 1 rfl ?_
  refine a_newN (n := 12) (by simp only [List.length_cons, List.length_append, List.length_nil, ln_X6, ln_X1, ln_X5, ln_X4, ln_X0, ln_X3, ln_X7, ln_X2]) rfl ?_
  refine g_run 1 rfl ?_
  refine a_initN (n := 12) (by simp only [List.length_cons, List.length_append, List.length_nil, ln_X6, ln_X1, ln_X5, ln_X4, ln_X0, ln_X3, ln_X7, ln_X2]) (s_I_X1 sta (d + 1)) rfl rfl rfl rfl ?_
  show mj_go sta (mj_Cl sta (d + 3)) m_X8_init _ 34 [some (.ref l.length)] [.ref (l.length + 12), .ref l.length] (l ++ (.inr (8, [.ref (l.length + 1), .int 0, .int 0, .ref (l.length + 5), .null, .null, .null, .null, .null, .null, .null, .null, .int 0, .null, .null]) :: ((cs_X6 (l.length + 1) ++ cs_X1 (l.length + 5)) ++ cs_X1 (l.length + 12))), z + mj_sz 6 + 812 + mj_sz 1 + 33 + mj_sz 1 + 33)
  refine a_put (j := 0) rfl rfl rfl rfl rfl rfl rfl ?_
  show mj_go sta (mj_Cl sta (d + 3)) m_X8_init _ 37 [some (.ref l.length)] [] (l ++ (.inr (8, [.ref (l.length + 1), .int 0, .int 0, .ref (l.length + 5), .ref (l.length + 12), .null, .null, .null, .null, .null, .null, .null, .int 0, .null, .null]) :: ((cs_X6 (l.length + 1) ++ cs_X1 (l.length + 5)) ++ cs_X1 (l.length + 12))), z + mj_sz 6 + 812 + mj_sz 1 + 33 + mj_sz 1 + 33)
  refine g_run 1 rfl ?_
  refine a_newN (n := 19) (by simp only [List.length_cons, List.length_append, List.length_nil, ln_X6, ln_X1, ln_X5, ln_X4, ln_X0, ln_X3, ln_X7, ln_X2]) rfl ?_
  refine g_run 1 rfl ?_
  refine a_initN (n := 19) (by simp only [List.length_cons, List.length_append, List.length_nil, ln_X6, ln_X1, ln_X5, ln_X4, ln_X0, ln_X3, ln_X7, ln_X2]) (s_I_X5 sta (d + 1)) rfl rfl rfl rfl ?_
  show mj_go sta (mj_Cl sta (d + 3)) m_X8_init _ 45 [some (.ref l.length)] [.ref (l.length + 19), .ref l.length] (l ++ (.inr (8, [.ref (l.length + 1), .int 0, .int 0, .ref (l.length + 5), .ref (l.length + 12), .null, .null, .null, .null, .null, .null, .null, .int 0, .null, .null]) :: (((cs_X6 (l.length + 1) ++ cs_X1 (l.length + 5)) ++ cs_X1 (l.length + 12)) ++ cs_X5 (l.length + 19))), z + mj_sz 6 + 812 + mj_sz 1 + 33 + mj_sz 1 + 33 + mj_sz 5 + 24)
  refine a_put (j := 0) rfl rfl rfl rfl rfl rfl rfl ?_
  show mj_go sta (mj_Cl sta (d + 3)) m_X8_init _ 48 [some (.ref l.length)] [] (l ++ (.inr (8, [.ref (l.length + 1), .int 0, .int 0, .ref (l.length + 5), .ref (l.length + 12), .ref (l.length + 19), .null, .null, .null, .null, .null, .null, .int 0, .null, .null]) :: (((cs_X6 (l.length + 1) ++ cs_X1 (l.length + 5)) ++ cs_X1 (l.length + 12)) ++ cs_X5 (l.length + 19))), z + mj_sz 6 + 812 + mj_sz 1 + 33 + mj_sz 1 + 33 + mj_sz 5 + 24)
  refine g_run 1 rfl ?_
  refine a_newN (n := 24) (by simp only [List.length_cons, List.length_append, List.length_nil, ln_X6, ln_X1, ln_X5, ln_X4, ln_X0, ln_X3, ln_X7, ln_X2]) rfl ?_
  refine g_run 1 rfl ?_
  refine a_initN (n := 24) (by simp only [List.length_cons, List.length_append, List.length_nil, ln_X6, ln_X1, ln_X5, ln_X4, ln_X0, ln_X3, ln_X7, ln_X2]) (s_I_X5 sta (d + 1)) rfl rfl rfl rfl ?_
  show mj_go sta (mj_Cl sta (d + 3)) m_X8_init _ 56 [some (.ref l.length)] [.ref (l.length + 24), .ref l.length] (l ++ (.inr (8, [.ref (l.length + 1), .int 0, .int 0, .ref (l.length + 5), .ref (l.length + 12), .ref (l.length + 19), .null, .null, .null, .null, .null, .null, .int 0, .null, .null]) :: ((((cs_X6 (l.length + 1) ++ cs_X1 (l.length + 5)) ++ cs_X1 (l.length + 12)) ++ cs_X5 (l.length + 19)) ++ cs_X5 (l.length + 24))), z + mj_sz 6 + 812 + mj_sz 1 + 33 + mj_sz 1 + 33 + mj_sz 5 + 24 + mj_sz 5 + 24)
  refine a_put (j := 0) rfl rfl rfl rfl rfl rfl rfl ?_
  show mj_go sta (mj_Cl sta (d + 3)) m_X8_init _ 59 [some (.ref l.length)] [] (l ++ (.inr (8, [.ref (l.length + 1), .int 0, .int 0, .ref (l.length + 5), .ref (l.length + 12), .ref (l.length + 19), .ref (l.length + 24), .null, .null, .null, .null, .null, .int 0, .null, .null]) :: ((((cs_X6 (l.length + 1) ++ cs_X1 (l.length + 5)) ++ cs_X1 (l.length + 12)) ++ cs_X5 (l.length + 19)) ++ cs_X5 (l.length + 24))), z + mj_sz 6 + 812 + mj_sz 1 + 33 + mj_sz 1 + 33 + mj_sz 5 + 24 + mj_sz 5 + 24)
  refine g_run 1 rfl ?_
  refine a_newN (n := 29) (by simp only [List.length_cons, List.length_append, List.length_nil, ln_X6, ln_X1, ln_X5, ln_X4, ln_X0, ln_X3, ln_X7, ln_X2]) rfl ?_
  refine g_run 1 rfl ?_
  refine a_initN (n := 29) (by simp only [List.length_cons, List.length_append, List.length_nil, ln_X6, ln_X1, ln_X5, ln_X4, ln_X0, ln_X3, ln_X7, ln_X2]) (s_I_X2 sta d) rfl rfl rfl rfl ?_
  show mj_go sta (mj_Cl sta (d + 3)) m_X8_init _ 67 [some (.ref l.length)] [.ref (l.length + 29), .ref l.length] (l ++ (.inr (8, [.ref (l.length + 1), .int 0, .int 0, .ref (l.length + 5), .ref (l.length + 12), .ref (l.length + 19), .ref (l.length + 24), .null, .null, .null, .null, .null, .int 0, .null, .null]) :: (((((cs_X6 (l.length + 1) ++ cs_X1 (l.length + 5)) ++ cs_X1 (l.length + 12)) ++ cs_X5 (l.length + 19)) ++ cs_X5 (l.length + 24)) ++ cs_X2 (l.length + 29))), z + mj_sz 6 + 812 + mj_sz 1 + 33 + mj_sz 1 + 33 + mj_sz 5 + 24 + mj_sz 5 + 24 + mj_sz 2 + 627)
  refine a_put (j := 0) rfl rfl rfl rfl rfl rfl rfl ?_
  show mj_go sta (mj_Cl sta (d + 3)) m_X8_init _ 70 [some (.ref l.length)] [] (l ++ (.inr (8, [.ref (l.length + 1), .int 0, .int 0, .ref (l.length + 5), .ref (l.length + 12), .ref (l.length + 19), .ref (l.length + 24), .ref (l.length + 29), .null, .null, .null, .null, .int 0, .null, .null]) :: (((((cs_X6 (l.length + 1) ++ cs_X1 (l.length + 5)) ++ cs_X1 (l.length + 12)) ++ cs_X5 (l.length + 19)) ++ cs_X5 (l.length + 24)) ++ cs_X2 (l.length + 29))), z + mj_sz 6 + 812 + mj_sz 1 + 33 + mj_sz 1 + 33 + mj_sz 5 + 24 + mj_sz 5 + 24 + mj_sz 2 + 627)
  refine g_run 1 rfl ?_
  refine a_newN (n := 127) (by simp only [List.length_cons, List.length_append, List.length_nil, ln_X6, ln_X1, ln_X5, ln_X4, ln_X0, ln_X3, ln_X7, ln_X2]) rfl ?_
  refine g_run 1 rfl ?_
  refine a_initN (n := 127) (by simp only [List.length_cons, List.length_append, List.length_nil, ln_X6, ln_X1, ln_X5, ln_X4, ln_X0, ln_X3, ln_X7, ln_X2]) (s_I_X4 sta (d + 1)) rfl rfl rfl rfl ?_
  show mj_go sta (mj_Cl sta (d + 3)) m_X8_init _ 78 [some (.ref l.length)] [.ref (l.length + 127), .ref l.length] (l ++ (.inr (8, [.ref (l.length + 1), .int 0, .int 0, .ref (l.length + 5), .ref (l.length + 12), .ref (l.length + 19), .ref (l.length + 24), .ref (l.length + 29), .null, .null, .null, .null, .int 0, .null, .null]) :: ((((((cs_X6 (l.length + 1) ++ cs_X1 (l.length + 5)) ++ cs_X1 (l.length + 12)) ++ cs_X5 (l.length + 19)) ++ cs_X5 (l.length + 24)) ++ cs_X2 (l.length + 29)) ++ cs_X4 (l.length + 127))), z + mj_sz 6 + 812 + mj_sz 1 + 33 + mj_sz 1 + 33 + mj_sz 5 + 24 + mj_sz 5 + 24 + mj_sz 2 + 627 + mj_sz 4 + 6)
  refine a_put (j := 0) rfl rfl rfl rfl rfl rfl rfl ?_
  show mj_go sta (mj_Cl sta (d + 3)) m_X8_init _ 81 [some (.ref l.length)] [] (l ++ (.inr (8, [.ref (l.length + 1), .int 0, .int 0, .ref (l.length + 5), .ref (l.length + 12), .ref (l.length + 19), .ref (l.length + 24), .ref (l.length + 29), .ref (l.length + 127), .null, .null, .null, .int 0, .null, .null]) :: ((((((cs_X6 (l.length + 1) ++ cs_X1 (l.length + 5)) ++ cs_X1 (l.length + 12)) ++ cs_X5 (l.length + 19)) ++ cs_X5 (l.length + 24)) ++ cs_X2 (l.length + 29)) ++ cs_X4 (l.length + 127))), z + mj_sz 6 + 812 + mj_sz 1 + 33 + mj_sz 1 + 33 + mj_sz 5 + 24 + mj_sz 5 + 24 + mj_sz 2 + 627 + mj_sz 4 + 6)
  refine g_run 2 rfl ?_
  refine a_intN (n := 129) (y := 6) (by simp only [List.length_cons, List.length_append, List.length_nil, ln_X6, ln_X1, ln_X5, ln_X4, ln_X0, ln_X3, ln_X7, ln_X2]) (by decide) rfl ?_
  show mj_go sta (mj_Cl sta (d + 3)) m_X8_init _ 86 [some (.ref l.length)] [.ref (l.length + 129), .ref l.length] (l ++ (.inr (8, [.ref (l.length + 1), .int 0, .int 0, .ref (l.length + 5), .ref (l.length + 12), .ref (l.length + 19), .ref (l.length + 24), .ref (l.length + 29), .ref (l.length + 127), .null, .null, .null, .int 0, .null, .null]) :: (((((((cs_X6 (l.length + 1) ++ cs_X1 (l.length + 5)) ++ cs_X1 (l.length + 12)) ++ cs_X5 (l.length + 19)) ++ cs_X5 (l.length + 24)) ++ cs_X2 (l.length + 29)) ++ cs_X4 (l.length + 127)) ++ [zI 6])), z + mj_sz 6 + 812 + mj_sz 1 + 33 + mj_sz 1 + 33 + mj_sz 5 + 24 + mj_sz 5 + 24 + mj_sz 2 + 627 + mj_sz 4 + 6 + 6)
  refine a_put (j := 0) rfl rfl rfl rfl rfl rfl rfl ?_
  show mj_go sta (mj_Cl sta (d + 3)) m_X8_init _ 89 [some (.ref l.length)] [] (l ++ (.inr (8, [.ref (l.length + 1), .int 0, .int 0, .ref (l.length + 5), .ref (l.length + 12), .ref (l.length + 19), .ref (l.length + 24), .ref (l.length + 29), .ref (l.length + 127), .ref (l.length + 129), .null, .null, .int 0, .null, .null]) :: (((((((cs_X6 (l.length + 1) ++ cs_X1 (l.length + 5)) ++ cs_X1 (l.length + 12)) ++ cs_X5 (l.length + 19)) ++ cs_X5 (l.length + 24)) ++ cs_X2 (l.length + 29)) ++ cs_X4 (l.length + 127)) ++ [zI 6])), z + mj_sz 6 + 812 + mj_sz 1 + 33 + mj_sz 1 + 33 + mj_sz 5 + 24 + mj_sz 5 + 24 + mj_sz 2 + 627 + mj_sz 4 + 6 + 6)
  refine g_run 1 rfl ?_
  refine a_newN (n := 130) (by simp only [List.length_cons, List.length_append, List.length_nil, ln_X6, ln_X1, ln_X5, ln_X4, ln_X0, ln_X3, ln_X7, ln_X2]) rfl ?_
  refine g_run 1 rfl ?_
  refine a_initN (n := 130) (by simp only [List.length_cons, List.length_append, List.length_nil, ln_X6, ln_X1, ln_X5, ln_X4, ln_X0, ln_X3, ln_X7, ln_X2]) (s_I_X0 sta d) rfl rfl rfl rfl ?_
  show mj_go sta (mj_Cl sta (d + 3)) m_X8_init _ 97 [some (.ref l.length)] [.ref (l.length + 130), .ref l.length] (l ++ (.inr (8, [.ref (l.length + 1), .int 0, .int 0, .ref (l.length + 5), .ref (l.length + 12), .ref (l.length + 19), .ref (l.length + 24), .ref (l.length + 29), .ref (l.length + 127), .ref (l.length + 129), .null, .null, .int 0, .null, .null]) :: ((((((((cs_X6 (l.length + 1) ++ cs_X1 (l.length + 5)) ++ cs_X1 (l.length + 12)) ++ cs_X5 (l.length + 19)) ++ cs_X5 (l.length + 24)) ++ cs_X2 (l.length + 29)) ++ cs_X4 (l.length + 127)) ++ [zI 6]) ++ cs_X0 (l.length + 130))), z + mj_sz 6 + 812 + mj_sz 1 + 33 + mj_sz 1 + 33 + mj_sz 5 + 24 + mj_sz 5 + 24 + mj_sz 2 + 627 + mj_sz 4 + 6 + 6 + mj_sz 0 + 2176)
  refine a_put (j := 0) rfl rfl rfl rfl rfl rfl rfl ?_
  show mj_go sta (mj_Cl sta (d + 3)) m_X8_init _ 100 [some (.ref l.length)] [] (l ++ (.inr (8, [.ref (l.length + 1), .int 0, .int 0, .ref (l.length + 5), .ref (l.length + 12), .ref (l.length + 19), .ref (l.length + 24), .ref (l.length + 29), .ref (l.length + 127), .ref (l.length + 129), .ref (l.length + 130), .null, .int 0, .null, .null]) :: ((((((((cs_X6 (l.length + 1) ++ cs_X1 (l.length + 5)) ++ cs_X1 (l.length + 12)) ++ cs_X5 (l.length + 19)) ++ cs_X5 (l.length + 24)) ++ cs_X2 (l.length + 29)) ++ cs_X4 (l.length + 127)) ++ [zI 6]) ++ cs_X0 (l.length + 130))), z + mj_sz 6 + 812 + mj_sz 1 + 33 + mj_sz 1 + 33 + mj_sz 5 + 24 + mj_sz 5 + 24 + mj_sz 2 + 627 + mj_sz 4 + 6 + 6 + mj_sz 0 + 2176)
  refine g_run 1 rfl ?_
  refine a_newN (n := 137) (by simp only [List.length_cons, List.length_append, List.length_nil, ln_X6, ln_X1, ln_X5, ln_X4, ln_X0, ln_X3, ln_X7, ln_X2]) rfl ?_
  refine g_run 1 rfl ?_
  refine a_initN (n := 137) (by simp only [List.length_cons, List.length_append, List.length_nil, ln_X6, ln_X1, ln_X5, ln_X4, ln_X0, ln_X3, ln_X7, ln_X2]) (s_I_X0 sta d) rfl rfl rfl rfl ?_
  show mj_go sta (mj_Cl sta (d + 3)) m_X8_init _ 108 [some (.ref l.length)] [.ref (l.length + 137), .ref l.length] (l ++ (.inr (8, [.ref (l.length + 1), .int 0, .int 0, .ref (l.length + 5), .ref (l.length + 12), .ref (l.length + 19), .ref (l.length + 24), .ref (l.length + 29), .ref (l.length + 127), .ref (l.length + 129), .ref (l.length + 130), .null, .int 0, .null, .null]) :: (((((((((cs_X6 (l.length + 1) ++ cs_X1 (l.length + 5)) ++ cs_X1 (l.length + 12)) ++ cs_X5 (l.length + 19)) ++ cs_X5 (l.length + 24)) ++ cs_X2 (l.length + 29)) ++ cs_X4 (l.length + 127)) ++ [zI 6]) ++ cs_X0 (l.length + 130)) ++ cs_X0 (l.length + 137))), z + mj_sz 6 + 812 + mj_sz 1 + 33 + mj_sz 1 + 33 + mj_sz 5 + 24 + mj_sz 5 + 24 + mj_sz 2 + 627 + mj_sz 4 + 6 + 6 + mj_sz 0 + 2176 + mj_sz 0 + 2176)
  refine a_put (j := 0) rfl rfl rfl rfl rfl rfl rfl ?_
  show mj_go sta (mj_Cl sta (d + 3)) m_X8_init _ 111 [some (.ref l.length)] [] (l ++ (.inr (8, [.ref (l.length + 1), .int 0, .int 0, .ref (l.length + 5), .ref (l.length + 12), .ref (l.length + 19), .ref (l.length + 24), .ref (l.length + 29), .ref (l.length + 127), .ref (l.length + 129), .ref (l.length + 130), .ref (l.length + 137), .int 0, .null, .null]) :: (((((((((cs_X6 (l.length + 1) ++ cs_X1 (l.length + 5)) ++ cs_X1 (l.length + 12)) ++ cs_X5 (l.length + 19)) ++ cs_X5 (l.length + 24)) ++ cs_X2 (l.length + 29)) ++ cs_X4 (l.length + 127)) ++ [zI 6]) ++ cs_X0 (l.length + 130)) ++ cs_X0 (l.length + 137))), z + mj_sz 6 + 812 + mj_sz 1 + 33 + mj_sz 1 + 33 + mj_sz 5 + 24 + mj_sz 5 + 24 + mj_sz 2 + 627 + mj_sz 4 + 6 + 6 + mj_sz 0 + 2176 + mj_sz 0 + 2176)
  refine g_run 1 rfl ?_
  refine a_newN (n := 144) (by simp only [List.length_cons, List.length_append, List.length_nil, ln_X6, ln_X1, ln_X5, ln_X4, ln_X0, ln_X3, ln_X7, ln_X2]) rfl ?_
  refine g_run 1 rfl ?_
  refine a_initN (n := 144) (by simp only [List.length_cons, List.length_append, List.length_nil, ln_X6, ln_X1, ln_X5, ln_X4, ln_X0, ln_X3, ln_X7, ln_X2]) (s_I_X3 sta (d + 1)) rfl rfl rfl rfl ?_
  show mj_go sta (mj_Cl sta (d + 3)) m_X8_init _ 119 [some (.ref l.length)] [.ref (l.length + 144), .ref l.length] (l ++ (.inr (8, [.ref (l.length + 1), .int 0, .int 0, .ref (l.length + 5), .ref (l.length + 12), .ref (l.length + 19), .ref (l.length + 24), .ref (l.length + 29), .ref (l.length + 127), .ref (l.length + 129), .ref (l.length + 130), .ref (l.length + 137), .int 0, .null, .null]) :: ((((((((((cs_X6 (l.length + 1) ++ cs_X1 (l.length + 5)) ++ cs_X1 (l.length + 12)) ++ cs_X5 (l.length + 19)) ++ cs_X5 (l.length + 24)) ++ cs_X2 (l.length + 29)) ++ cs_X4 (l.length + 127)) ++ [zI 6]) ++ cs_X0 (l.length + 130)) ++ cs_X0 (l.length + 137)) ++ cs_X3 (l.length + 144))), z + mj_sz 6 + 812 + mj_sz 1 + 33 + mj_sz 1 + 33 + mj_sz 5 + 24 + mj_sz 5 + 24 + mj_sz 2 + 627 + mj_sz 4 + 6 + 6 + mj_sz 0 + 2176 + mj_sz 0 + 2176 + mj_sz 3 + 16)
  refine a_put (j := 0) rfl rfl rfl rfl rfl rfl rfl ?_
  show mj_go sta (mj_Cl sta (d + 3)) m_X8_init _ 122 [some (.ref l.length)] [] (l ++ (.inr (8, [.ref (l.length + 1), .int 0, .int 0, .ref (l.length + 5), .ref (l.length + 12), .ref (l.length + 19), .ref (l.length + 24), .ref (l.length + 29), .ref (l.length + 127), .ref (l.length + 129), .ref (l.length + 130), .ref (l.length + 137), .int 0, .ref (l.length + 144), .null]) :: ((((((((((cs_X6 (l.length + 1) ++ cs_X1 (l.length + 5)) ++ cs_X1 (l.length + 12)) ++ cs_X5 (l.length + 19)) ++ cs_X5 (l.length + 24)) ++ cs_X2 (l.length + 29)) ++ cs_X4 (l.length + 127)) ++ [zI 6]) ++ cs_X0 (l.length + 130)) ++ cs_X0 (l.length + 137)) ++ cs_X3 (l.length + 144))), z + mj_sz 6 + 812 + mj_sz 1 + 33 + mj_sz 1 + 33 + mj_sz 5 + 24 + mj_sz 5 + 24 + mj_sz 2 + 627 + mj_sz 4 + 6 + 6 + mj_sz 0 + 2176 + mj_sz 0 + 2176 + mj_sz 3 + 16)
  refine g_run 1 rfl ?_
  refine a_newN (n := 146) (by simp only [List.length_cons, List.length_append, List.length_nil, ln_X6, ln_X1, ln_X5, ln_X4, ln_X0, ln_X3, ln_X7, ln_X2]) rfl ?_
  refine g_run 1 rfl ?_
  refine a_initN (n := 146) (by simp only [List.length_cons, List.length_append, List.length_nil, ln_X6, ln_X1, ln_X5, ln_X4, ln_X0, ln_X3, ln_X7, ln_X2]) (s_I_X7 sta (d + 1)) rfl rfl rfl rfl ?_
  show mj_go sta (mj_Cl sta (d + 3)) m_X8_init _ 130 [some (.ref l.length)] [.ref (l.length + 146), .ref l.length] (l ++ (.inr (8, [.ref (l.length + 1), .int 0, .int 0, .ref (l.length + 5), .ref (l.length + 12), .ref (l.length + 19), .ref (l.length + 24), .ref (l.length + 29), .ref (l.length + 127), .ref (l.length + 129), .ref (l.length + 130), .ref (l.length + 137), .int 0, .ref (l.length + 144), .null]) :: (((((((((((cs_X6 (l.length + 1) ++ cs_X1 (l.length + 5)) ++ cs_X1 (l.length + 12)) ++ cs_X5 (l.length + 19)) ++ cs_X5 (l.length + 24)) ++ cs_X2 (l.length + 29)) ++ cs_X4 (l.length + 127)) ++ [zI 6]) ++ cs_X0 (l.length + 130)) ++ cs_X0 (l.length + 137)) ++ cs_X3 (l.length + 144)) ++ cs_X7 (l.length + 146))), z + mj_sz 6 + 812 + mj_sz 1 + 33 + mj_sz 1 + 33 + mj_sz 5 + 24 + mj_sz 5 + 24 + mj_sz 2 + 627 + mj_sz 4 + 6 + 6 + mj_sz 0 + 2176 + mj_sz 0 + 2176 + mj_sz 3 + 16 + mj_sz 7 + 21)
  refine a_put (j := 0) rfl rfl rfl rfl rfl rfl rfl ?_
  show mj_go sta (mj_Cl sta (d + 3)) m_X8_init _ 133 [some (.ref l.length)] [] (l ++ (.inr (8, [.ref (l.length + 1), .int 0, .int 0, .ref (l.length + 5), .ref (l.length + 12), .ref (l.length + 19), .ref (l.length + 24), .ref (l.length + 29), .ref (l.length + 127), .ref (l.length + 129), .ref (l.length + 130), .ref (l.length + 137), .int 0, .ref (l.length + 144), .ref (l.length + 146)]) :: (((((((((((cs_X6 (l.length + 1) ++ cs_X1 (l.length + 5)) ++ cs_X1 (l.length + 12)) ++ cs_X5 (l.length + 19)) ++ cs_X5 (l.length + 24)) ++ cs_X2 (l.length + 29)) ++ cs_X4 (l.length + 127)) ++ [zI 6]) ++ cs_X0 (l.length + 130)) ++ cs_X0 (l.length + 137)) ++ cs_X3 (l.length + 144)) ++ cs_X7 (l.length + 146))), z + mj_sz 6 + 812 + mj_sz 1 + 33 + mj_sz 1 + 33 + mj_sz 5 + 24 + mj_sz 5 + 24 + mj_sz 2 + 627 + mj_sz 4 + 6 + 6 + mj_sz 0 + 2176 + mj_sz 0 + 2176 + mj_sz 3 + 16 + mj_sz 7 + 21)
  refine a_vret rfl rfl ?_
  have z6 : mj_sz 6 = 12 := rfl
  have z1 : mj_sz 1 = 15 := rfl
  have z5 : mj_sz 5 = 8 := rfl
  have z2 : mj_sz 2 = 5 := rfl
  have z4 : mj_sz 4 = 4 := rfl
  have z0 : mj_sz 0 = 7 := rfl
  have z3 : mj_sz 3 = 3 := rfl
  have z7 : mj_sz 7 = 3 := rfl
  exact Prod.ext rfl (by show z + mj_sz 6 + 812 + mj_sz 1 + 33 + mj_sz 1 + 33 + mj_sz 5 + 24 + mj_sz 5 + 24 + mj_sz 2 + 627 + mj_sz 4 + 6 + 6 + mj_sz 0 + 2176 + mj_sz 0 + 2176 + mj_sz 3 + 16 + mj_sz 7 + 21 = z + 6041; omega)
