/-! tools: constants, bits, frames -/
theorem k_i (n : Nat) : Int32.ofInt (OfNat.ofNat n : Int) = nI n := rfl
theorem k_6 : (Int8.ofInt 6).toInt32 = nI 6 := rfl
theorem k_7 : (Int8.ofInt 7).toInt32 = nI 7 := rfl
theorem k_8 : (Int8.ofInt 8).toInt32 = nI 8 := rfl
theorem k_9 : (Int8.ofInt 9).toInt32 = nI 9 := rfl
theorem k_10 : (Int8.ofInt 10).toInt32 = nI 10 := rfl
theorem k_12 : (Int8.ofInt 12).toInt32 = nI 12 := rfl
theorem k_15 : (Int8.ofInt 15).toInt32 = nI 15 := rfl
theorem k_16 : (Int8.ofInt 16).toInt32 = nI 16 := rfl
theorem k_18 : (Int8.ofInt 18).toInt32 = nI 18 := rfl
theorem k_20 : (Int8.ofInt 20).toInt32 = nI 20 := rfl
theorem k_24 : (Int8.ofInt 24).toInt32 = nI 24 := rfl
theorem k_25 : (Int8.ofInt 25).toInt32 = nI 25 := rfl
theorem k_26 : (Int8.ofInt 26).toInt32 = nI 26 := rfl
theorem k_27 : (Int8.ofInt 27).toInt32 = nI 27 := rfl
theorem k_28 : (Int8.ofInt 28).toInt32 = nI 28 := rfl
theorem k_32 : (Int8.ofInt 32).toInt32 = nI 32 := rfl
theorem k_36 : (Int8.ofInt 36).toInt32 = nI 36 := rfl
theorem k_48 : (Int8.ofInt 48).toInt32 = nI 48 := rfl
theorem k_57 : (Int8.ofInt 57).toInt32 = nI 57 := rfl
theorem k_59 : (Int8.ofInt 59).toInt32 = nI 59 := rfl
theorem k_63 : (Int8.ofInt 63).toInt32 = nI 63 := rfl
theorem k_74 : (Int8.ofInt 74).toInt32 = nI 74 := rfl
theorem k_75 : (Int8.ofInt 75).toInt32 = nI 75 := rfl
theorem k_84 : (Int8.ofInt 84).toInt32 = nI 84 := rfl
theorem k_90 : (Int8.ofInt 90).toInt32 = nI 90 := rfl
theorem k_97 : (Int8.ofInt 97).toInt32 = nI 97 := rfl
theorem k_99 : (Int8.ofInt 99).toInt32 = nI 99 := rfl
theorem k_100 : (Int8.ofInt 100).toInt32 = nI 100 := rfl
theorem k_122 : (Int8.ofInt 122).toInt32 = nI 122 := rfl
theorem k_200 : (Int16.ofInt 200).toInt32 = nI 200 := rfl
theorem k_255 : (Int16.ofInt 255).toInt32 = nI 255 := rfl
theorem k_420 : (Int16.ofInt 420).toInt32 = nI 420 := rfl
theorem k_448 : (Int16.ofInt 448).toInt32 = nI 448 := rfl
theorem k_720 : (Int16.ofInt 720).toInt32 = nI 720 := rfl
theorem k_800 : (Int16.ofInt 800).toInt32 = nI 800 := rfl
theorem k_999 : (Int16.ofInt 999).toInt32 = nI 999 := rfl
theorem k_z : (0 : Int32) = nI 0 := rfl
theorem k_o : (1 : Int32) = nI 1 := rfl
theorem k_31 {k : Nat} (h : k < 32) : nI k &&& 31 = nI k := by
  rw [show (31 : Int32) = nI (2 ^ 5 - 1) from rfl, fa_mask, Nat.mod_eq_of_lt (by simpa using h)]
theorem smod_k {k : Nat} (h : k < 32) : ((nI k).toBitVec.smod 32).toNat = k := by
  have : ∀ k, k < 32 → ((nI k).toBitVec.smod 32).toNat = k := by decide +kernel
  exact this k h
theorem k_shr {b k : Nat} (hb : b < 2 ^ 31) (hk : k < 32) : nI b >>> (nI k &&& 31) = nI (b / 2 ^ k) := by
  rw [k_31 hk]
  exact pk_shrN hb _ k (smod_k hk)
theorem bl_nI (b : Bool) : bl b = nI (if b then 1 else 0) := by cases b <;> rfl
/-- a bit -/
theorem k_bit {b k : Nat} (hb : b < 2 ^ 31) (hk : k < 32) : (nI b >>> (nI k &&& 31)) &&& Int32.ofInt 1 = bl (b.testBit k) := by
  rw [k_shr hb hk, show Int32.ofInt 1 = nI (2 ^ 1 - 1) from rfl, fa_mask, bl_nI]
  congr 1
  rw [Nat.testBit_eq_decide_div_mod_eq]
  have := Nat.mod_lt (b / 2 ^ k) (show 0 < 2 ^ 1 by decide)
  simp only [decide_eq_true_eq]
  split <;> omega
theorem k_shl {k : Nat} (hk : k < 31) : Int32.ofInt 1 <<< (nI k &&& 31) = nI (2 ^ k) := by
  rw [k_31 (by omega)]
  have := pk_shlN (n := 1) (nI k) k (smod_k (by omega)) (by
    have := Nat.pow_lt_pow_right (a := 2) (by decide) (show k < 32 by omega)
    omega)
  rw [Nat.one_mul] at this
  exact this
theorem bl_1 (b : Bool) : (bl b = 1 ↔ b = true) := by cases b <;> decide
theorem bl_0 (b : Bool) : (bl b = 0 ↔ b = false) := by cases b <;> decide
theorem bl_n1 (b : Bool) : (bl b = nI 1 ↔ b = true) := bl_1 b
theorem bl_n0 (b : Bool) : (bl b = nI 0 ↔ b = false) := bl_0 b
theorem bl_i1 (b : Bool) : (bl b = Int32.ofInt 1 ↔ b = true) := bl_1 b
theorem bl_ns (b : Bool) : narrow .boolean (.int (bl b)) = .int (bl b) := by cases b <;> rfl
theorem nI_lt0 {a : Nat} (ha : a < 2 ^ 31) : (nI a < 0) = False := eq_false (nI_pos ha)
theorem nI_0le {a : Nat} (ha : a < 2 ^ 31) : (0 ≤ nI a) = True := eq_true (nI_pos' ha)
theorem nI_eq0 {a : Nat} (ha : a < 2 ^ 31) : (nI a = 0) ↔ a = 0 := nI_eq (b := 0) ha (by decide)
theorem nI_eqT {a : Nat} (ha : a < 2 ^ 31) : (nI a = 1) ↔ a = 1 := nI_eq (b := 1) ha (by decide)
/-- a contract over more cells -/
theorem mj_Sx.fr {sta : mj_S} {d mid : Nat} {as : List Value} {w wc : mj_W} {Post : Option Value → mj_W → Prop} (is : List Nat) (hS : mj_Sx sta d mid as wc Post) (hpk : mj_pk w is = wc) (hil : wc.length = is.length) (hnd : is.Nodup) : mj_Sx sta d mid as w (fun v w' => ∃ wc', Post v wc' ∧ mj_ks wc' = mj_ks wc ∧ w' = mj_pb w is wc') := by
  subst hpk
  intro h hv
  obtain ⟨v, w', h', h1, h2, h3, h4⟩ := hS h (hv.V.pick hil hnd)
  have h5 := hv.V.call hil hnd h2 h3
  have hks : mj_ks (mj_pb w is w') = mj_ks w := mj_pb_ks (fun t j ht x hx => by
    obtain ⟨y, hy, hy2⟩ := mj_pk_at hil ht
    have e1 : mj_nth (mj_ks w') t = some x.1 := mj_ks_at (e := x.2) hx
    have e2 : mj_nth (mj_ks (mj_pk w is)) t = some y.1 := mj_ks_at (e := y.2) hy2
    rw [h2, e2] at e1
    exact ⟨y.2, by rw [hy, ← Option.some.inj e1]⟩)
  exact ⟨v, _, h', ⟨w', h1, h2, rfl⟩, hks, h5, h4⟩
theorem mj_Sx.post {sta : mj_S} {d mid : Nat} {as : List Value} {w : mj_W} {P Q : Option Value → mj_W → Prop} (hS : mj_Sx sta d mid as w P) (hq : ∀ v w', P v w' → mj_ks w' = mj_ks w → Q v w') : mj_Sx sta d mid as w Q := fun h hv => by
  obtain ⟨v, w', h', h1, h2, h3, h4⟩ := hS h hv
  exact ⟨v, w', h', hq v w' h1 h2, h2, h3, h4⟩
/-- short words -/
abbrev lr (a : Nat) : Option Value := some (.ref a)
abbrev ln (k : Nat) : Option Value := some (.int (nI k))
abbrev li (x : Int32) : Option Value := some (.int x)
abbrev ll (k : Nat) : Option Value := some (.long (lN k))
abbrev vn (k : Nat) : Value := .int (nI k)
abbrev vi (x : Int32) : Value := .int x
/-- how many bits -/
def pop (b : Nat) : Nat := fb_ct (fun k => b.testBit k) 6
theorem s_bits (sta : mj_S) (d b : Nat) (hb : b < 64) : mj_Sx sta (d + 1) 284 [(.int (nI b))] [] (fun v w => v = some ((.int (nI (pop b)))) ∧ w = []) := by
  refine mj_Sx.mk m_J6_bitCount (by decide) n_J6_bitCount rfl (fun h0 hv => ?_)
  generalize hT : mj_rx m_J6_bitCount h0 _ _ = T
  repeat (first | refine g_px rfl rfl rfl ?_)
  subst hT
  refine g_iret hv rfl rfl rfl rfl ?_
  refine ⟨congrArg (fun x => some (Value.int x)) ?_, rfl⟩
  clear hv
  revert b
  decide +kernel
