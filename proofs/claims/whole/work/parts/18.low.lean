/-! small numbers, bits -/
theorem bt_get : ∀ b, b < 64 → ∀ k, k < 6 → ((nI b >>> (nI k &&& 31)) &&& 1) = if b.testBit k then 1 else 0 := by decide +kernel
theorem bt_set : ∀ b, b < 64 → ∀ k, k < 6 → (nI b ||| ((1 : Int32) <<< (nI k &&& 31))) = nI (b ||| 2 ^ k) := by decide +kernel
theorem bt_lt : ∀ b, b < 64 → ∀ k, k < 6 → b ||| 2 ^ k < 64 := by decide +kernel
theorem le_pred {x y : Int32} (h : 0 ≤ y) : x ≤ y - 1 ↔ x < y := by
  rw [Int32.le_iff_toInt_le, Int32.lt_iff_toInt_lt]
  have h1 := fb_rng y
  have h0 : (0 : Int) ≤ y.toInt := by simpa [Int32.le_iff_toInt_le] using h
  rw [fb_subI (by simp; omega) (by simp; omega)]
  simp
  omega
/-- LowNumber's own fields -/
abbrev ob (tr dr : Int32) (a b : Nat) (sl : Int32) : List Value := [.ref 1, .int tr, .int dr, .ref a, .ref b, .ref 19, .ref 24, .ref 29, .ref 127, .ref 129, .ref 130, .ref 137, .int sl, .ref 144, .ref 146]
theorem s_refuse (sta : mj_S) (d : Nat) (tr dr sl y : Int32) (a b : Nat) : mj_Sx sta (d + 1) 132 [.ref 0, .int y] [(0, .inr (8, ob tr dr a b sl))] (fun v w => v = some (.int (-1)) ∧ w = [(0, .inr (8, ob y dr a b sl))]) := by
  refine mj_Sx.mk m_X8_refuse (by decide) n_X8_refuse rfl (fun h hv => ?_)
  repeat (first | refine g_px rfl rfl rfl ?_ | refine g_get hv 0 rfl rfl rfl rfl ?_)
  refine g_put hv 0 rfl rfl rfl rfl rfl rfl (fun h hv => ?_)
  repeat (first | refine g_px rfl rfl rfl ?_ | refine g_get hv 0 rfl rfl rfl rfl ?_)
  exact g_iret hv rfl rfl rfl rfl ⟨rfl, rfl⟩
theorem s_answer (sta : mj_S) (d : Nat) (tr dr sl y : Int32) (a b : Nat) : mj_Sx sta (d + 1) 133 [.ref 0, .int y] [(0, .inr (8, ob tr dr a b sl))] (fun v w => v = some (.int y) ∧ w = [(0, .inr (8, ob 0 dr a b sl))]) := by
  refine mj_Sx.mk m_X8_answer (by decide) n_X8_answer rfl (fun h hv => ?_)
  repeat (first | refine g_px rfl rfl rfl ?_ | refine g_get hv 0 rfl rfl rfl rfl ?_)
  refine g_put hv 0 rfl rfl rfl rfl rfl rfl (fun h hv => ?_)
  repeat (first | refine g_px rfl rfl rfl ?_ | refine g_get hv 0 rfl rfl rfl rfl ?_)
  exact g_iret hv rfl rfl rfl rfl ⟨rfl, rfl⟩
