theorem ok_J6_bitCount : mj_okM m_J6_bitCount = true := by decide +kernel
theorem hd_J6_bitCount : mj_hd m_J6_bitCount := ⟨List.mem_of_getElem? (i := 860) (by decide +kernel), List.mem_of_getElem? (i := 120) (by decide +kernel), ⟨by decide +kernel, by decide +kernel⟩, by decide +kernel, by decide +kernel⟩
theorem ok_L_law : mj_okM m_L_law = true := by decide +kernel
theorem ok_ms7 : ∀ M ∈ mj_ms7, mj_okM M = true := List.forall_mem_cons.mpr ⟨ok_J6_bitCount, List.forall_mem_cons.mpr ⟨ok_L_law, fun _ h => absurd h List.not_mem_nil⟩⟩
theorem hd_ms7 : ∀ M ∈ mj_ms7, M ≠ m_L_law → mj_hd M := List.forall_mem_cons.mpr ⟨fun _ => hd_J6_bitCount, List.forall_mem_cons.mpr ⟨fun h => absurd rfl h, fun _ h => absurd h List.not_mem_nil⟩⟩
