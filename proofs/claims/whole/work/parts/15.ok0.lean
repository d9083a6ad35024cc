theorem ok_X0_init : mj_okM m_X0_init = true := by decide +kernel
theorem hd_X0_init : mj_hd m_X0_init := ⟨List.mem_of_getElem? (i := 369) (by decide +kernel), List.mem_of_getElem? (i := 110) (by decide +kernel), ⟨by decide +kernel, by decide +kernel⟩, by decide +kernel, by decide +kernel⟩
theorem ok_X0_fill : mj_okM m_X0_fill = true := by decide +kernel
theorem hd_X0_fill : mj_hd m_X0_fill := ⟨List.mem_of_getElem? (i := 781) (by decide +kernel), List.mem_of_getElem? (i := 110) (by decide +kernel), ⟨by decide +kernel, by decide +kernel⟩, by decide +kernel, by decide +kernel⟩
theorem ok_X0_packed : mj_okM m_X0_packed = true := by decide +kernel
theorem hd_X0_packed : mj_hd m_X0_packed := ⟨List.mem_of_getElem? (i := 786) (by decide +kernel), List.mem_of_getElem? (i := 110) (by decide +kernel), ⟨by decide +kernel, by decide +kernel⟩, by decide +kernel, by decide +kernel⟩
theorem ok_X0_sent : mj_okM m_X0_sent = true := by decide +kernel
theorem hd_X0_sent : mj_hd m_X0_sent := ⟨List.mem_of_getElem? (i := 821) (by decide +kernel), List.mem_of_getElem? (i := 110) (by decide +kernel), ⟨by decide +kernel, by decide +kernel⟩, by decide +kernel, by decide +kernel⟩
theorem ok_X0_isTaken : mj_okM m_X0_isTaken = true := by decide +kernel
theorem hd_X0_isTaken : mj_hd m_X0_isTaken := ⟨List.mem_of_getElem? (i := 797) (by decide +kernel), List.mem_of_getElem? (i := 110) (by decide +kernel), ⟨by decide +kernel, by decide +kernel⟩, by decide +kernel, by decide +kernel⟩
theorem ok_X0_sender : mj_okM m_X0_sender = true := by decide +kernel
theorem hd_X0_sender : mj_hd m_X0_sender := ⟨List.mem_of_getElem? (i := 825) (by decide +kernel), List.mem_of_getElem? (i := 110) (by decide +kernel), ⟨by decide +kernel, by decide +kernel⟩, by decide +kernel, by decide +kernel⟩
theorem ok_X0_lost : mj_okM m_X0_lost = true := by decide +kernel
theorem hd_X0_lost : mj_hd m_X0_lost := ⟨List.mem_of_getElem? (i := 845) (by decide +kernel), List.mem_of_getElem? (i := 110) (by decide +kernel), ⟨by decide +kernel, by decide +kernel⟩, by decide +kernel, by decide +kernel⟩
theorem ok_X0_weightTaken : mj_okM m_X0_weightTaken = true := by decide +kernel
theorem hd_X0_weightTaken : mj_hd m_X0_weightTaken := ⟨List.mem_of_getElem? (i := 793) (by decide +kernel), List.mem_of_getElem? (i := 110) (by decide +kernel), ⟨by decide +kernel, by decide +kernel⟩, by decide +kernel, by decide +kernel⟩
theorem ok_X0_weightGoing : mj_okM m_X0_weightGoing = true := by decide +kernel
theorem hd_X0_weightGoing : mj_hd m_X0_weightGoing := ⟨List.mem_of_getElem? (i := 817) (by decide +kernel), List.mem_of_getElem? (i := 110) (by decide +kernel), ⟨by decide +kernel, by decide +kernel⟩, by decide +kernel, by decide +kernel⟩
theorem ok_X0_weightSent : mj_okM m_X0_weightSent = true := by decide +kernel
theorem hd_X0_weightSent : mj_hd m_X0_weightSent := ⟨List.mem_of_getElem? (i := 833) (by decide +kernel), List.mem_of_getElem? (i := 110) (by decide +kernel), ⟨by decide +kernel, by decide +kernel⟩, by decide +kernel, by decide +kernel⟩
theorem ok_X0_weightLosing : mj_okM m_X0_weightLosing = true := by decide +kernel
theorem hd_X0_weightLosing : mj_hd m_X0_weightLosing := ⟨List.mem_of_getElem? (i := 871) (by decide +kernel), List.mem_of_getElem? (i := 110) (by decide +kernel), ⟨by decide +kernel, by decide +kernel⟩, by decide +kernel, by decide +kernel⟩
theorem ok_X0_weightUnfilled : mj_okM m_X0_weightUnfilled = true := by decide +kernel
theorem hd_X0_weightUnfilled : mj_hd m_X0_weightUnfilled := ⟨List.mem_of_getElem? (i := 883) (by decide +kernel), List.mem_of_getElem? (i := 110) (by decide +kernel), ⟨by decide +kernel, by decide +kernel⟩, by decide +kernel, by decide +kernel⟩
theorem ok_X0_lossOf : mj_okM m_X0_lossOf = true := by decide +kernel
theorem hd_X0_lossOf : mj_hd m_X0_lossOf := ⟨List.mem_of_getElem? (i := 841) (by decide +kernel), List.mem_of_getElem? (i := 110) (by decide +kernel), ⟨by decide +kernel, by decide +kernel⟩, by decide +kernel, by decide +kernel⟩
theorem ok_X1_init : mj_okM m_X1_init = true := by decide +kernel
theorem hd_X1_init : mj_hd m_X1_init := ⟨List.mem_of_getElem? (i := 185) (by decide +kernel), List.mem_of_getElem? (i := 106) (by decide +kernel), ⟨by decide +kernel, by decide +kernel⟩, by decide +kernel, by decide +kernel⟩
theorem ok_X1_clear : mj_okM m_X1_clear = true := by decide +kernel
theorem hd_X1_clear : mj_hd m_X1_clear := ⟨List.mem_of_getElem? (i := 514) (by decide +kernel), List.mem_of_getElem? (i := 106) (by decide +kernel), ⟨by decide +kernel, by decide +kernel⟩, by decide +kernel, by decide +kernel⟩
theorem ok_X2_init : mj_okM m_X2_init = true := by decide +kernel
theorem hd_X2_init : mj_hd m_X2_init := ⟨List.mem_of_getElem? (i := 316) (by decide +kernel), List.mem_of_getElem? (i := 108) (by decide +kernel), ⟨by decide +kernel, by decide +kernel⟩, by decide +kernel, by decide +kernel⟩
theorem ok_X2_clear : mj_okM m_X2_clear = true := by decide +kernel
theorem hd_X2_clear : mj_hd m_X2_clear := ⟨List.mem_of_getElem? (i := 662) (by decide +kernel), List.mem_of_getElem? (i := 108) (by decide +kernel), ⟨by decide +kernel, by decide +kernel⟩, by decide +kernel, by decide +kernel⟩
theorem ok_X2_keep : mj_okM m_X2_keep = true := by decide +kernel
theorem hd_X2_keep : mj_hd m_X2_keep := ⟨List.mem_of_getElem? (i := 1057) (by decide +kernel), List.mem_of_getElem? (i := 108) (by decide +kernel), ⟨by decide +kernel, by decide +kernel⟩, by decide +kernel, by decide +kernel⟩
theorem ok_X2_takeBack : mj_okM m_X2_takeBack = true := by decide +kernel
theorem hd_X2_takeBack : mj_hd m_X2_takeBack := ⟨List.mem_of_getElem? (i := 1099) (by decide +kernel), List.mem_of_getElem? (i := 108) (by decide +kernel), ⟨by decide +kernel, by decide +kernel⟩, by decide +kernel, by decide +kernel⟩
theorem ok_X2_paint : mj_okM m_X2_paint = true := by decide +kernel
theorem hd_X2_paint : mj_hd m_X2_paint := ⟨List.mem_of_getElem? (i := 1107) (by decide +kernel), List.mem_of_getElem? (i := 108) (by decide +kernel), ⟨by decide +kernel, by decide +kernel⟩, by decide +kernel, by decide +kernel⟩
theorem ok_X2_goBack : mj_okM m_X2_goBack = true := by decide +kernel
theorem hd_X2_goBack : mj_hd m_X2_goBack := ⟨List.mem_of_getElem? (i := 1115) (by decide +kernel), List.mem_of_getElem? (i := 108) (by decide +kernel), ⟨by decide +kernel, by decide +kernel⟩, by decide +kernel, by decide +kernel⟩
theorem ok_X3_init : mj_okM m_X3_init = true := by decide +kernel
theorem hd_X3_init : mj_hd m_X3_init := ⟨List.mem_of_getElem? (i := 402) (by decide +kernel), List.mem_of_getElem? (i := 111) (by decide +kernel), ⟨by decide +kernel, by decide +kernel⟩, by decide +kernel, by decide +kernel⟩
theorem ok_X3_forget : mj_okM m_X3_forget = true := by decide +kernel
theorem hd_X3_forget : mj_hd m_X3_forget := ⟨List.mem_of_getElem? (i := 670) (by decide +kernel), List.mem_of_getElem? (i := 111) (by decide +kernel), ⟨by decide +kernel, by decide +kernel⟩, by decide +kernel, by decide +kernel⟩
theorem ok_X3_put : mj_okM m_X3_put = true := by decide +kernel
theorem hd_X3_put : mj_hd m_X3_put := ⟨List.mem_of_getElem? (i := 907) (by decide +kernel), List.mem_of_getElem? (i := 111) (by decide +kernel), ⟨by decide +kernel, by decide +kernel⟩, by decide +kernel, by decide +kernel⟩
theorem ok_X4_init : mj_okM m_X4_init = true := by decide +kernel
theorem hd_X4_init : mj_hd m_X4_init := ⟨List.mem_of_getElem? (i := 343) (by decide +kernel), List.mem_of_getElem? (i := 109) (by decide +kernel), ⟨by decide +kernel, by decide +kernel⟩, by decide +kernel, by decide +kernel⟩
theorem ok_X4_run : mj_okM m_X4_run = true := by decide +kernel
theorem hd_X4_run : mj_hd m_X4_run := ⟨List.mem_of_getElem? (i := 726) (by decide +kernel), List.mem_of_getElem? (i := 109) (by decide +kernel), ⟨by decide +kernel, by decide +kernel⟩, by decide +kernel, by decide +kernel⟩
theorem ok_X4_callMen : mj_okM m_X4_callMen = true := by decide +kernel
theorem hd_X4_callMen : mj_hd m_X4_callMen := ⟨List.mem_of_getElem? (i := 730) (by decide +kernel), List.mem_of_getElem? (i := 109) (by decide +kernel), ⟨by decide +kernel, by decide +kernel⟩, by decide +kernel, by decide +kernel⟩
theorem ok_X4_cheapest : mj_okM m_X4_cheapest = true := by decide +kernel
theorem hd_X4_cheapest : mj_hd m_X4_cheapest := ⟨List.mem_of_getElem? (i := 709) (by decide +kernel), List.mem_of_getElem? (i := 109) (by decide +kernel), ⟨by decide +kernel, by decide +kernel⟩, by decide +kernel, by decide +kernel⟩
theorem ok_X4_lost : mj_okM m_X4_lost = true := by decide +kernel
theorem hd_X4_lost : mj_hd m_X4_lost := ⟨List.mem_of_getElem? (i := 750) (by decide +kernel), List.mem_of_getElem? (i := 109) (by decide +kernel), ⟨by decide +kernel, by decide +kernel⟩, by decide +kernel, by decide +kernel⟩
theorem ok_X5_init : mj_okM m_X5_init = true := by decide +kernel
theorem hd_X5_init : mj_hd m_X5_init := ⟨List.mem_of_getElem? (i := 275) (by decide +kernel), List.mem_of_getElem? (i := 107) (by decide +kernel), ⟨by decide +kernel, by decide +kernel⟩, by decide +kernel, by decide +kernel⟩
theorem ok_X5_begin : mj_okM m_X5_begin = true := by decide +kernel
theorem hd_X5_begin : mj_hd m_X5_begin := ⟨List.mem_of_getElem? (i := 658) (by decide +kernel), List.mem_of_getElem? (i := 107) (by decide +kernel), ⟨by decide +kernel, by decide +kernel⟩, by decide +kernel, by decide +kernel⟩
theorem ok_X5_take : mj_okM m_X5_take = true := by decide +kernel
theorem hd_X5_take : mj_hd m_X5_take := ⟨List.mem_of_getElem? (i := 892) (by decide +kernel), List.mem_of_getElem? (i := 107) (by decide +kernel), ⟨by decide +kernel, by decide +kernel⟩, by decide +kernel, by decide +kernel⟩
theorem ok_X6_init : mj_okM m_X6_init = true := by decide +kernel
theorem hd_X6_init : mj_hd m_X6_init := ⟨List.mem_of_getElem? (i := 137) (by decide +kernel), List.mem_of_getElem? (i := 105) (by decide +kernel), ⟨by decide +kernel, by decide +kernel⟩, by decide +kernel, by decide +kernel⟩
theorem ok_X6_hasRoom : mj_okM m_X6_hasRoom = true := by decide +kernel
theorem hd_X6_hasRoom : mj_hd m_X6_hasRoom := ⟨List.mem_of_getElem? (i := 491) (by decide +kernel), List.mem_of_getElem? (i := 105) (by decide +kernel), ⟨by decide +kernel, by decide +kernel⟩, by decide +kernel, by decide +kernel⟩
theorem ok_X6_put : mj_okM m_X6_put = true := by decide +kernel
theorem hd_X6_put : mj_hd m_X6_put := ⟨List.mem_of_getElem? (i := 495) (by decide +kernel), List.mem_of_getElem? (i := 105) (by decide +kernel), ⟨by decide +kernel, by decide +kernel⟩, by decide +kernel, by decide +kernel⟩
theorem ok_X6_read : mj_okM m_X6_read = true := by decide +kernel
theorem hd_X6_read : mj_hd m_X6_read := ⟨List.mem_of_getElem? (i := 507) (by decide +kernel), List.mem_of_getElem? (i := 105) (by decide +kernel), ⟨by decide +kernel, by decide +kernel⟩, by decide +kernel, by decide +kernel⟩
theorem ok_X6_fail : mj_okM m_X6_fail = true := by decide +kernel
theorem hd_X6_fail : mj_hd m_X6_fail := ⟨List.mem_of_getElem? (i := 595) (by decide +kernel), List.mem_of_getElem? (i := 105) (by decide +kernel), ⟨by decide +kernel, by decide +kernel⟩, by decide +kernel, by decide +kernel⟩
theorem ok_X6_step : mj_okM m_X6_step = true := by decide +kernel
theorem hd_X6_step : mj_hd m_X6_step := ⟨List.mem_of_getElem? (i := 518) (by decide +kernel), List.mem_of_getElem? (i := 105) (by decide +kernel), ⟨by decide +kernel, by decide +kernel⟩, by decide +kernel, by decide +kernel⟩
theorem ok_X6_isBetween : mj_okM m_X6_isBetween = true := by decide +kernel
theorem hd_X6_isBetween : mj_hd m_X6_isBetween := ⟨List.mem_of_getElem? (i := 521) (by decide +kernel), List.mem_of_getElem? (i := 105) (by decide +kernel), ⟨by decide +kernel, by decide +kernel⟩, by decide +kernel, by decide +kernel⟩
theorem ok_X6_runEnd : mj_okM m_X6_runEnd = true := by decide +kernel
theorem hd_X6_runEnd : mj_hd m_X6_runEnd := ⟨List.mem_of_getElem? (i := 525) (by decide +kernel), List.mem_of_getElem? (i := 105) (by decide +kernel), ⟨by decide +kernel, by decide +kernel⟩, by decide +kernel, by decide +kernel⟩
theorem ok_ms0 : ∀ M ∈ mj_ms0, mj_okM M = true := List.forall_mem_cons.mpr ⟨ok_X0_init, List.forall_mem_cons.mpr ⟨ok_X0_fill, List.forall_mem_cons.mpr ⟨ok_X0_packed, List.forall_mem_cons.mpr ⟨ok_X0_sent, List.forall_mem_cons.mpr ⟨ok_X0_isTaken, List.forall_mem_cons.mpr ⟨ok_X0_sender, List.forall_mem_cons.mpr ⟨ok_X0_lost, List.forall_mem_cons.mpr ⟨ok_X0_weightTaken, List.forall_mem_cons.mpr ⟨ok_X0_weightGoing, List.forall_mem_cons.mpr ⟨ok_X0_weightSent, List.forall_mem_cons.mpr ⟨ok_X0_weightLosing, List.forall_mem_cons.mpr ⟨ok_X0_weightUnfilled, List.forall_mem_cons.mpr ⟨ok_X0_lossOf, List.forall_mem_cons.mpr ⟨ok_X1_init, List.forall_mem_cons.mpr ⟨ok_X1_clear, List.forall_mem_cons.mpr ⟨ok_X2_init, List.forall_mem_cons.mpr ⟨ok_X2_clear, List.forall_mem_cons.mpr ⟨ok_X2_keep, List.forall_mem_cons.mpr ⟨ok_X2_takeBack, List.forall_mem_cons.mpr ⟨ok_X2_paint, List.forall_mem_cons.mpr ⟨ok_X2_goBack, List.forall_mem_cons.mpr ⟨ok_X3_init, List.forall_mem_cons.mpr ⟨ok_X3_forget, List.forall_mem_cons.mpr ⟨ok_X3_put, List.forall_mem_cons.mpr ⟨ok_X4_init, List.forall_mem_cons.mpr ⟨ok_X4_run, List.forall_mem_cons.mpr ⟨ok_X4_callMen, List.forall_mem_cons.mpr ⟨ok_X4_cheapest, List.forall_mem_cons.mpr ⟨ok_X4_lost, List.forall_mem_cons.mpr ⟨ok_X5_init, List.forall_mem_cons.mpr ⟨ok_X5_begin, List.forall_mem_cons.mpr ⟨ok_X5_take, List.forall_mem_cons.mpr ⟨ok_X6_init, List.forall_mem_cons.mpr ⟨ok_X6_hasRoom, List.forall_mem_cons.mpr ⟨ok_X6_put, List.forall_mem_cons.mpr ⟨ok_X6_read, List.forall_mem_cons.mpr ⟨ok_X6_fail, List.forall_mem_cons.mpr ⟨ok_X6_step, List.forall_mem_cons.mpr ⟨ok_X6_isBetween, List.forall_mem_cons.mpr ⟨ok_X6_runEnd, fun _ h => absurd h List.not_mem_nil⟩⟩⟩⟩⟩⟩⟩⟩⟩⟩⟩⟩⟩⟩⟩⟩⟩⟩⟩⟩⟩⟩⟩⟩⟩⟩⟩⟩⟩⟩⟩⟩⟩⟩⟩⟩⟩⟩⟩⟩
theorem hd_ms0 : ∀ M ∈ mj_ms0, M ≠ m_L_law → mj_hd M := List.forall_mem_cons.mpr ⟨fun _ => hd_X0_init, List.forall_mem_cons.mpr ⟨fun _ => hd_X0_fill, List.forall_mem_cons.mpr ⟨fun _ => hd_X0_packed, List.forall_mem_cons.mpr ⟨fun _ => hd_X0_sent, List.forall_mem_cons.mpr ⟨fun _ => hd_X0_isTaken, List.forall_mem_cons.mpr ⟨fun _ => hd_X0_sender, List.forall_mem_cons.mpr ⟨fun _ => hd_X0_lost, List.forall_mem_cons.mpr ⟨fun _ => hd_X0_weightTaken, List.forall_mem_cons.mpr ⟨fun _ => hd_X0_weightGoing, List.forall_mem_cons.mpr ⟨fun _ => hd_X0_weightSent, List.forall_mem_cons.mpr ⟨fun _ => hd_X0_weightLosing, List.forall_mem_cons.mpr ⟨fun _ => hd_X0_weightUnfilled, List.forall_mem_cons.mpr ⟨fun _ => hd_X0_lossOf, List.forall_mem_cons.mpr ⟨fun _ => hd_X1_init, List.forall_mem_cons.mpr ⟨fun _ => hd_X1_clear, List.forall_mem_cons.mpr ⟨fun _ => hd_X2_init, List.forall_mem_cons.mpr ⟨fun _ => hd_X2_clear, List.forall_mem_cons.mpr ⟨fun _ => hd_X2_keep, List.forall_mem_cons.mpr ⟨fun _ => hd_X2_takeBack, List.forall_mem_cons.mpr ⟨fun _ => hd_X2_paint, List.forall_mem_cons.mpr ⟨fun _ => hd_X2_goBack, List.forall_mem_cons.mpr ⟨fun _ => hd_X3_init, List.forall_mem_cons.mpr ⟨fun _ => hd_X3_forget, List.forall_mem_cons.mpr ⟨fun _ => hd_X3_put, List.forall_mem_cons.mpr ⟨fun _ => hd_X4_init, List.forall_mem_cons.mpr ⟨fun _ => hd_X4_run, List.forall_mem_cons.mpr ⟨fun _ => hd_X4_callMen, List.forall_mem_cons.mpr ⟨fun _ => hd_X4_cheapest, List.forall_mem_cons.mpr ⟨fun _ => hd_X4_lost, List.forall_mem_cons.mpr ⟨fun _ => hd_X5_init, List.forall_mem_cons.mpr ⟨fun _ => hd_X5_begin, List.forall_mem_cons.mpr ⟨fun _ => hd_X5_take, List.forall_mem_cons.mpr ⟨fun _ => hd_X6_init, List.forall_mem_cons.mpr ⟨fun _ => hd_X6_hasRoom, List.forall_mem_cons.mpr ⟨fun _ => hd_X6_put, List.forall_mem_cons.mpr ⟨fun _ => hd_X6_read, List.forall_mem_cons.mpr ⟨fun _ => hd_X6_fail, List.forall_mem_cons.mpr ⟨fun _ => hd_X6_step, List.forall_mem_cons.mpr ⟨fun _ => hd_X6_isBetween, List.forall_mem_cons.mpr ⟨fun _ => hd_X6_runEnd, fun _ h => absurd h List.not_mem_nil⟩⟩⟩⟩⟩⟩⟩⟩⟩⟩⟩⟩⟩⟩⟩⟩⟩⟩⟩⟩⟩⟩⟩⟩⟩⟩⟩⟩⟩⟩⟩⟩⟩⟩⟩⟩⟩⟩⟩⟩
