theorem ok_X8_seed : mj_okM m_X8_seed = true := by decide +kernel
theorem hd_X8_seed : mj_hd m_X8_seed := ⟨List.mem_of_getElem? (i := 1091) (by decide +kernel), List.mem_of_getElem? (i := 104) (by decide +kernel), ⟨by decide +kernel, by decide +kernel⟩, by decide +kernel, by decide +kernel⟩
theorem ok_X8_undo : mj_okM m_X8_undo = true := by decide +kernel
theorem hd_X8_undo : mj_hd m_X8_undo := ⟨List.mem_of_getElem? (i := 1095) (by decide +kernel), List.mem_of_getElem? (i := 104) (by decide +kernel), ⟨by decide +kernel, by decide +kernel⟩, by decide +kernel, by decide +kernel⟩
theorem ok_X8_image : mj_okM m_X8_image = true := by decide +kernel
theorem hd_X8_image : mj_hd m_X8_image := ⟨List.mem_of_getElem? (i := 1103) (by decide +kernel), List.mem_of_getElem? (i := 104) (by decide +kernel), ⟨by decide +kernel, by decide +kernel⟩, by decide +kernel, by decide +kernel⟩
theorem ok_X8_back : mj_okM m_X8_back = true := by decide +kernel
theorem hd_X8_back : mj_hd m_X8_back := ⟨List.mem_of_getElem? (i := 1111) (by decide +kernel), List.mem_of_getElem? (i := 104) (by decide +kernel), ⟨by decide +kernel, by decide +kernel⟩, by decide +kernel, by decide +kernel⟩
theorem ok_X8_led : mj_okM m_X8_led = true := by decide +kernel
theorem hd_X8_led : mj_hd m_X8_led := ⟨List.mem_of_getElem? (i := 1135) (by decide +kernel), List.mem_of_getElem? (i := 104) (by decide +kernel), ⟨by decide +kernel, by decide +kernel⟩, by decide +kernel, by decide +kernel⟩
theorem ok_X8_size : mj_okM m_X8_size = true := by decide +kernel
theorem hd_X8_size : mj_hd m_X8_size := ⟨List.mem_of_getElem? (i := 1119) (by decide +kernel), List.mem_of_getElem? (i := 104) (by decide +kernel), ⟨by decide +kernel, by decide +kernel⟩, by decide +kernel, by decide +kernel⟩
theorem ok_X8_sizeOfDraft : mj_okM m_X8_sizeOfDraft = true := by decide +kernel
theorem hd_X8_sizeOfDraft : mj_hd m_X8_sizeOfDraft := ⟨List.mem_of_getElem? (i := 1123) (by decide +kernel), List.mem_of_getElem? (i := 104) (by decide +kernel), ⟨by decide +kernel, by decide +kernel⟩, by decide +kernel, by decide +kernel⟩
theorem ok_X8_trouble : mj_okM m_X8_trouble = true := by decide +kernel
theorem hd_X8_trouble : mj_hd m_X8_trouble := ⟨List.mem_of_getElem? (i := 1127) (by decide +kernel), List.mem_of_getElem? (i := 104) (by decide +kernel), ⟨by decide +kernel, by decide +kernel⟩, by decide +kernel, by decide +kernel⟩
theorem ok_X8_refuse : mj_okM m_X8_refuse = true := by decide +kernel
theorem hd_X8_refuse : mj_hd m_X8_refuse := ⟨List.mem_of_getElem? (i := 503) (by decide +kernel), List.mem_of_getElem? (i := 104) (by decide +kernel), ⟨by decide +kernel, by decide +kernel⟩, by decide +kernel, by decide +kernel⟩
theorem ok_X8_answer : mj_okM m_X8_answer = true := by decide +kernel
theorem hd_X8_answer : mj_hd m_X8_answer := ⟨List.mem_of_getElem? (i := 674) (by decide +kernel), List.mem_of_getElem? (i := 104) (by decide +kernel), ⟨by decide +kernel, by decide +kernel⟩, by decide +kernel, by decide +kernel⟩
theorem ok_X8_deny : mj_okM m_X8_deny = true := by decide +kernel
theorem hd_X8_deny : mj_hd m_X8_deny := ⟨List.mem_of_getElem? (i := 1053) (by decide +kernel), List.mem_of_getElem? (i := 104) (by decide +kernel), ⟨by decide +kernel, by decide +kernel⟩, by decide +kernel, by decide +kernel⟩
theorem ok_X8_grant : mj_okM m_X8_grant = true := by decide +kernel
theorem hd_X8_grant : mj_hd m_X8_grant := ⟨List.mem_of_getElem? (i := 1063) (by decide +kernel), List.mem_of_getElem? (i := 104) (by decide +kernel), ⟨by decide +kernel, by decide +kernel⟩, by decide +kernel, by decide +kernel⟩
theorem ok_X8_isMan : mj_okM m_X8_isMan = true := by decide +kernel
theorem hd_X8_isMan : mj_hd m_X8_isMan := ⟨List.mem_of_getElem? (i := 690) (by decide +kernel), List.mem_of_getElem? (i := 104) (by decide +kernel), ⟨by decide +kernel, by decide +kernel⟩, by decide +kernel, by decide +kernel⟩
theorem ok_X8_isClub : mj_okM m_X8_isClub = true := by decide +kernel
theorem hd_X8_isClub : mj_hd m_X8_isClub := ⟨List.mem_of_getElem? (i := 853) (by decide +kernel), List.mem_of_getElem? (i := 104) (by decide +kernel), ⟨by decide +kernel, by decide +kernel⟩, by decide +kernel, by decide +kernel⟩
theorem ok_X8_isTold : mj_okM m_X8_isTold = true := by decide +kernel
theorem hd_X8_isTold : mj_hd m_X8_isTold := ⟨List.mem_of_getElem? (i := 947) (by decide +kernel), List.mem_of_getElem? (i := 104) (by decide +kernel), ⟨by decide +kernel, by decide +kernel⟩, by decide +kernel, by decide +kernel⟩
theorem ok_X8_allMen : mj_okM m_X8_allMen = true := by decide +kernel
theorem hd_X8_allMen : mj_hd m_X8_allMen := ⟨List.mem_of_getElem? (i := 857) (by decide +kernel), List.mem_of_getElem? (i := 104) (by decide +kernel), ⟨by decide +kernel, by decide +kernel⟩, by decide +kernel, by decide +kernel⟩
theorem ok_X8_isSort : mj_okM m_X8_isSort = true := by decide +kernel
theorem hd_X8_isSort : mj_hd m_X8_isSort := ⟨List.mem_of_getElem? (i := 701) (by decide +kernel), List.mem_of_getElem? (i := 104) (by decide +kernel), ⟨by decide +kernel, by decide +kernel⟩, by decide +kernel, by decide +kernel⟩
theorem ok_X8_isLaw : mj_okM m_X8_isLaw = true := by decide +kernel
theorem hd_X8_isLaw : mj_hd m_X8_isLaw := ⟨List.mem_of_getElem? (i := 899) (by decide +kernel), List.mem_of_getElem? (i := 104) (by decide +kernel), ⟨by decide +kernel, by decide +kernel⟩, by decide +kernel, by decide +kernel⟩
theorem ok_X8_isBuyers : mj_okM m_X8_isBuyers = true := by decide +kernel
theorem hd_X8_isBuyers : mj_hd m_X8_isBuyers := ⟨List.mem_of_getElem? (i := 999) (by decide +kernel), List.mem_of_getElem? (i := 104) (by decide +kernel), ⟨by decide +kernel, by decide +kernel⟩, by decide +kernel, by decide +kernel⟩
theorem ok_X8_isSeed : mj_okM m_X8_isSeed = true := by decide +kernel
theorem hd_X8_isSeed : mj_hd m_X8_isSeed := ⟨List.mem_of_getElem? (i := 1028) (by decide +kernel), List.mem_of_getElem? (i := 104) (by decide +kernel), ⟨by decide +kernel, by decide +kernel⟩, by decide +kernel, by decide +kernel⟩
theorem ok_X8_isDrafts : mj_okM m_X8_isDrafts = true := by decide +kernel
theorem hd_X8_isDrafts : mj_hd m_X8_isDrafts := ⟨List.mem_of_getElem? (i := 1032) (by decide +kernel), List.mem_of_getElem? (i := 104) (by decide +kernel), ⟨by decide +kernel, by decide +kernel⟩, by decide +kernel, by decide +kernel⟩
theorem ok_X8_changed : mj_okM m_X8_changed = true := by decide +kernel
theorem hd_X8_changed : mj_hd m_X8_changed := ⟨List.mem_of_getElem? (i := 666) (by decide +kernel), List.mem_of_getElem? (i := 104) (by decide +kernel), ⟨by decide +kernel, by decide +kernel⟩, by decide +kernel, by decide +kernel⟩
theorem ok_X8_table : mj_okM m_X8_table = true := by decide +kernel
theorem hd_X8_table : mj_hd m_X8_table := ⟨List.mem_of_getElem? (i := 777) (by decide +kernel), List.mem_of_getElem? (i := 104) (by decide +kernel), ⟨by decide +kernel, by decide +kernel⟩, by decide +kernel, by decide +kernel⟩
theorem ok_X8_odds : mj_okM m_X8_odds = true := by decide +kernel
theorem hd_X8_odds : mj_hd m_X8_odds := ⟨List.mem_of_getElem? (i := 801) (by decide +kernel), List.mem_of_getElem? (i := 104) (by decide +kernel), ⟨by decide +kernel, by decide +kernel⟩, by decide +kernel, by decide +kernel⟩
theorem ok_X8_part : mj_okM m_X8_part = true := by decide +kernel
theorem hd_X8_part : mj_hd m_X8_part := ⟨List.mem_of_getElem? (i := 806) (by decide +kernel), List.mem_of_getElem? (i := 104) (by decide +kernel), ⟨by decide +kernel, by decide +kernel⟩, by decide +kernel, by decide +kernel⟩
theorem ok_X8_commonDivisor : mj_okM m_X8_commonDivisor = true := by decide +kernel
theorem hd_X8_commonDivisor : mj_hd m_X8_commonDivisor := ⟨List.mem_of_getElem? (i := 809) (by decide +kernel), List.mem_of_getElem? (i := 104) (by decide +kernel), ⟨by decide +kernel, by decide +kernel⟩, by decide +kernel, by decide +kernel⟩
theorem ok_X8_goers : mj_okM m_X8_goers = true := by decide +kernel
theorem hd_X8_goers : mj_hd m_X8_goers := ⟨List.mem_of_getElem? (i := 738) (by decide +kernel), List.mem_of_getElem? (i := 104) (by decide +kernel), ⟨by decide +kernel, by decide +kernel⟩, by decide +kernel, by decide +kernel⟩
theorem ok_X8_byNumbers : mj_okM m_X8_byNumbers = true := by decide +kernel
theorem hd_X8_byNumbers : mj_hd m_X8_byNumbers := ⟨List.mem_of_getElem? (i := 757) (by decide +kernel), List.mem_of_getElem? (i := 104) (by decide +kernel), ⟨by decide +kernel, by decide +kernel⟩, by decide +kernel, by decide +kernel⟩
theorem ok_X8_numberOf : mj_okM m_X8_numberOf = true := by decide +kernel
theorem hd_X8_numberOf : mj_hd m_X8_numberOf := ⟨List.mem_of_getElem? (i := 760) (by decide +kernel), List.mem_of_getElem? (i := 104) (by decide +kernel), ⟨by decide +kernel, by decide +kernel⟩, by decide +kernel, by decide +kernel⟩
theorem ok_X8_swap : mj_okM m_X8_swap = true := by decide +kernel
theorem hd_X8_swap : mj_hd m_X8_swap := ⟨List.mem_of_getElem? (i := 769) (by decide +kernel), List.mem_of_getElem? (i := 104) (by decide +kernel), ⟨by decide +kernel, by decide +kernel⟩, by decide +kernel, by decide +kernel⟩
theorem ok_X8_turn : mj_okM m_X8_turn = true := by decide +kernel
theorem hd_X8_turn : mj_hd m_X8_turn := ⟨List.mem_of_getElem? (i := 766) (by decide +kernel), List.mem_of_getElem? (i := 104) (by decide +kernel), ⟨by decide +kernel, by decide +kernel⟩, by decide +kernel, by decide +kernel⟩
theorem ok_X8_nextRow : mj_okM m_X8_nextRow = true := by decide +kernel
theorem hd_X8_nextRow : mj_hd m_X8_nextRow := ⟨List.mem_of_getElem? (i := 763) (by decide +kernel), List.mem_of_getElem? (i := 104) (by decide +kernel), ⟨by decide +kernel, by decide +kernel⟩, by decide +kernel, by decide +kernel⟩
theorem ok_X9_init : mj_okM m_X9_init = true := by decide +kernel
theorem hd_X9_init : mj_hd m_X9_init := ⟨List.mem_of_getElem? (i := 1342) (by decide +kernel), List.mem_of_getElem? (i := 119) (by decide +kernel), ⟨by decide +kernel, by decide +kernel⟩, by decide +kernel, by decide +kernel⟩
theorem ok_X9_find : mj_okM m_X9_find = true := by decide +kernel
theorem hd_X9_find : mj_hd m_X9_find := ⟨List.mem_of_getElem? (i := 1478) (by decide +kernel), List.mem_of_getElem? (i := 119) (by decide +kernel), ⟨by decide +kernel, by decide +kernel⟩, by decide +kernel, by decide +kernel⟩
theorem ok_X9_hasGone : mj_okM m_X9_hasGone = true := by decide +kernel
theorem hd_X9_hasGone : mj_hd m_X9_hasGone := ⟨List.mem_of_getElem? (i := 1519) (by decide +kernel), List.mem_of_getElem? (i := 119) (by decide +kernel), ⟨by decide +kernel, by decide +kernel⟩, by decide +kernel, by decide +kernel⟩
theorem ok_X10_init : mj_okM m_X10_init = true := by decide +kernel
theorem hd_X10_init : mj_hd m_X10_init := ⟨List.mem_of_getElem? (i := 1205) (by decide +kernel), List.mem_of_getElem? (i := 113) (by decide +kernel), ⟨by decide +kernel, by decide +kernel⟩, by decide +kernel, by decide +kernel⟩
theorem ok_X10_thrown : mj_okM m_X10_thrown = true := by decide +kernel
theorem hd_X10_thrown : mj_hd m_X10_thrown := ⟨List.mem_of_getElem? (i := 1325) (by decide +kernel), List.mem_of_getElem? (i := 113) (by decide +kernel), ⟨by decide +kernel, by decide +kernel⟩, by decide +kernel, by decide +kernel⟩
theorem ok_X10_refused : mj_okM m_X10_refused = true := by decide +kernel
theorem hd_X10_refused : mj_hd m_X10_refused := ⟨List.mem_of_getElem? (i := 1337) (by decide +kernel), List.mem_of_getElem? (i := 113) (by decide +kernel), ⟨by decide +kernel, by decide +kernel⟩, by decide +kernel, by decide +kernel⟩
theorem ok_X10_lost : mj_okM m_X10_lost = true := by decide +kernel
theorem hd_X10_lost : mj_hd m_X10_lost := ⟨List.mem_of_getElem? (i := 1786) (by decide +kernel), List.mem_of_getElem? (i := 113) (by decide +kernel), ⟨by decide +kernel, by decide +kernel⟩, by decide +kernel, by decide +kernel⟩
theorem ok_X10_denied : mj_okM m_X10_denied = true := by decide +kernel
theorem hd_X10_denied : mj_hd m_X10_denied := ⟨List.mem_of_getElem? (i := 1835) (by decide +kernel), List.mem_of_getElem? (i := 113) (by decide +kernel), ⟨by decide +kernel, by decide +kernel⟩, by decide +kernel, by decide +kernel⟩
theorem ok_ms3 : ∀ M ∈ mj_ms3, mj_okM M = true := List.forall_mem_cons.mpr ⟨ok_X8_seed, List.forall_mem_cons.mpr ⟨ok_X8_undo, List.forall_mem_cons.mpr ⟨ok_X8_image, List.forall_mem_cons.mpr ⟨ok_X8_back, List.forall_mem_cons.mpr ⟨ok_X8_led, List.forall_mem_cons.mpr ⟨ok_X8_size, List.forall_mem_cons.mpr ⟨ok_X8_sizeOfDraft, List.forall_mem_cons.mpr ⟨ok_X8_trouble, List.forall_mem_cons.mpr ⟨ok_X8_refuse, List.forall_mem_cons.mpr ⟨ok_X8_answer, List.forall_mem_cons.mpr ⟨ok_X8_deny, List.forall_mem_cons.mpr ⟨ok_X8_grant, List.forall_mem_cons.mpr ⟨ok_X8_isMan, List.forall_mem_cons.mpr ⟨ok_X8_isClub, List.forall_mem_cons.mpr ⟨ok_X8_isTold, List.forall_mem_cons.mpr ⟨ok_X8_allMen, List.forall_mem_cons.mpr ⟨ok_X8_isSort, List.forall_mem_cons.mpr ⟨ok_X8_isLaw, List.forall_mem_cons.mpr ⟨ok_X8_isBuyers, List.forall_mem_cons.mpr ⟨ok_X8_isSeed, List.forall_mem_cons.mpr ⟨ok_X8_isDrafts, List.forall_mem_cons.mpr ⟨ok_X8_changed, List.forall_mem_cons.mpr ⟨ok_X8_table, List.forall_mem_cons.mpr ⟨ok_X8_odds, List.forall_mem_cons.mpr ⟨ok_X8_part, List.forall_mem_cons.mpr ⟨ok_X8_commonDivisor, List.forall_mem_cons.mpr ⟨ok_X8_goers, List.forall_mem_cons.mpr ⟨ok_X8_byNumbers, List.forall_mem_cons.mpr ⟨ok_X8_numberOf, List.forall_mem_cons.mpr ⟨ok_X8_swap, List.forall_mem_cons.mpr ⟨ok_X8_turn, List.forall_mem_cons.mpr ⟨ok_X8_nextRow, List.forall_mem_cons.mpr ⟨ok_X9_init, List.forall_mem_cons.mpr ⟨ok_X9_find, List.forall_mem_cons.mpr ⟨ok_X9_hasGone, List.forall_mem_cons.mpr ⟨ok_X10_init, List.forall_mem_cons.mpr ⟨ok_X10_thrown, List.forall_mem_cons.mpr ⟨ok_X10_refused, List.forall_mem_cons.mpr ⟨ok_X10_lost, List.forall_mem_cons.mpr ⟨ok_X10_denied, fun _ h => absurd h List.not_mem_nil⟩⟩⟩⟩⟩⟩⟩⟩⟩⟩⟩⟩⟩⟩⟩⟩⟩⟩⟩⟩⟩⟩⟩⟩⟩⟩⟩⟩⟩⟩⟩⟩⟩⟩⟩⟩⟩⟩⟩⟩
theorem hd_ms3 : ∀ M ∈ mj_ms3, M ≠ m_L_law → mj_hd M := List.forall_mem_cons.mpr ⟨fun _ => hd_X8_seed, List.forall_mem_cons.mpr ⟨fun _ => hd_X8_undo, List.forall_mem_cons.mpr ⟨fun _ => hd_X8_image, List.forall_mem_cons.mpr ⟨fun _ => hd_X8_back, List.forall_mem_cons.mpr ⟨fun _ => hd_X8_led, List.forall_mem_cons.mpr ⟨fun _ => hd_X8_size, List.forall_mem_cons.mpr ⟨fun _ => hd_X8_sizeOfDraft, List.forall_mem_cons.mpr ⟨fun _ => hd_X8_trouble, List.forall_mem_cons.mpr ⟨fun _ => hd_X8_refuse, List.forall_mem_cons.mpr ⟨fun _ => hd_X8_answer, List.forall_mem_cons.mpr ⟨fun _ => hd_X8_deny, List.forall_mem_cons.mpr ⟨fun _ => hd_X8_grant, List.forall_mem_cons.mpr ⟨fun _ => hd_X8_isMan, List.forall_mem_cons.mpr ⟨fun _ => hd_X8_isClub, List.forall_mem_cons.mpr ⟨fun _ => hd_X8_isTold, List.forall_mem_cons.mpr ⟨fun _ => hd_X8_allMen, List.forall_mem_cons.mpr ⟨fun _ => hd_X8_isSort, List.forall_mem_cons.mpr ⟨fun _ => hd_X8_isLaw, List.forall_mem_cons.mpr ⟨fun _ => hd_X8_isBuyers, List.forall_mem_cons.mpr ⟨fun _ => hd_X8_isSeed, List.forall_mem_cons.mpr ⟨fun _ => hd_X8_isDrafts, List.forall_mem_cons.mpr ⟨fun _ => hd_X8_changed, List.forall_mem_cons.mpr ⟨fun _ => hd_X8_table, List.forall_mem_cons.mpr ⟨fun _ => hd_X8_odds, List.forall_mem_cons.mpr ⟨fun _ => hd_X8_part, List.forall_mem_cons.mpr ⟨fun _ => hd_X8_commonDivisor, List.forall_mem_cons.mpr ⟨fun _ => hd_X8_goers, List.forall_mem_cons.mpr ⟨fun _ => hd_X8_byNumbers, List.forall_mem_cons.mpr ⟨fun _ => hd_X8_numberOf, List.forall_mem_cons.mpr ⟨fun _ => hd_X8_swap, List.forall_mem_cons.mpr ⟨fun _ => hd_X8_turn, List.forall_mem_cons.mpr ⟨fun _ => hd_X8_nextRow, List.forall_mem_cons.mpr ⟨fun _ => hd_X9_init, List.forall_mem_cons.mpr ⟨fun _ => hd_X9_find, List.forall_mem_cons.mpr ⟨fun _ => hd_X9_hasGone, List.forall_mem_cons.mpr ⟨fun _ => hd_X10_init, List.forall_mem_cons.mpr ⟨fun _ => hd_X10_thrown, List.forall_mem_cons.mpr ⟨fun _ => hd_X10_refused, List.forall_mem_cons.mpr ⟨fun _ => hd_X10_lost, List.forall_mem_cons.mpr ⟨fun _ => hd_X10_denied, fun _ h => absurd h List.not_mem_nil⟩⟩⟩⟩⟩⟩⟩⟩⟩⟩⟩⟩⟩⟩⟩⟩⟩⟩⟩⟩⟩⟩⟩⟩⟩⟩⟩⟩⟩⟩⟩⟩⟩⟩⟩⟩⟩⟩⟩⟩
