theorem ok_X6_readLine : mj_okM m_X6_readLine = true := by decide +kernel
theorem hd_X6_readLine : mj_hd m_X6_readLine := ⟨List.mem_of_getElem? (i := 529) (by decide +kernel), List.mem_of_getElem? (i := 105) (by decide +kernel), ⟨by decide +kernel, by decide +kernel⟩, by decide +kernel, by decide +kernel⟩
theorem ok_X6_lineKind : mj_okM m_X6_lineKind = true := by decide +kernel
theorem hd_X6_lineKind : mj_hd m_X6_lineKind := ⟨List.mem_of_getElem? (i := 533) (by decide +kernel), List.mem_of_getElem? (i := 105) (by decide +kernel), ⟨by decide +kernel, by decide +kernel⟩, by decide +kernel, by decide +kernel⟩
theorem ok_X6_readTakes : mj_okM m_X6_readTakes = true := by decide +kernel
theorem hd_X6_readTakes : mj_hd m_X6_readTakes := ⟨List.mem_of_getElem? (i := 599) (by decide +kernel), List.mem_of_getElem? (i := 105) (by decide +kernel), ⟨by decide +kernel, by decide +kernel⟩, by decide +kernel, by decide +kernel⟩
theorem ok_X6_readMan : mj_okM m_X6_readMan = true := by decide +kernel
theorem hd_X6_readMan : mj_hd m_X6_readMan := ⟨List.mem_of_getElem? (i := 612) (by decide +kernel), List.mem_of_getElem? (i := 105) (by decide +kernel), ⟨by decide +kernel, by decide +kernel⟩, by decide +kernel, by decide +kernel⟩
theorem ok_X6_readKin : mj_okM m_X6_readKin = true := by decide +kernel
theorem hd_X6_readKin : mj_hd m_X6_readKin := ⟨List.mem_of_getElem? (i := 635) (by decide +kernel), List.mem_of_getElem? (i := 105) (by decide +kernel), ⟨by decide +kernel, by decide +kernel⟩, by decide +kernel, by decide +kernel⟩
theorem ok_X6_readSpares : mj_okM m_X6_readSpares = true := by decide +kernel
theorem hd_X6_readSpares : mj_hd m_X6_readSpares := ⟨List.mem_of_getElem? (i := 643) (by decide +kernel), List.mem_of_getElem? (i := 105) (by decide +kernel), ⟨by decide +kernel, by decide +kernel⟩, by decide +kernel, by decide +kernel⟩
theorem ok_X6_readDoctor : mj_okM m_X6_readDoctor = true := by decide +kernel
theorem hd_X6_readDoctor : mj_hd m_X6_readDoctor := ⟨List.mem_of_getElem? (i := 647) (by decide +kernel), List.mem_of_getElem? (i := 105) (by decide +kernel), ⟨by decide +kernel, by decide +kernel⟩, by decide +kernel, by decide +kernel⟩
theorem ok_X6_readWent : mj_okM m_X6_readWent = true := by decide +kernel
theorem hd_X6_readWent : mj_hd m_X6_readWent := ⟨List.mem_of_getElem? (i := 654) (by decide +kernel), List.mem_of_getElem? (i := 105) (by decide +kernel), ⟨by decide +kernel, by decide +kernel⟩, by decide +kernel, by decide +kernel⟩
theorem ok_X6_isWord : mj_okM m_X6_isWord = true := by decide +kernel
theorem hd_X6_isWord : mj_hd m_X6_isWord := ⟨List.mem_of_getElem? (i := 538) (by decide +kernel), List.mem_of_getElem? (i := 105) (by decide +kernel), ⟨by decide +kernel, by decide +kernel⟩, by decide +kernel, by decide +kernel⟩
theorem ok_X6_passWord : mj_okM m_X6_passWord = true := by decide +kernel
theorem hd_X6_passWord : mj_hd m_X6_passWord := ⟨List.mem_of_getElem? (i := 604) (by decide +kernel), List.mem_of_getElem? (i := 105) (by decide +kernel), ⟨by decide +kernel, by decide +kernel⟩, by decide +kernel, by decide +kernel⟩
theorem ok_X6_passWhole : mj_okM m_X6_passWhole = true := by decide +kernel
theorem hd_X6_passWhole : mj_hd m_X6_passWhole := ⟨List.mem_of_getElem? (i := 608) (by decide +kernel), List.mem_of_getElem? (i := 105) (by decide +kernel), ⟨by decide +kernel, by decide +kernel⟩, by decide +kernel, by decide +kernel⟩
theorem ok_X6_isToldMan : mj_okM m_X6_isToldMan = true := by decide +kernel
theorem hd_X6_isToldMan : mj_hd m_X6_isToldMan := ⟨List.mem_of_getElem? (i := 639) (by decide +kernel), List.mem_of_getElem? (i := 105) (by decide +kernel), ⟨by decide +kernel, by decide +kernel⟩, by decide +kernel, by decide +kernel⟩
theorem ok_X6_namedMan : mj_okM m_X6_namedMan = true := by decide +kernel
theorem hd_X6_namedMan : mj_hd m_X6_namedMan := ⟨List.mem_of_getElem? (i := 616) (by decide +kernel), List.mem_of_getElem? (i := 105) (by decide +kernel), ⟨by decide +kernel, by decide +kernel⟩, by decide +kernel, by decide +kernel⟩
theorem ok_X6_isNamed : mj_okM m_X6_isNamed = true := by decide +kernel
theorem hd_X6_isNamed : mj_hd m_X6_isNamed := ⟨List.mem_of_getElem? (i := 620) (by decide +kernel), List.mem_of_getElem? (i := 105) (by decide +kernel), ⟨by decide +kernel, by decide +kernel⟩, by decide +kernel, by decide +kernel⟩
theorem ok_X6_namedSort : mj_okM m_X6_namedSort = true := by decide +kernel
theorem hd_X6_namedSort : mj_hd m_X6_namedSort := ⟨List.mem_of_getElem? (i := 624) (by decide +kernel), List.mem_of_getElem? (i := 105) (by decide +kernel), ⟨by decide +kernel, by decide +kernel⟩, by decide +kernel, by decide +kernel⟩
theorem ok_X7_init : mj_okM m_X7_init = true := by decide +kernel
theorem hd_X7_init : mj_hd m_X7_init := ⟨List.mem_of_getElem? (i := 422) (by decide +kernel), List.mem_of_getElem? (i := 112) (by decide +kernel), ⟨by decide +kernel, by decide +kernel⟩, by decide +kernel, by decide +kernel⟩
theorem ok_X7_look : mj_okM m_X7_look = true := by decide +kernel
theorem hd_X7_look : mj_hd m_X7_look := ⟨List.mem_of_getElem? (i := 931) (by decide +kernel), List.mem_of_getElem? (i := 112) (by decide +kernel), ⟨by decide +kernel, by decide +kernel⟩, by decide +kernel, by decide +kernel⟩
theorem ok_X7_clear : mj_okM m_X7_clear = true := by decide +kernel
theorem hd_X7_clear : mj_hd m_X7_clear := ⟨List.mem_of_getElem? (i := 935) (by decide +kernel), List.mem_of_getElem? (i := 112) (by decide +kernel), ⟨by decide +kernel, by decide +kernel⟩, by decide +kernel, by decide +kernel⟩
theorem ok_X7_fits : mj_okM m_X7_fits = true := by decide +kernel
theorem hd_X7_fits : mj_hd m_X7_fits := ⟨List.mem_of_getElem? (i := 938) (by decide +kernel), List.mem_of_getElem? (i := 112) (by decide +kernel), ⟨by decide +kernel, by decide +kernel⟩, by decide +kernel, by decide +kernel⟩
theorem ok_X7_couldBe : mj_okM m_X7_couldBe = true := by decide +kernel
theorem hd_X7_couldBe : mj_hd m_X7_couldBe := ⟨List.mem_of_getElem? (i := 951) (by decide +kernel), List.mem_of_getElem? (i := 112) (by decide +kernel), ⟨by decide +kernel, by decide +kernel⟩, by decide +kernel, by decide +kernel⟩
theorem ok_X7_mustBe : mj_okM m_X7_mustBe = true := by decide +kernel
theorem hd_X7_mustBe : mj_hd m_X7_mustBe := ⟨List.mem_of_getElem? (i := 959) (by decide +kernel), List.mem_of_getElem? (i := 112) (by decide +kernel), ⟨by decide +kernel, by decide +kernel⟩, by decide +kernel, by decide +kernel⟩
theorem ok_X7_mostLeft : mj_okM m_X7_mostLeft = true := by decide +kernel
theorem hd_X7_mostLeft : mj_hd m_X7_mostLeft := ⟨List.mem_of_getElem? (i := 971) (by decide +kernel), List.mem_of_getElem? (i := 112) (by decide +kernel), ⟨by decide +kernel, by decide +kernel⟩, by decide +kernel, by decide +kernel⟩
theorem ok_X7_best : mj_okM m_X7_best = true := by decide +kernel
theorem hd_X7_best : mj_hd m_X7_best := ⟨List.mem_of_getElem? (i := 967) (by decide +kernel), List.mem_of_getElem? (i := 112) (by decide +kernel), ⟨by decide +kernel, by decide +kernel⟩, by decide +kernel, by decide +kernel⟩
theorem ok_X8_init : mj_okM m_X8_init = true := by decide +kernel
theorem hd_X8_init : mj_hd m_X8_init := ⟨List.mem_of_getElem? (i := 129) (by decide +kernel), List.mem_of_getElem? (i := 104) (by decide +kernel), ⟨by decide +kernel, by decide +kernel⟩, by decide +kernel, by decide +kernel⟩
theorem ok_X8_feed : mj_okM m_X8_feed = true := by decide +kernel
theorem hd_X8_feed : mj_hd m_X8_feed := ⟨List.mem_of_getElem? (i := 487) (by decide +kernel), List.mem_of_getElem? (i := 104) (by decide +kernel), ⟨by decide +kernel, by decide +kernel⟩, by decide +kernel, by decide +kernel⟩
theorem ok_X8_draft : mj_okM m_X8_draft = true := by decide +kernel
theorem hd_X8_draft : mj_hd m_X8_draft := ⟨List.mem_of_getElem? (i := 499) (by decide +kernel), List.mem_of_getElem? (i := 104) (by decide +kernel), ⟨by decide +kernel, by decide +kernel⟩, by decide +kernel, by decide +kernel⟩
theorem ok_X8_fault : mj_okM m_X8_fault = true := by decide +kernel
theorem hd_X8_fault : mj_hd m_X8_fault := ⟨List.mem_of_getElem? (i := 678) (by decide +kernel), List.mem_of_getElem? (i := 104) (by decide +kernel), ⟨by decide +kernel, by decide +kernel⟩, by decide +kernel, by decide +kernel⟩
theorem ok_X8_where : mj_okM m_X8_where = true := by decide +kernel
theorem hd_X8_where : mj_hd m_X8_where := ⟨List.mem_of_getElem? (i := 682) (by decide +kernel), List.mem_of_getElem? (i := 104) (by decide +kernel), ⟨by decide +kernel, by decide +kernel⟩, by decide +kernel, by decide +kernel⟩
theorem ok_X8_man : mj_okM m_X8_man = true := by decide +kernel
theorem hd_X8_man : mj_hd m_X8_man := ⟨List.mem_of_getElem? (i := 686) (by decide +kernel), List.mem_of_getElem? (i := 104) (by decide +kernel), ⟨by decide +kernel, by decide +kernel⟩, by decide +kernel, by decide +kernel⟩
theorem ok_X8_spared : mj_okM m_X8_spared = true := by decide +kernel
theorem hd_X8_spared : mj_hd m_X8_spared := ⟨List.mem_of_getElem? (i := 694) (by decide +kernel), List.mem_of_getElem? (i := 104) (by decide +kernel), ⟨by decide +kernel, by decide +kernel⟩, by decide +kernel, by decide +kernel⟩
theorem ok_X8_many : mj_okM m_X8_many = true := by decide +kernel
theorem hd_X8_many : mj_hd m_X8_many := ⟨List.mem_of_getElem? (i := 698) (by decide +kernel), List.mem_of_getElem? (i := 104) (by decide +kernel), ⟨by decide +kernel, by decide +kernel⟩, by decide +kernel, by decide +kernel⟩
theorem ok_X8_wouldGo : mj_okM m_X8_wouldGo = true := by decide +kernel
theorem hd_X8_wouldGo : mj_hd m_X8_wouldGo := ⟨List.mem_of_getElem? (i := 705) (by decide +kernel), List.mem_of_getElem? (i := 104) (by decide +kernel), ⟨by decide +kernel, by decide +kernel⟩, by decide +kernel, by decide +kernel⟩
theorem ok_X8_takenBy : mj_okM m_X8_takenBy = true := by decide +kernel
theorem hd_X8_takenBy : mj_hd m_X8_takenBy := ⟨List.mem_of_getElem? (i := 714) (by decide +kernel), List.mem_of_getElem? (i := 104) (by decide +kernel), ⟨by decide +kernel, by decide +kernel⟩, by decide +kernel, by decide +kernel⟩
theorem ok_X8_goesBy : mj_okM m_X8_goesBy = true := by decide +kernel
theorem hd_X8_goesBy : mj_hd m_X8_goesBy := ⟨List.mem_of_getElem? (i := 735) (by decide +kernel), List.mem_of_getElem? (i := 104) (by decide +kernel), ⟨by decide +kernel, by decide +kernel⟩, by decide +kernel, by decide +kernel⟩
theorem ok_X8_sendsBy : mj_okM m_X8_sendsBy = true := by decide +kernel
theorem hd_X8_sendsBy : mj_hd m_X8_sendsBy := ⟨List.mem_of_getElem? (i := 742) (by decide +kernel), List.mem_of_getElem? (i := 104) (by decide +kernel), ⟨by decide +kernel, by decide +kernel⟩, by decide +kernel, by decide +kernel⟩
theorem ok_X8_lossBy : mj_okM m_X8_lossBy = true := by decide +kernel
theorem hd_X8_lossBy : mj_hd m_X8_lossBy := ⟨List.mem_of_getElem? (i := 746) (by decide +kernel), List.mem_of_getElem? (i := 104) (by decide +kernel), ⟨by decide +kernel, by decide +kernel⟩, by decide +kernel, by decide +kernel⟩
theorem ok_X8_firstTaken : mj_okM m_X8_firstTaken = true := by decide +kernel
theorem hd_X8_firstTaken : mj_hd m_X8_firstTaken := ⟨List.mem_of_getElem? (i := 754) (by decide +kernel), List.mem_of_getElem? (i := 104) (by decide +kernel), ⟨by decide +kernel, by decide +kernel⟩, by decide +kernel, by decide +kernel⟩
theorem ok_X8_levyBy : mj_okM m_X8_levyBy = true := by decide +kernel
theorem hd_X8_levyBy : mj_hd m_X8_levyBy := ⟨List.mem_of_getElem? (i := 718) (by decide +kernel), List.mem_of_getElem? (i := 104) (by decide +kernel), ⟨by decide +kernel, by decide +kernel⟩, by decide +kernel, by decide +kernel⟩
theorem ok_X8_readRow : mj_okM m_X8_readRow = true := by decide +kernel
theorem hd_X8_readRow : mj_hd m_X8_readRow := ⟨List.mem_of_getElem? (i := 722) (by decide +kernel), List.mem_of_getElem? (i := 104) (by decide +kernel), ⟨by decide +kernel, by decide +kernel⟩, by decide +kernel, by decide +kernel⟩
theorem ok_X8_taken : mj_okM m_X8_taken = true := by decide +kernel
theorem hd_X8_taken : mj_hd m_X8_taken := ⟨List.mem_of_getElem? (i := 773) (by decide +kernel), List.mem_of_getElem? (i := 104) (by decide +kernel), ⟨by decide +kernel, by decide +kernel⟩, by decide +kernel, by decide +kernel⟩
theorem ok_ms1 : ∀ M ∈ mj_ms1, mj_okM M = true := List.forall_mem_cons.mpr ⟨ok_X6_readLine, List.forall_mem_cons.mpr ⟨ok_X6_lineKind, List.forall_mem_cons.mpr ⟨ok_X6_readTakes, List.forall_mem_cons.mpr ⟨ok_X6_readMan, List.forall_mem_cons.mpr ⟨ok_X6_readKin, List.forall_mem_cons.mpr ⟨ok_X6_readSpares, List.forall_mem_cons.mpr ⟨ok_X6_readDoctor, List.forall_mem_cons.mpr ⟨ok_X6_readWent, List.forall_mem_cons.mpr ⟨ok_X6_isWord, List.forall_mem_cons.mpr ⟨ok_X6_passWord, List.forall_mem_cons.mpr ⟨ok_X6_passWhole, List.forall_mem_cons.mpr ⟨ok_X6_isToldMan, List.forall_mem_cons.mpr ⟨ok_X6_namedMan, List.forall_mem_cons.mpr ⟨ok_X6_isNamed, List.forall_mem_cons.mpr ⟨ok_X6_namedSort, List.forall_mem_cons.mpr ⟨ok_X7_init, List.forall_mem_cons.mpr ⟨ok_X7_look, List.forall_mem_cons.mpr ⟨ok_X7_clear, List.forall_mem_cons.mpr ⟨ok_X7_fits, List.forall_mem_cons.mpr ⟨ok_X7_couldBe, List.forall_mem_cons.mpr ⟨ok_X7_mustBe, List.forall_mem_cons.mpr ⟨ok_X7_mostLeft, List.forall_mem_cons.mpr ⟨ok_X7_best, List.forall_mem_cons.mpr ⟨ok_X8_init, List.forall_mem_cons.mpr ⟨ok_X8_feed, List.forall_mem_cons.mpr ⟨ok_X8_draft, List.forall_mem_cons.mpr ⟨ok_X8_fault, List.forall_mem_cons.mpr ⟨ok_X8_where, List.forall_mem_cons.mpr ⟨ok_X8_man, List.forall_mem_cons.mpr ⟨ok_X8_spared, List.forall_mem_cons.mpr ⟨ok_X8_many, List.forall_mem_cons.mpr ⟨ok_X8_wouldGo, List.forall_mem_cons.mpr ⟨ok_X8_takenBy, List.forall_mem_cons.mpr ⟨ok_X8_goesBy, List.forall_mem_cons.mpr ⟨ok_X8_sendsBy, List.forall_mem_cons.mpr ⟨ok_X8_lossBy, List.forall_mem_cons.mpr ⟨ok_X8_firstTaken, List.forall_mem_cons.mpr ⟨ok_X8_levyBy, List.forall_mem_cons.mpr ⟨ok_X8_readRow, List.forall_mem_cons.mpr ⟨ok_X8_taken, fun _ h => absurd h List.not_mem_nil⟩⟩⟩⟩⟩⟩⟩⟩⟩⟩⟩⟩⟩⟩⟩⟩⟩⟩⟩⟩⟩⟩⟩⟩⟩⟩⟩⟩⟩⟩⟩⟩⟩⟩⟩⟩⟩⟩⟩⟩
theorem hd_ms1 : ∀ M ∈ mj_ms1, M ≠ m_L_law → mj_hd M := List.forall_mem_cons.mpr ⟨fun _ => hd_X6_readLine, List.forall_mem_cons.mpr ⟨fun _ => hd_X6_lineKind, List.forall_mem_cons.mpr ⟨fun _ => hd_X6_readTakes, List.forall_mem_cons.mpr ⟨fun _ => hd_X6_readMan, List.forall_mem_cons.mpr ⟨fun _ => hd_X6_readKin, List.forall_mem_cons.mpr ⟨fun _ => hd_X6_readSpares, List.forall_mem_cons.mpr ⟨fun _ => hd_X6_readDoctor, List.forall_mem_cons.mpr ⟨fun _ => hd_X6_readWent, List.forall_mem_cons.mpr ⟨fun _ => hd_X6_isWord, List.forall_mem_cons.mpr ⟨fun _ => hd_X6_passWord, List.forall_mem_cons.mpr ⟨fun _ => hd_X6_passWhole, List.forall_mem_cons.mpr ⟨fun _ => hd_X6_isToldMan, List.forall_mem_cons.mpr ⟨fun _ => hd_X6_namedMan, List.forall_mem_cons.mpr ⟨fun _ => hd_X6_isNamed, List.forall_mem_cons.mpr ⟨fun _ => hd_X6_namedSort, List.forall_mem_cons.mpr ⟨fun _ => hd_X7_init, List.forall_mem_cons.mpr ⟨fun _ => hd_X7_look, List.forall_mem_cons.mpr ⟨fun _ => hd_X7_clear, List.forall_mem_cons.mpr ⟨fun _ => hd_X7_fits, List.forall_mem_cons.mpr ⟨fun _ => hd_X7_couldBe, List.forall_mem_cons.mpr ⟨fun _ => hd_X7_mustBe, List.forall_mem_cons.mpr ⟨fun _ => hd_X7_mostLeft, List.forall_mem_cons.mpr ⟨fun _ => hd_X7_best, List.forall_mem_cons.mpr ⟨fun _ => hd_X8_init, List.forall_mem_cons.mpr ⟨fun _ => hd_X8_feed, List.forall_mem_cons.mpr ⟨fun _ => hd_X8_draft, List.forall_mem_cons.mpr ⟨fun _ => hd_X8_fault, List.forall_mem_cons.mpr ⟨fun _ => hd_X8_where, List.forall_mem_cons.mpr ⟨fun _ => hd_X8_man, List.forall_mem_cons.mpr ⟨fun _ => hd_X8_spared, List.forall_mem_cons.mpr ⟨fun _ => hd_X8_many, List.forall_mem_cons.mpr ⟨fun _ => hd_X8_wouldGo, List.forall_mem_cons.mpr ⟨fun _ => hd_X8_takenBy, List.forall_mem_cons.mpr ⟨fun _ => hd_X8_goesBy, List.forall_mem_cons.mpr ⟨fun _ => hd_X8_sendsBy, List.forall_mem_cons.mpr ⟨fun _ => hd_X8_lossBy, List.forall_mem_cons.mpr ⟨fun _ => hd_X8_firstTaken, List.forall_mem_cons.mpr ⟨fun _ => hd_X8_levyBy, List.forall_mem_cons.mpr ⟨fun _ => hd_X8_readRow, List.forall_mem_cons.mpr ⟨fun _ => hd_X8_taken, fun _ h => absurd h List.not_mem_nil⟩⟩⟩⟩⟩⟩⟩⟩⟩⟩⟩⟩⟩⟩⟩⟩⟩⟩⟩⟩⟩⟩⟩⟩⟩⟩⟩⟩⟩⟩⟩⟩⟩⟩⟩⟩⟩⟩⟩⟩
