theorem ok_X10_good : mj_okM m_X10_good = true := by decide +kernel
theorem hd_X10_good : mj_hd m_X10_good := ⟨List.mem_of_getElem? (i := 1527) (by decide +kernel), List.mem_of_getElem? (i := 113) (by decide +kernel), ⟨by decide +kernel, by decide +kernel⟩, by decide +kernel, by decide +kernel⟩
theorem ok_X10_granted : mj_okM m_X10_granted = true := by decide +kernel
theorem hd_X10_granted : mj_hd m_X10_granted := ⟨List.mem_of_getElem? (i := 1843) (by decide +kernel), List.mem_of_getElem? (i := 113) (by decide +kernel), ⟨by decide +kernel, by decide +kernel⟩, by decide +kernel, by decide +kernel⟩
theorem ok_X10_in : mj_okM m_X10_in = true := by decide +kernel
theorem hd_X10_in : mj_hd m_X10_in := ⟨List.mem_of_getElem? (i := 1457) (by decide +kernel), List.mem_of_getElem? (i := 113) (by decide +kernel), ⟨by decide +kernel, by decide +kernel⟩, by decide +kernel, by decide +kernel⟩
theorem ok_X10_bit : mj_okM m_X10_bit = true := by decide +kernel
theorem hd_X10_bit : mj_hd m_X10_bit := ⟨List.mem_of_getElem? (i := 1500) (by decide +kernel), List.mem_of_getElem? (i := 113) (by decide +kernel), ⟨by decide +kernel, by decide +kernel⟩, by decide +kernel, by decide +kernel⟩
theorem ok_X10_bits : mj_okM m_X10_bits = true := by decide +kernel
theorem hd_X10_bits : mj_hd m_X10_bits := ⟨List.mem_of_getElem? (i := 1590) (by decide +kernel), List.mem_of_getElem? (i := 113) (by decide +kernel), ⟨by decide +kernel, by decide +kernel⟩, by decide +kernel, by decide +kernel⟩
theorem ok_X10_common : mj_okM m_X10_common = true := by decide +kernel
theorem hd_X10_common : mj_hd m_X10_common := ⟨List.mem_of_getElem? (i := 1657) (by decide +kernel), List.mem_of_getElem? (i := 113) (by decide +kernel), ⟨by decide +kernel, by decide +kernel⟩, by decide +kernel, by decide +kernel⟩
theorem ok_X10_fraction : mj_okM m_X10_fraction = true := by decide +kernel
theorem hd_X10_fraction : mj_hd m_X10_fraction := ⟨List.mem_of_getElem? (i := 1654) (by decide +kernel), List.mem_of_getElem? (i := 113) (by decide +kernel), ⟨by decide +kernel, by decide +kernel⟩, by decide +kernel, by decide +kernel⟩
theorem ok_X10_byteAt : mj_okM m_X10_byteAt = true := by decide +kernel
theorem hd_X10_byteAt : mj_hd m_X10_byteAt := ⟨List.mem_of_getElem? (i := 1408) (by decide +kernel), List.mem_of_getElem? (i := 113) (by decide +kernel), ⟨by decide +kernel, by decide +kernel⟩, by decide +kernel, by decide +kernel⟩
theorem ok_X10_isLetter : mj_okM m_X10_isLetter = true := by decide +kernel
theorem hd_X10_isLetter : mj_hd m_X10_isLetter := ⟨List.mem_of_getElem? (i := 1411) (by decide +kernel), List.mem_of_getElem? (i := 113) (by decide +kernel), ⟨by decide +kernel, by decide +kernel⟩, by decide +kernel, by decide +kernel⟩
theorem ok_X10_isDigit : mj_okM m_X10_isDigit = true := by decide +kernel
theorem hd_X10_isDigit : mj_hd m_X10_isDigit := ⟨List.mem_of_getElem? (i := 1415) (by decide +kernel), List.mem_of_getElem? (i := 113) (by decide +kernel), ⟨by decide +kernel, by decide +kernel⟩, by decide +kernel, by decide +kernel⟩
theorem ok_X10_packed : mj_okM m_X10_packed = true := by decide +kernel
theorem hd_X10_packed : mj_hd m_X10_packed := ⟨List.mem_of_getElem? (i := 1431) (by decide +kernel), List.mem_of_getElem? (i := 113) (by decide +kernel), ⟨by decide +kernel, by decide +kernel⟩, by decide +kernel, by decide +kernel⟩
theorem ok_X10_goesOn : mj_okM m_X10_goesOn = true := by decide +kernel
theorem hd_X10_goesOn : mj_hd m_X10_goesOn := ⟨List.mem_of_getElem? (i := 1404) (by decide +kernel), List.mem_of_getElem? (i := 113) (by decide +kernel), ⟨by decide +kernel, by decide +kernel⟩, by decide +kernel, by decide +kernel⟩
theorem ok_X10_flaw : mj_okM m_X10_flaw = true := by decide +kernel
theorem hd_X10_flaw : mj_hd m_X10_flaw := ⟨List.mem_of_getElem? (i := 1441) (by decide +kernel), List.mem_of_getElem? (i := 113) (by decide +kernel), ⟨by decide +kernel, by decide +kernel⟩, by decide +kernel, by decide +kernel⟩
theorem ok_X10_isWord : mj_okM m_X10_isWord = true := by decide +kernel
theorem hd_X10_isWord : mj_hd m_X10_isWord := ⟨List.mem_of_getElem? (i := 1428) (by decide +kernel), List.mem_of_getElem? (i := 113) (by decide +kernel), ⟨by decide +kernel, by decide +kernel⟩, by decide +kernel, by decide +kernel⟩
theorem ok_X10_eatsSemicolon : mj_okM m_X10_eatsSemicolon = true := by decide +kernel
theorem hd_X10_eatsSemicolon : mj_hd m_X10_eatsSemicolon := ⟨List.mem_of_getElem? (i := 1523) (by decide +kernel), List.mem_of_getElem? (i := 113) (by decide +kernel), ⟨by decide +kernel, by decide +kernel⟩, by decide +kernel, by decide +kernel⟩
theorem ok_X10_needs : mj_okM m_X10_needs = true := by decide +kernel
theorem hd_X10_needs : mj_hd m_X10_needs := ⟨List.mem_of_getElem? (i := 1450) (by decide +kernel), List.mem_of_getElem? (i := 113) (by decide +kernel), ⟨by decide +kernel, by decide +kernel⟩, by decide +kernel, by decide +kernel⟩
theorem ok_X10_readWhole : mj_okM m_X10_readWhole = true := by decide +kernel
theorem hd_X10_readWhole : mj_hd m_X10_readWhole := ⟨List.mem_of_getElem? (i := 1454) (by decide +kernel), List.mem_of_getElem? (i := 113) (by decide +kernel), ⟨by decide +kernel, by decide +kernel⟩, by decide +kernel, by decide +kernel⟩
theorem ok_X10_readPart : mj_okM m_X10_readPart = true := by decide +kernel
theorem hd_X10_readPart : mj_hd m_X10_readPart := ⟨List.mem_of_getElem? (i := 1446) (by decide +kernel), List.mem_of_getElem? (i := 113) (by decide +kernel), ⟨by decide +kernel, by decide +kernel⟩, by decide +kernel, by decide +kernel⟩
theorem ok_X10_isName : mj_okM m_X10_isName = true := by decide +kernel
theorem hd_X10_isName : mj_hd m_X10_isName := ⟨List.mem_of_getElem? (i := 1470) (by decide +kernel), List.mem_of_getElem? (i := 113) (by decide +kernel), ⟨by decide +kernel, by decide +kernel⟩, by decide +kernel, by decide +kernel⟩
theorem ok_X10_lineBegins : mj_okM m_X10_lineBegins = true := by decide +kernel
theorem hd_X10_lineBegins : mj_hd m_X10_lineBegins := ⟨List.mem_of_getElem? (i := 1466) (by decide +kernel), List.mem_of_getElem? (i := 113) (by decide +kernel), ⟨by decide +kernel, by decide +kernel⟩, by decide +kernel, by decide +kernel⟩
theorem ok_X10_knownMan : mj_okM m_X10_knownMan = true := by decide +kernel
theorem hd_X10_knownMan : mj_hd m_X10_knownMan := ⟨List.mem_of_getElem? (i := 1497) (by decide +kernel), List.mem_of_getElem? (i := 113) (by decide +kernel), ⟨by decide +kernel, by decide +kernel⟩, by decide +kernel, by decide +kernel⟩
theorem ok_X10_sortAtHand : mj_okM m_X10_sortAtHand = true := by decide +kernel
theorem hd_X10_sortAtHand : mj_hd m_X10_sortAtHand := ⟨List.mem_of_getElem? (i := 1482) (by decide +kernel), List.mem_of_getElem? (i := 113) (by decide +kernel), ⟨by decide +kernel, by decide +kernel⟩, by decide +kernel, by decide +kernel⟩
theorem ok_X10_readAll : mj_okM m_X10_readAll = true := by decide +kernel
theorem hd_X10_readAll : mj_hd m_X10_readAll := ⟨List.mem_of_getElem? (i := 1419) (by decide +kernel), List.mem_of_getElem? (i := 113) (by decide +kernel), ⟨by decide +kernel, by decide +kernel⟩, by decide +kernel, by decide +kernel⟩
theorem ok_X10_readLine : mj_okM m_X10_readLine = true := by decide +kernel
theorem hd_X10_readLine : mj_hd m_X10_readLine := ⟨List.mem_of_getElem? (i := 1423) (by decide +kernel), List.mem_of_getElem? (i := 113) (by decide +kernel), ⟨by decide +kernel, by decide +kernel⟩, by decide +kernel, by decide +kernel⟩
theorem ok_X10_readDraft : mj_okM m_X10_readDraft = true := by decide +kernel
theorem hd_X10_readDraft : mj_hd m_X10_readDraft := ⟨List.mem_of_getElem? (i := 1437) (by decide +kernel), List.mem_of_getElem? (i := 113) (by decide +kernel), ⟨by decide +kernel, by decide +kernel⟩, by decide +kernel, by decide +kernel⟩
theorem ok_X10_readMan : mj_okM m_X10_readMan = true := by decide +kernel
theorem hd_X10_readMan : mj_hd m_X10_readMan := ⟨List.mem_of_getElem? (i := 1462) (by decide +kernel), List.mem_of_getElem? (i := 113) (by decide +kernel), ⟨by decide +kernel, by decide +kernel⟩, by decide +kernel, by decide +kernel⟩
theorem ok_X10_readKin : mj_okM m_X10_readKin = true := by decide +kernel
theorem hd_X10_readKin : mj_hd m_X10_readKin := ⟨List.mem_of_getElem? (i := 1493) (by decide +kernel), List.mem_of_getElem? (i := 113) (by decide +kernel), ⟨by decide +kernel, by decide +kernel⟩, by decide +kernel, by decide +kernel⟩
theorem ok_X10_readSpares : mj_okM m_X10_readSpares = true := by decide +kernel
theorem hd_X10_readSpares : mj_hd m_X10_readSpares := ⟨List.mem_of_getElem? (i := 1504) (by decide +kernel), List.mem_of_getElem? (i := 113) (by decide +kernel), ⟨by decide +kernel, by decide +kernel⟩, by decide +kernel, by decide +kernel⟩
theorem ok_X10_readDoctor : mj_okM m_X10_readDoctor = true := by decide +kernel
theorem hd_X10_readDoctor : mj_hd m_X10_readDoctor := ⟨List.mem_of_getElem? (i := 1508) (by decide +kernel), List.mem_of_getElem? (i := 113) (by decide +kernel), ⟨by decide +kernel, by decide +kernel⟩, by decide +kernel, by decide +kernel⟩
theorem ok_X10_readWent : mj_okM m_X10_readWent = true := by decide +kernel
theorem hd_X10_readWent : mj_hd m_X10_readWent := ⟨List.mem_of_getElem? (i := 1515) (by decide +kernel), List.mem_of_getElem? (i := 113) (by decide +kernel), ⟨by decide +kernel, by decide +kernel⟩, by decide +kernel, by decide +kernel⟩
theorem ok_X10_feed : mj_okM m_X10_feed = true := by decide +kernel
theorem hd_X10_feed : mj_hd m_X10_feed := ⟨List.mem_of_getElem? (i := 1329) (by decide +kernel), List.mem_of_getElem? (i := 113) (by decide +kernel), ⟨by decide +kernel, by decide +kernel⟩, by decide +kernel, by decide +kernel⟩
theorem ok_X10_draft : mj_okM m_X10_draft = true := by decide +kernel
theorem hd_X10_draft : mj_hd m_X10_draft := ⟨List.mem_of_getElem? (i := 1333) (by decide +kernel), List.mem_of_getElem? (i := 113) (by decide +kernel), ⟨by decide +kernel, by decide +kernel⟩, by decide +kernel, by decide +kernel⟩
theorem ok_X10_fault : mj_okM m_X10_fault = true := by decide +kernel
theorem hd_X10_fault : mj_hd m_X10_fault := ⟨List.mem_of_getElem? (i := 1531) (by decide +kernel), List.mem_of_getElem? (i := 113) (by decide +kernel), ⟨by decide +kernel, by decide +kernel⟩, by decide +kernel, by decide +kernel⟩
theorem ok_X10_where : mj_okM m_X10_where = true := by decide +kernel
theorem hd_X10_where : mj_hd m_X10_where := ⟨List.mem_of_getElem? (i := 1535) (by decide +kernel), List.mem_of_getElem? (i := 113) (by decide +kernel), ⟨by decide +kernel, by decide +kernel⟩, by decide +kernel, by decide +kernel⟩
theorem ok_X10_isMan : mj_okM m_X10_isMan = true := by decide +kernel
theorem hd_X10_isMan : mj_hd m_X10_isMan := ⟨List.mem_of_getElem? (i := 1543) (by decide +kernel), List.mem_of_getElem? (i := 113) (by decide +kernel), ⟨by decide +kernel, by decide +kernel⟩, by decide +kernel, by decide +kernel⟩
theorem ok_X10_everybody : mj_okM m_X10_everybody = true := by decide +kernel
theorem hd_X10_everybody : mj_hd m_X10_everybody := ⟨List.mem_of_getElem? (i := 1579) (by decide +kernel), List.mem_of_getElem? (i := 113) (by decide +kernel), ⟨by decide +kernel, by decide +kernel⟩, by decide +kernel, by decide +kernel⟩
theorem ok_X10_asNow : mj_okM m_X10_asNow = true := by decide +kernel
theorem hd_X10_asNow : mj_hd m_X10_asNow := ⟨List.mem_of_getElem? (i := 1559) (by decide +kernel), List.mem_of_getElem? (i := 113) (by decide +kernel), ⟨by decide +kernel, by decide +kernel⟩, by decide +kernel, by decide +kernel⟩
theorem ok_X10_cheapest : mj_okM m_X10_cheapest = true := by decide +kernel
theorem hd_X10_cheapest : mj_hd m_X10_cheapest := ⟨List.mem_of_getElem? (i := 1563) (by decide +kernel), List.mem_of_getElem? (i := 113) (by decide +kernel), ⟨by decide +kernel, by decide +kernel⟩, by decide +kernel, by decide +kernel⟩
theorem ok_X10_plays : mj_okM m_X10_plays = true := by decide +kernel
theorem hd_X10_plays : mj_hd m_X10_plays := ⟨List.mem_of_getElem? (i := 1587) (by decide +kernel), List.mem_of_getElem? (i := 113) (by decide +kernel), ⟨by decide +kernel, by decide +kernel⟩, by decide +kernel, by decide +kernel⟩
theorem ok_X10_lossOf : mj_okM m_X10_lossOf = true := by decide +kernel
theorem hd_X10_lossOf : mj_hd m_X10_lossOf := ⟨List.mem_of_getElem? (i := 1610) (by decide +kernel), List.mem_of_getElem? (i := 113) (by decide +kernel), ⟨by decide +kernel, by decide +kernel⟩, by decide +kernel, by decide +kernel⟩
theorem ok_ms4 : ∀ M ∈ mj_ms4, mj_okM M = true := List.forall_mem_cons.mpr ⟨ok_X10_good, List.forall_mem_cons.mpr ⟨ok_X10_granted, List.forall_mem_cons.mpr ⟨ok_X10_in, List.forall_mem_cons.mpr ⟨ok_X10_bit, List.forall_mem_cons.mpr ⟨ok_X10_bits, List.forall_mem_cons.mpr ⟨ok_X10_common, List.forall_mem_cons.mpr ⟨ok_X10_fraction, List.forall_mem_cons.mpr ⟨ok_X10_byteAt, List.forall_mem_cons.mpr ⟨ok_X10_isLetter, List.forall_mem_cons.mpr ⟨ok_X10_isDigit, List.forall_mem_cons.mpr ⟨ok_X10_packed, List.forall_mem_cons.mpr ⟨ok_X10_goesOn, List.forall_mem_cons.mpr ⟨ok_X10_flaw, List.forall_mem_cons.mpr ⟨ok_X10_isWord, List.forall_mem_cons.mpr ⟨ok_X10_eatsSemicolon, List.forall_mem_cons.mpr ⟨ok_X10_needs, List.forall_mem_cons.mpr ⟨ok_X10_readWhole, List.forall_mem_cons.mpr ⟨ok_X10_readPart, List.forall_mem_cons.mpr ⟨ok_X10_isName, List.forall_mem_cons.mpr ⟨ok_X10_lineBegins, List.forall_mem_cons.mpr ⟨ok_X10_knownMan, List.forall_mem_cons.mpr ⟨ok_X10_sortAtHand, List.forall_mem_cons.mpr ⟨ok_X10_readAll, List.forall_mem_cons.mpr ⟨ok_X10_readLine, List.forall_mem_cons.mpr ⟨ok_X10_readDraft, List.forall_mem_cons.mpr ⟨ok_X10_readMan, List.forall_mem_cons.mpr ⟨ok_X10_readKin, List.forall_mem_cons.mpr ⟨ok_X10_readSpares, List.forall_mem_cons.mpr ⟨ok_X10_readDoctor, List.forall_mem_cons.mpr ⟨ok_X10_readWent, List.forall_mem_cons.mpr ⟨ok_X10_feed, List.forall_mem_cons.mpr ⟨ok_X10_draft, List.forall_mem_cons.mpr ⟨ok_X10_fault, List.forall_mem_cons.mpr ⟨ok_X10_where, List.forall_mem_cons.mpr ⟨ok_X10_isMan, List.forall_mem_cons.mpr ⟨ok_X10_everybody, List.forall_mem_cons.mpr ⟨ok_X10_asNow, List.forall_mem_cons.mpr ⟨ok_X10_cheapest, List.forall_mem_cons.mpr ⟨ok_X10_plays, List.forall_mem_cons.mpr ⟨ok_X10_lossOf, fun _ h => absurd h List.not_mem_nil⟩⟩⟩⟩⟩⟩⟩⟩⟩⟩⟩⟩⟩⟩⟩⟩⟩⟩⟩⟩⟩⟩⟩⟩⟩⟩⟩⟩⟩⟩⟩⟩⟩⟩⟩⟩⟩⟩⟩⟩
theorem hd_ms4 : ∀ M ∈ mj_ms4, M ≠ m_L_law → mj_hd M := List.forall_mem_cons.mpr ⟨fun _ => hd_X10_good, List.forall_mem_cons.mpr ⟨fun _ => hd_X10_granted, List.forall_mem_cons.mpr ⟨fun _ => hd_X10_in, List.forall_mem_cons.mpr ⟨fun _ => hd_X10_bit, List.forall_mem_cons.mpr ⟨fun _ => hd_X10_bits, List.forall_mem_cons.mpr ⟨fun _ => hd_X10_common, List.forall_mem_cons.mpr ⟨fun _ => hd_X10_fraction, List.forall_mem_cons.mpr ⟨fun _ => hd_X10_byteAt, List.forall_mem_cons.mpr ⟨fun _ => hd_X10_isLetter, List.forall_mem_cons.mpr ⟨fun _ => hd_X10_isDigit, List.forall_mem_cons.mpr ⟨fun _ => hd_X10_packed, List.forall_mem_cons.mpr ⟨fun _ => hd_X10_goesOn, List.forall_mem_cons.mpr ⟨fun _ => hd_X10_flaw, List.forall_mem_cons.mpr ⟨fun _ => hd_X10_isWord, List.forall_mem_cons.mpr ⟨fun _ => hd_X10_eatsSemicolon, List.forall_mem_cons.mpr ⟨fun _ => hd_X10_needs, List.forall_mem_cons.mpr ⟨fun _ => hd_X10_readWhole, List.forall_mem_cons.mpr ⟨fun _ => hd_X10_readPart, List.forall_mem_cons.mpr ⟨fun _ => hd_X10_isName, List.forall_mem_cons.mpr ⟨fun _ => hd_X10_lineBegins, List.forall_mem_cons.mpr ⟨fun _ => hd_X10_knownMan, List.forall_mem_cons.mpr ⟨fun _ => hd_X10_sortAtHand, List.forall_mem_cons.mpr ⟨fun _ => hd_X10_readAll, List.forall_mem_cons.mpr ⟨fun _ => hd_X10_readLine, List.forall_mem_cons.mpr ⟨fun _ => hd_X10_readDraft, List.forall_mem_cons.mpr ⟨fun _ => hd_X10_readMan, List.forall_mem_cons.mpr ⟨fun _ => hd_X10_readKin, List.forall_mem_cons.mpr ⟨fun _ => hd_X10_readSpares, List.forall_mem_cons.mpr ⟨fun _ => hd_X10_readDoctor, List.forall_mem_cons.mpr ⟨fun _ => hd_X10_readWent, List.forall_mem_cons.mpr ⟨fun _ => hd_X10_feed, List.forall_mem_cons.mpr ⟨fun _ => hd_X10_draft, List.forall_mem_cons.mpr ⟨fun _ => hd_X10_fault, List.forall_mem_cons.mpr ⟨fun _ => hd_X10_where, List.forall_mem_cons.mpr ⟨fun _ => hd_X10_isMan, List.forall_mem_cons.mpr ⟨fun _ => hd_X10_everybody, List.forall_mem_cons.mpr ⟨fun _ => hd_X10_asNow, List.forall_mem_cons.mpr ⟨fun _ => hd_X10_cheapest, List.forall_mem_cons.mpr ⟨fun _ => hd_X10_plays, List.forall_mem_cons.mpr ⟨fun _ => hd_X10_lossOf, fun _ h => absurd h List.not_mem_nil⟩⟩⟩⟩⟩⟩⟩⟩⟩⟩⟩⟩⟩⟩⟩⟩⟩⟩⟩⟩⟩⟩⟩⟩⟩⟩⟩⟩⟩⟩⟩⟩⟩⟩⟩⟩⟩⟩⟩⟩
