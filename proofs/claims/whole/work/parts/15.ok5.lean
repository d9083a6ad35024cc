theorem ok_X10_going : mj_okM m_X10_going = true := by decide +kernel
theorem hd_X10_going : mj_hd m_X10_going := ⟨List.mem_of_getElem? (i := 1598) (by decide +kernel), List.mem_of_getElem? (i := 113) (by decide +kernel), ⟨by decide +kernel, by decide +kernel⟩, by decide +kernel, by decide +kernel⟩
theorem ok_X10_lossOfAll : mj_okM m_X10_lossOfAll = true := by decide +kernel
theorem hd_X10_lossOfAll : mj_hd m_X10_lossOfAll := ⟨List.mem_of_getElem? (i := 1646) (by decide +kernel), List.mem_of_getElem? (i := 113) (by decide +kernel), ⟨by decide +kernel, by decide +kernel⟩, by decide +kernel, by decide +kernel⟩
theorem ok_X10_firstRow : mj_okM m_X10_firstRow = true := by decide +kernel
theorem hd_X10_firstRow : mj_hd m_X10_firstRow := ⟨List.mem_of_getElem? (i := 1618) (by decide +kernel), List.mem_of_getElem? (i := 113) (by decide +kernel), ⟨by decide +kernel, by decide +kernel⟩, by decide +kernel, by decide +kernel⟩
theorem ok_X10_nextRow : mj_okM m_X10_nextRow = true := by decide +kernel
theorem hd_X10_nextRow : mj_hd m_X10_nextRow := ⟨List.mem_of_getElem? (i := 1626) (by decide +kernel), List.mem_of_getElem? (i := 113) (by decide +kernel), ⟨by decide +kernel, by decide +kernel⟩, by decide +kernel, by decide +kernel⟩
theorem ok_X10_swaps : mj_okM m_X10_swaps = true := by decide +kernel
theorem hd_X10_swaps : mj_hd m_X10_swaps := ⟨List.mem_of_getElem? (i := 1630) (by decide +kernel), List.mem_of_getElem? (i := 113) (by decide +kernel), ⟨by decide +kernel, by decide +kernel⟩, by decide +kernel, by decide +kernel⟩
theorem ok_X10_allRows : mj_okM m_X10_allRows = true := by decide +kernel
theorem hd_X10_allRows : mj_hd m_X10_allRows := ⟨List.mem_of_getElem? (i := 1650) (by decide +kernel), List.mem_of_getElem? (i := 113) (by decide +kernel), ⟨by decide +kernel, by decide +kernel⟩, by decide +kernel, by decide +kernel⟩
theorem ok_X10_codeOfRow : mj_okM m_X10_codeOfRow = true := by decide +kernel
theorem hd_X10_codeOfRow : mj_hd m_X10_codeOfRow := ⟨List.mem_of_getElem? (i := 1622) (by decide +kernel), List.mem_of_getElem? (i := 113) (by decide +kernel), ⟨by decide +kernel, by decide +kernel⟩, by decide +kernel, by decide +kernel⟩
theorem ok_X10_lays : mj_okM m_X10_lays = true := by decide +kernel
theorem hd_X10_lays : mj_hd m_X10_lays := ⟨List.mem_of_getElem? (i := 1575) (by decide +kernel), List.mem_of_getElem? (i := 113) (by decide +kernel), ⟨by decide +kernel, by decide +kernel⟩, by decide +kernel, by decide +kernel⟩
theorem ok_X10_odds : mj_okM m_X10_odds = true := by decide +kernel
theorem hd_X10_odds : mj_hd m_X10_odds := ⟨List.mem_of_getElem? (i := 1642) (by decide +kernel), List.mem_of_getElem? (i := 113) (by decide +kernel), ⟨by decide +kernel, by decide +kernel⟩, by decide +kernel, by decide +kernel⟩
theorem ok_X10_lossesOf : mj_okM m_X10_lossesOf = true := by decide +kernel
theorem hd_X10_lossesOf : mj_hd m_X10_lossesOf := ⟨List.mem_of_getElem? (i := 1681) (by decide +kernel), List.mem_of_getElem? (i := 113) (by decide +kernel), ⟨by decide +kernel, by decide +kernel⟩, by decide +kernel, by decide +kernel⟩
theorem ok_X10_man : mj_okM m_X10_man = true := by decide +kernel
theorem hd_X10_man : mj_hd m_X10_man := ⟨List.mem_of_getElem? (i := 1539) (by decide +kernel), List.mem_of_getElem? (i := 113) (by decide +kernel), ⟨by decide +kernel, by decide +kernel⟩, by decide +kernel, by decide +kernel⟩
theorem ok_X10_spared : mj_okM m_X10_spared = true := by decide +kernel
theorem hd_X10_spared : mj_hd m_X10_spared := ⟨List.mem_of_getElem? (i := 1547) (by decide +kernel), List.mem_of_getElem? (i := 113) (by decide +kernel), ⟨by decide +kernel, by decide +kernel⟩, by decide +kernel, by decide +kernel⟩
theorem ok_X10_many : mj_okM m_X10_many = true := by decide +kernel
theorem hd_X10_many : mj_hd m_X10_many := ⟨List.mem_of_getElem? (i := 1551) (by decide +kernel), List.mem_of_getElem? (i := 113) (by decide +kernel), ⟨by decide +kernel, by decide +kernel⟩, by decide +kernel, by decide +kernel⟩
theorem ok_X10_wouldGo : mj_okM m_X10_wouldGo = true := by decide +kernel
theorem hd_X10_wouldGo : mj_hd m_X10_wouldGo := ⟨List.mem_of_getElem? (i := 1555) (by decide +kernel), List.mem_of_getElem? (i := 113) (by decide +kernel), ⟨by decide +kernel, by decide +kernel⟩, by decide +kernel, by decide +kernel⟩
theorem ok_X10_refusesRow : mj_okM m_X10_refusesRow = true := by decide +kernel
theorem hd_X10_refusesRow : mj_hd m_X10_refusesRow := ⟨List.mem_of_getElem? (i := 1571) (by decide +kernel), List.mem_of_getElem? (i := 113) (by decide +kernel), ⟨by decide +kernel, by decide +kernel⟩, by decide +kernel, by decide +kernel⟩
theorem ok_X10_playsNow : mj_okM m_X10_playsNow = true := by decide +kernel
theorem hd_X10_playsNow : mj_hd m_X10_playsNow := ⟨List.mem_of_getElem? (i := 1583) (by decide +kernel), List.mem_of_getElem? (i := 113) (by decide +kernel), ⟨by decide +kernel, by decide +kernel⟩, by decide +kernel, by decide +kernel⟩
theorem ok_X10_takenBy : mj_okM m_X10_takenBy = true := by decide +kernel
theorem hd_X10_takenBy : mj_hd m_X10_takenBy := ⟨List.mem_of_getElem? (i := 1567) (by decide +kernel), List.mem_of_getElem? (i := 113) (by decide +kernel), ⟨by decide +kernel, by decide +kernel⟩, by decide +kernel, by decide +kernel⟩
theorem ok_X10_goesBy : mj_okM m_X10_goesBy = true := by decide +kernel
theorem hd_X10_goesBy : mj_hd m_X10_goesBy := ⟨List.mem_of_getElem? (i := 1594) (by decide +kernel), List.mem_of_getElem? (i := 113) (by decide +kernel), ⟨by decide +kernel, by decide +kernel⟩, by decide +kernel, by decide +kernel⟩
theorem ok_X10_sendsBy : mj_okM m_X10_sendsBy = true := by decide +kernel
theorem hd_X10_sendsBy : mj_hd m_X10_sendsBy := ⟨List.mem_of_getElem? (i := 1602) (by decide +kernel), List.mem_of_getElem? (i := 113) (by decide +kernel), ⟨by decide +kernel, by decide +kernel⟩, by decide +kernel, by decide +kernel⟩
theorem ok_X10_lossBy : mj_okM m_X10_lossBy = true := by decide +kernel
theorem hd_X10_lossBy : mj_hd m_X10_lossBy := ⟨List.mem_of_getElem? (i := 1606) (by decide +kernel), List.mem_of_getElem? (i := 113) (by decide +kernel), ⟨by decide +kernel, by decide +kernel⟩, by decide +kernel, by decide +kernel⟩
theorem ok_X10_firstTaken : mj_okM m_X10_firstTaken = true := by decide +kernel
theorem hd_X10_firstTaken : mj_hd m_X10_firstTaken := ⟨List.mem_of_getElem? (i := 1614) (by decide +kernel), List.mem_of_getElem? (i := 113) (by decide +kernel), ⟨by decide +kernel, by decide +kernel⟩, by decide +kernel, by decide +kernel⟩
theorem ok_X10_oddsNow : mj_okM m_X10_oddsNow = true := by decide +kernel
theorem hd_X10_oddsNow : mj_hd m_X10_oddsNow := ⟨List.mem_of_getElem? (i := 1638) (by decide +kernel), List.mem_of_getElem? (i := 113) (by decide +kernel), ⟨by decide +kernel, by decide +kernel⟩, by decide +kernel, by decide +kernel⟩
theorem ok_X10_taken : mj_okM m_X10_taken = true := by decide +kernel
theorem hd_X10_taken : mj_hd m_X10_taken := ⟨List.mem_of_getElem? (i := 1634) (by decide +kernel), List.mem_of_getElem? (i := 113) (by decide +kernel), ⟨by decide +kernel, by decide +kernel⟩, by decide +kernel, by decide +kernel⟩
theorem ok_X10_goes : mj_okM m_X10_goes = true := by decide +kernel
theorem hd_X10_goes : mj_hd m_X10_goes := ⟨List.mem_of_getElem? (i := 1661) (by decide +kernel), List.mem_of_getElem? (i := 113) (by decide +kernel), ⟨by decide +kernel, by decide +kernel⟩, by decide +kernel, by decide +kernel⟩
theorem ok_X10_goesFor : mj_okM m_X10_goesFor = true := by decide +kernel
theorem hd_X10_goesFor : mj_hd m_X10_goesFor := ⟨List.mem_of_getElem? (i := 1665) (by decide +kernel), List.mem_of_getElem? (i := 113) (by decide +kernel), ⟨by decide +kernel, by decide +kernel⟩, by decide +kernel, by decide +kernel⟩
theorem ok_X10_loss : mj_okM m_X10_loss = true := by decide +kernel
theorem hd_X10_loss : mj_hd m_X10_loss := ⟨List.mem_of_getElem? (i := 1669) (by decide +kernel), List.mem_of_getElem? (i := 113) (by decide +kernel), ⟨by decide +kernel, by decide +kernel⟩, by decide +kernel, by decide +kernel⟩
theorem ok_X10_isClub : mj_okM m_X10_isClub = true := by decide +kernel
theorem hd_X10_isClub : mj_hd m_X10_isClub := ⟨List.mem_of_getElem? (i := 1677) (by decide +kernel), List.mem_of_getElem? (i := 113) (by decide +kernel), ⟨by decide +kernel, by decide +kernel⟩, by decide +kernel, by decide +kernel⟩
theorem ok_X10_club : mj_okM m_X10_club = true := by decide +kernel
theorem hd_X10_club : mj_hd m_X10_club := ⟨List.mem_of_getElem? (i := 1673) (by decide +kernel), List.mem_of_getElem? (i := 113) (by decide +kernel), ⟨by decide +kernel, by decide +kernel⟩, by decide +kernel, by decide +kernel⟩
theorem ok_X10_ruin : mj_okM m_X10_ruin = true := by decide +kernel
theorem hd_X10_ruin : mj_hd m_X10_ruin := ⟨List.mem_of_getElem? (i := 1685) (by decide +kernel), List.mem_of_getElem? (i := 113) (by decide +kernel), ⟨by decide +kernel, by decide +kernel⟩, by decide +kernel, by decide +kernel⟩
theorem ok_X10_toJoin : mj_okM m_X10_toJoin = true := by decide +kernel
theorem hd_X10_toJoin : mj_hd m_X10_toJoin := ⟨List.mem_of_getElem? (i := 1689) (by decide +kernel), List.mem_of_getElem? (i := 113) (by decide +kernel), ⟨by decide +kernel, by decide +kernel⟩, by decide +kernel, by decide +kernel⟩
theorem ok_X10_shortOf : mj_okM m_X10_shortOf = true := by decide +kernel
theorem hd_X10_shortOf : mj_hd m_X10_shortOf := ⟨List.mem_of_getElem? (i := 1693) (by decide +kernel), List.mem_of_getElem? (i := 113) (by decide +kernel), ⟨by decide +kernel, by decide +kernel⟩, by decide +kernel, by decide +kernel⟩
theorem ok_X10_ifMarried : mj_okM m_X10_ifMarried = true := by decide +kernel
theorem hd_X10_ifMarried : mj_hd m_X10_ifMarried := ⟨List.mem_of_getElem? (i := 1697) (by decide +kernel), List.mem_of_getElem? (i := 113) (by decide +kernel), ⟨by decide +kernel, by decide +kernel⟩, by decide +kernel, by decide +kernel⟩
theorem ok_X10_byLaw : mj_okM m_X10_byLaw = true := by decide +kernel
theorem hd_X10_byLaw : mj_hd m_X10_byLaw := ⟨List.mem_of_getElem? (i := 1709) (by decide +kernel), List.mem_of_getElem? (i := 113) (by decide +kernel), ⟨by decide +kernel, by decide +kernel⟩, by decide +kernel, by decide +kernel⟩
theorem ok_X10_refusesLaw : mj_okM m_X10_refusesLaw = true := by decide +kernel
theorem hd_X10_refusesLaw : mj_hd m_X10_refusesLaw := ⟨List.mem_of_getElem? (i := 1705) (by decide +kernel), List.mem_of_getElem? (i := 113) (by decide +kernel), ⟨by decide +kernel, by decide +kernel⟩, by decide +kernel, by decide +kernel⟩
theorem ok_X10_harm : mj_okM m_X10_harm = true := by decide +kernel
theorem hd_X10_harm : mj_hd m_X10_harm := ⟨List.mem_of_getElem? (i := 1701) (by decide +kernel), List.mem_of_getElem? (i := 113) (by decide +kernel), ⟨by decide +kernel, by decide +kernel⟩, by decide +kernel, by decide +kernel⟩
theorem ok_X10_fills : mj_okM m_X10_fills = true := by decide +kernel
theorem hd_X10_fills : mj_hd m_X10_fills := ⟨List.mem_of_getElem? (i := 1713) (by decide +kernel), List.mem_of_getElem? (i := 113) (by decide +kernel), ⟨by decide +kernel, by decide +kernel⟩, by decide +kernel, by decide +kernel⟩
theorem ok_X10_bestLaw : mj_okM m_X10_bestLaw = true := by decide +kernel
theorem hd_X10_bestLaw : mj_hd m_X10_bestLaw := ⟨List.mem_of_getElem? (i := 1717) (by decide +kernel), List.mem_of_getElem? (i := 113) (by decide +kernel), ⟨by decide +kernel, by decide +kernel⟩, by decide +kernel, by decide +kernel⟩
theorem ok_X10_toSpare : mj_okM m_X10_toSpare = true := by decide +kernel
theorem hd_X10_toSpare : mj_hd m_X10_toSpare := ⟨List.mem_of_getElem? (i := 1721) (by decide +kernel), List.mem_of_getElem? (i := 113) (by decide +kernel), ⟨by decide +kernel, by decide +kernel⟩, by decide +kernel, by decide +kernel⟩
theorem ok_X10_fitting : mj_okM m_X10_fitting = true := by decide +kernel
theorem hd_X10_fitting : mj_hd m_X10_fitting := ⟨List.mem_of_getElem? (i := 1729) (by decide +kernel), List.mem_of_getElem? (i := 113) (by decide +kernel), ⟨by decide +kernel, by decide +kernel⟩, by decide +kernel, by decide +kernel⟩
theorem ok_X10_rows : mj_okM m_X10_rows = true := by decide +kernel
theorem hd_X10_rows : mj_hd m_X10_rows := ⟨List.mem_of_getElem? (i := 1725) (by decide +kernel), List.mem_of_getElem? (i := 113) (by decide +kernel), ⟨by decide +kernel, by decide +kernel⟩, by decide +kernel, by decide +kernel⟩
theorem ok_ms5 : ∀ M ∈ mj_ms5, mj_okM M = true := List.forall_mem_cons.mpr ⟨ok_X10_going, List.forall_mem_cons.mpr ⟨ok_X10_lossOfAll, List.forall_mem_cons.mpr ⟨ok_X10_firstRow, List.forall_mem_cons.mpr ⟨ok_X10_nextRow, List.forall_mem_cons.mpr ⟨ok_X10_swaps, List.forall_mem_cons.mpr ⟨ok_X10_allRows, List.forall_mem_cons.mpr ⟨ok_X10_codeOfRow, List.forall_mem_cons.mpr ⟨ok_X10_lays, List.forall_mem_cons.mpr ⟨ok_X10_odds, List.forall_mem_cons.mpr ⟨ok_X10_lossesOf, List.forall_mem_cons.mpr ⟨ok_X10_man, List.forall_mem_cons.mpr ⟨ok_X10_spared, List.forall_mem_cons.mpr ⟨ok_X10_many, List.forall_mem_cons.mpr ⟨ok_X10_wouldGo, List.forall_mem_cons.mpr ⟨ok_X10_refusesRow, List.forall_mem_cons.mpr ⟨ok_X10_playsNow, List.forall_mem_cons.mpr ⟨ok_X10_takenBy, List.forall_mem_cons.mpr ⟨ok_X10_goesBy, List.forall_mem_cons.mpr ⟨ok_X10_sendsBy, List.forall_mem_cons.mpr ⟨ok_X10_lossBy, List.forall_mem_cons.mpr ⟨ok_X10_firstTaken, List.forall_mem_cons.mpr ⟨ok_X10_oddsNow, List.forall_mem_cons.mpr ⟨ok_X10_taken, List.forall_mem_cons.mpr ⟨ok_X10_goes, List.forall_mem_cons.mpr ⟨ok_X10_goesFor, List.forall_mem_cons.mpr ⟨ok_X10_loss, List.forall_mem_cons.mpr ⟨ok_X10_isClub, List.forall_mem_cons.mpr ⟨ok_X10_club, List.forall_mem_cons.mpr ⟨ok_X10_ruin, List.forall_mem_cons.mpr ⟨ok_X10_toJoin, List.forall_mem_cons.mpr ⟨ok_X10_shortOf, List.forall_mem_cons.mpr ⟨ok_X10_ifMarried, List.forall_mem_cons.mpr ⟨ok_X10_byLaw, List.forall_mem_cons.mpr ⟨ok_X10_refusesLaw, List.forall_mem_cons.mpr ⟨ok_X10_harm, List.forall_mem_cons.mpr ⟨ok_X10_fills, List.forall_mem_cons.mpr ⟨ok_X10_bestLaw, List.forall_mem_cons.mpr ⟨ok_X10_toSpare, List.forall_mem_cons.mpr ⟨ok_X10_fitting, List.forall_mem_cons.mpr ⟨ok_X10_rows, fun _ h => absurd h List.not_mem_nil⟩⟩⟩⟩⟩⟩⟩⟩⟩⟩⟩⟩⟩⟩⟩⟩⟩⟩⟩⟩⟩⟩⟩⟩⟩⟩⟩⟩⟩⟩⟩⟩⟩⟩⟩⟩⟩⟩⟩⟩
theorem hd_ms5 : ∀ M ∈ mj_ms5, M ≠ m_L_law → mj_hd M := List.forall_mem_cons.mpr ⟨fun _ => hd_X10_going, List.forall_mem_cons.mpr ⟨fun _ => hd_X10_lossOfAll, List.forall_mem_cons.mpr ⟨fun _ => hd_X10_firstRow, List.forall_mem_cons.mpr ⟨fun _ => hd_X10_nextRow, List.forall_mem_cons.mpr ⟨fun _ => hd_X10_swaps, List.forall_mem_cons.mpr ⟨fun _ => hd_X10_allRows, List.forall_mem_cons.mpr ⟨fun _ => hd_X10_codeOfRow, List.forall_mem_cons.mpr ⟨fun _ => hd_X10_lays, List.forall_mem_cons.mpr ⟨fun _ => hd_X10_odds, List.forall_mem_cons.mpr ⟨fun _ => hd_X10_lossesOf, List.forall_mem_cons.mpr ⟨fun _ => hd_X10_man, List.forall_mem_cons.mpr ⟨fun _ => hd_X10_spared, List.forall_mem_cons.mpr ⟨fun _ => hd_X10_many, List.forall_mem_cons.mpr ⟨fun _ => hd_X10_wouldGo, List.forall_mem_cons.mpr ⟨fun _ => hd_X10_refusesRow, List.forall_mem_cons.mpr ⟨fun _ => hd_X10_playsNow, List.forall_mem_cons.mpr ⟨fun _ => hd_X10_takenBy, List.forall_mem_cons.mpr ⟨fun _ => hd_X10_goesBy, List.forall_mem_cons.mpr ⟨fun _ => hd_X10_sendsBy, List.forall_mem_cons.mpr ⟨fun _ => hd_X10_lossBy, List.forall_mem_cons.mpr ⟨fun _ => hd_X10_firstTaken, List.forall_mem_cons.mpr ⟨fun _ => hd_X10_oddsNow, List.forall_mem_cons.mpr ⟨fun _ => hd_X10_taken, List.forall_mem_cons.mpr ⟨fun _ => hd_X10_goes, List.forall_mem_cons.mpr ⟨fun _ => hd_X10_goesFor, List.forall_mem_cons.mpr ⟨fun _ => hd_X10_loss, List.forall_mem_cons.mpr ⟨fun _ => hd_X10_isClub, List.forall_mem_cons.mpr ⟨fun _ => hd_X10_club, List.forall_mem_cons.mpr ⟨fun _ => hd_X10_ruin, List.forall_mem_cons.mpr ⟨fun _ => hd_X10_toJoin, List.forall_mem_cons.mpr ⟨fun _ => hd_X10_shortOf, List.forall_mem_cons.mpr ⟨fun _ => hd_X10_ifMarried, List.forall_mem_cons.mpr ⟨fun _ => hd_X10_byLaw, List.forall_mem_cons.mpr ⟨fun _ => hd_X10_refusesLaw, List.forall_mem_cons.mpr ⟨fun _ => hd_X10_harm, List.forall_mem_cons.mpr ⟨fun _ => hd_X10_fills, List.forall_mem_cons.mpr ⟨fun _ => hd_X10_bestLaw, List.forall_mem_cons.mpr ⟨fun _ => hd_X10_toSpare, List.forall_mem_cons.mpr ⟨fun _ => hd_X10_fitting, List.forall_mem_cons.mpr ⟨fun _ => hd_X10_rows, fun _ h => absurd h List.not_mem_nil⟩⟩⟩⟩⟩⟩⟩⟩⟩⟩⟩⟩⟩⟩⟩⟩⟩⟩⟩⟩⟩⟩⟩⟩⟩⟩⟩⟩⟩⟩⟩⟩⟩⟩⟩⟩⟩⟩⟩⟩
