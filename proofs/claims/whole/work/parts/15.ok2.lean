theorem ok_X8_goes : mj_okM m_X8_goes = true := by decide +kernel
theorem hd_X8_goes : mj_hd m_X8_goes := ⟨List.mem_of_getElem? (i := 813) (by decide +kernel), List.mem_of_getElem? (i := 104) (by decide +kernel), ⟨by decide +kernel, by decide +kernel⟩, by decide +kernel, by decide +kernel⟩
theorem ok_X8_goesFor : mj_okM m_X8_goesFor = true := by decide +kernel
theorem hd_X8_goesFor : mj_hd m_X8_goesFor := ⟨List.mem_of_getElem? (i := 829) (by decide +kernel), List.mem_of_getElem? (i := 104) (by decide +kernel), ⟨by decide +kernel, by decide +kernel⟩, by decide +kernel, by decide +kernel⟩
theorem ok_X8_loss : mj_okM m_X8_loss = true := by decide +kernel
theorem hd_X8_loss : mj_hd m_X8_loss := ⟨List.mem_of_getElem? (i := 837) (by decide +kernel), List.mem_of_getElem? (i := 104) (by decide +kernel), ⟨by decide +kernel, by decide +kernel⟩, by decide +kernel, by decide +kernel⟩
theorem ok_X8_club : mj_okM m_X8_club = true := by decide +kernel
theorem hd_X8_club : mj_hd m_X8_club := ⟨List.mem_of_getElem? (i := 849) (by decide +kernel), List.mem_of_getElem? (i := 104) (by decide +kernel), ⟨by decide +kernel, by decide +kernel⟩, by decide +kernel, by decide +kernel⟩
theorem ok_X8_ruin : mj_okM m_X8_ruin = true := by decide +kernel
theorem hd_X8_ruin : mj_hd m_X8_ruin := ⟨List.mem_of_getElem? (i := 867) (by decide +kernel), List.mem_of_getElem? (i := 104) (by decide +kernel), ⟨by decide +kernel, by decide +kernel⟩, by decide +kernel, by decide +kernel⟩
theorem ok_X8_toJoin : mj_okM m_X8_toJoin = true := by decide +kernel
theorem hd_X8_toJoin : mj_hd m_X8_toJoin := ⟨List.mem_of_getElem? (i := 875) (by decide +kernel), List.mem_of_getElem? (i := 104) (by decide +kernel), ⟨by decide +kernel, by decide +kernel⟩, by decide +kernel, by decide +kernel⟩
theorem ok_X8_shortOf : mj_okM m_X8_shortOf = true := by decide +kernel
theorem hd_X8_shortOf : mj_hd m_X8_shortOf := ⟨List.mem_of_getElem? (i := 879) (by decide +kernel), List.mem_of_getElem? (i := 104) (by decide +kernel), ⟨by decide +kernel, by decide +kernel⟩, by decide +kernel, by decide +kernel⟩
theorem ok_X8_ifMarried : mj_okM m_X8_ifMarried = true := by decide +kernel
theorem hd_X8_ifMarried : mj_hd m_X8_ifMarried := ⟨List.mem_of_getElem? (i := 888) (by decide +kernel), List.mem_of_getElem? (i := 104) (by decide +kernel), ⟨by decide +kernel, by decide +kernel⟩, by decide +kernel, by decide +kernel⟩
theorem ok_X8_harm : mj_okM m_X8_harm = true := by decide +kernel
theorem hd_X8_harm : mj_hd m_X8_harm := ⟨List.mem_of_getElem? (i := 896) (by decide +kernel), List.mem_of_getElem? (i := 104) (by decide +kernel), ⟨by decide +kernel, by decide +kernel⟩, by decide +kernel, by decide +kernel⟩
theorem ok_X8_fills : mj_okM m_X8_fills = true := by decide +kernel
theorem hd_X8_fills : mj_hd m_X8_fills := ⟨List.mem_of_getElem? (i := 911) (by decide +kernel), List.mem_of_getElem? (i := 104) (by decide +kernel), ⟨by decide +kernel, by decide +kernel⟩, by decide +kernel, by decide +kernel⟩
theorem ok_X8_bestLaw : mj_okM m_X8_bestLaw = true := by decide +kernel
theorem hd_X8_bestLaw : mj_hd m_X8_bestLaw := ⟨List.mem_of_getElem? (i := 915) (by decide +kernel), List.mem_of_getElem? (i := 104) (by decide +kernel), ⟨by decide +kernel, by decide +kernel⟩, by decide +kernel, by decide +kernel⟩
theorem ok_X8_toSpare : mj_okM m_X8_toSpare = true := by decide +kernel
theorem hd_X8_toSpare : mj_hd m_X8_toSpare := ⟨List.mem_of_getElem? (i := 919) (by decide +kernel), List.mem_of_getElem? (i := 104) (by decide +kernel), ⟨by decide +kernel, by decide +kernel⟩, by decide +kernel, by decide +kernel⟩
theorem ok_X8_learn : mj_okM m_X8_learn = true := by decide +kernel
theorem hd_X8_learn : mj_hd m_X8_learn := ⟨List.mem_of_getElem? (i := 903) (by decide +kernel), List.mem_of_getElem? (i := 104) (by decide +kernel), ⟨by decide +kernel, by decide +kernel⟩, by decide +kernel, by decide +kernel⟩
theorem ok_X8_rows : mj_okM m_X8_rows = true := by decide +kernel
theorem hd_X8_rows : mj_hd m_X8_rows := ⟨List.mem_of_getElem? (i := 923) (by decide +kernel), List.mem_of_getElem? (i := 104) (by decide +kernel), ⟨by decide +kernel, by decide +kernel⟩, by decide +kernel, by decide +kernel⟩
theorem ok_X8_could : mj_okM m_X8_could = true := by decide +kernel
theorem hd_X8_could : mj_hd m_X8_could := ⟨List.mem_of_getElem? (i := 943) (by decide +kernel), List.mem_of_getElem? (i := 104) (by decide +kernel), ⟨by decide +kernel, by decide +kernel⟩, by decide +kernel, by decide +kernel⟩
theorem ok_X8_surely : mj_okM m_X8_surely = true := by decide +kernel
theorem hd_X8_surely : mj_hd m_X8_surely := ⟨List.mem_of_getElem? (i := 955) (by decide +kernel), List.mem_of_getElem? (i := 104) (by decide +kernel), ⟨by decide +kernel, by decide +kernel⟩, by decide +kernel, by decide +kernel⟩
theorem ok_X8_ask : mj_okM m_X8_ask = true := by decide +kernel
theorem hd_X8_ask : mj_hd m_X8_ask := ⟨List.mem_of_getElem? (i := 963) (by decide +kernel), List.mem_of_getElem? (i := 104) (by decide +kernel), ⟨by decide +kernel, by decide +kernel⟩, by decide +kernel, by decide +kernel⟩
theorem ok_X8_askLeaves : mj_okM m_X8_askLeaves = true := by decide +kernel
theorem hd_X8_askLeaves : mj_hd m_X8_askLeaves := ⟨List.mem_of_getElem? (i := 978) (by decide +kernel), List.mem_of_getElem? (i := 104) (by decide +kernel), ⟨by decide +kernel, by decide +kernel⟩, by decide +kernel, by decide +kernel⟩
theorem ok_X8_surelyTaken : mj_okM m_X8_surelyTaken = true := by decide +kernel
theorem hd_X8_surelyTaken : mj_hd m_X8_surelyTaken := ⟨List.mem_of_getElem? (i := 983) (by decide +kernel), List.mem_of_getElem? (i := 104) (by decide +kernel), ⟨by decide +kernel, by decide +kernel⟩, by decide +kernel, by decide +kernel⟩
theorem ok_X8_look : mj_okM m_X8_look = true := by decide +kernel
theorem hd_X8_look : mj_hd m_X8_look := ⟨List.mem_of_getElem? (i := 927) (by decide +kernel), List.mem_of_getElem? (i := 104) (by decide +kernel), ⟨by decide +kernel, by decide +kernel⟩, by decide +kernel, by decide +kernel⟩
theorem ok_X8_believed : mj_okM m_X8_believed = true := by decide +kernel
theorem hd_X8_believed : mj_hd m_X8_believed := ⟨List.mem_of_getElem? (i := 987) (by decide +kernel), List.mem_of_getElem? (i := 104) (by decide +kernel), ⟨by decide +kernel, by decide +kernel⟩, by decide +kernel, by decide +kernel⟩
theorem ok_X8_wrong : mj_okM m_X8_wrong = true := by decide +kernel
theorem hd_X8_wrong : mj_hd m_X8_wrong := ⟨List.mem_of_getElem? (i := 991) (by decide +kernel), List.mem_of_getElem? (i := 104) (by decide +kernel), ⟨by decide +kernel, by decide +kernel⟩, by decide +kernel, by decide +kernel⟩
theorem ok_X8_agent : mj_okM m_X8_agent = true := by decide +kernel
theorem hd_X8_agent : mj_hd m_X8_agent := ⟨List.mem_of_getElem? (i := 996) (by decide +kernel), List.mem_of_getElem? (i := 104) (by decide +kernel), ⟨by decide +kernel, by decide +kernel⟩, by decide +kernel, by decide +kernel⟩
theorem ok_X8_rests : mj_okM m_X8_rests = true := by decide +kernel
theorem hd_X8_rests : mj_hd m_X8_rests := ⟨List.mem_of_getElem? (i := 1007) (by decide +kernel), List.mem_of_getElem? (i := 104) (by decide +kernel), ⟨by decide +kernel, by decide +kernel⟩, by decide +kernel, by decide +kernel⟩
theorem ok_X8_rest : mj_okM m_X8_rest = true := by decide +kernel
theorem hd_X8_rest : mj_hd m_X8_rest := ⟨List.mem_of_getElem? (i := 1017) (by decide +kernel), List.mem_of_getElem? (i := 104) (by decide +kernel), ⟨by decide +kernel, by decide +kernel⟩, by decide +kernel, by decide +kernel⟩
theorem ok_X8_isRest : mj_okM m_X8_isRest = true := by decide +kernel
theorem hd_X8_isRest : mj_hd m_X8_isRest := ⟨List.mem_of_getElem? (i := 1010) (by decide +kernel), List.mem_of_getElem? (i := 104) (by decide +kernel), ⟨by decide +kernel, by decide +kernel⟩, by decide +kernel, by decide +kernel⟩
theorem ok_X8_isBestReply : mj_okM m_X8_isBestReply = true := by decide +kernel
theorem hd_X8_isBestReply : mj_hd m_X8_isBestReply := ⟨List.mem_of_getElem? (i := 1013) (by decide +kernel), List.mem_of_getElem? (i := 104) (by decide +kernel), ⟨by decide +kernel, by decide +kernel⟩, by decide +kernel, by decide +kernel⟩
theorem ok_X8_gain : mj_okM m_X8_gain = true := by decide +kernel
theorem hd_X8_gain : mj_hd m_X8_gain := ⟨List.mem_of_getElem? (i := 1002) (by decide +kernel), List.mem_of_getElem? (i := 104) (by decide +kernel), ⟨by decide +kernel, by decide +kernel⟩, by decide +kernel, by decide +kernel⟩
theorem ok_X8_drafts : mj_okM m_X8_drafts = true := by decide +kernel
theorem hd_X8_drafts : mj_hd m_X8_drafts := ⟨List.mem_of_getElem? (i := 1021) (by decide +kernel), List.mem_of_getElem? (i := 104) (by decide +kernel), ⟨by decide +kernel, by decide +kernel⟩, by decide +kernel, by decide +kernel⟩
theorem ok_X8_sentIn : mj_okM m_X8_sentIn = true := by decide +kernel
theorem hd_X8_sentIn : mj_hd m_X8_sentIn := ⟨List.mem_of_getElem? (i := 1041) (by decide +kernel), List.mem_of_getElem? (i := 104) (by decide +kernel), ⟨by decide +kernel, by decide +kernel⟩, by decide +kernel, by decide +kernel⟩
theorem ok_X8_countDraws : mj_okM m_X8_countDraws = true := by decide +kernel
theorem hd_X8_countDraws : mj_hd m_X8_countDraws := ⟨List.mem_of_getElem? (i := 1025) (by decide +kernel), List.mem_of_getElem? (i := 104) (by decide +kernel), ⟨by decide +kernel, by decide +kernel⟩, by decide +kernel, by decide +kernel⟩
theorem ok_X8_lossIn : mj_okM m_X8_lossIn = true := by decide +kernel
theorem hd_X8_lossIn : mj_hd m_X8_lossIn := ⟨List.mem_of_getElem? (i := 1045) (by decide +kernel), List.mem_of_getElem? (i := 104) (by decide +kernel), ⟨by decide +kernel, by decide +kernel⟩, by decide +kernel, by decide +kernel⟩
theorem ok_X8_levyByDraws : mj_okM m_X8_levyByDraws = true := by decide +kernel
theorem hd_X8_levyByDraws : mj_hd m_X8_levyByDraws := ⟨List.mem_of_getElem? (i := 1036) (by decide +kernel), List.mem_of_getElem? (i := 104) (by decide +kernel), ⟨by decide +kernel, by decide +kernel⟩, by decide +kernel, by decide +kernel⟩
theorem ok_X8_marry : mj_okM m_X8_marry = true := by decide +kernel
theorem hd_X8_marry : mj_hd m_X8_marry := ⟨List.mem_of_getElem? (i := 1049) (by decide +kernel), List.mem_of_getElem? (i := 104) (by decide +kernel), ⟨by decide +kernel, by decide +kernel⟩, by decide +kernel, by decide +kernel⟩
theorem ok_X8_spare : mj_okM m_X8_spare = true := by decide +kernel
theorem hd_X8_spare : mj_hd m_X8_spare := ⟨List.mem_of_getElem? (i := 1067) (by decide +kernel), List.mem_of_getElem? (i := 104) (by decide +kernel), ⟨by decide +kernel, by decide +kernel⟩, by decide +kernel, by decide +kernel⟩
theorem ok_X8_hold : mj_okM m_X8_hold = true := by decide +kernel
theorem hd_X8_hold : mj_hd m_X8_hold := ⟨List.mem_of_getElem? (i := 1071) (by decide +kernel), List.mem_of_getElem? (i := 104) (by decide +kernel), ⟨by decide +kernel, by decide +kernel⟩, by decide +kernel, by decide +kernel⟩
theorem ok_X8_desert : mj_okM m_X8_desert = true := by decide +kernel
theorem hd_X8_desert : mj_hd m_X8_desert := ⟨List.mem_of_getElem? (i := 1075) (by decide +kernel), List.mem_of_getElem? (i := 104) (by decide +kernel), ⟨by decide +kernel, by decide +kernel⟩, by decide +kernel, by decide +kernel⟩
theorem ok_X8_fate : mj_okM m_X8_fate = true := by decide +kernel
theorem hd_X8_fate : mj_hd m_X8_fate := ⟨List.mem_of_getElem? (i := 1083) (by decide +kernel), List.mem_of_getElem? (i := 104) (by decide +kernel), ⟨by decide +kernel, by decide +kernel⟩, by decide +kernel, by decide +kernel⟩
theorem ok_X8_senderOf : mj_okM m_X8_senderOf = true := by decide +kernel
theorem hd_X8_senderOf : mj_hd m_X8_senderOf := ⟨List.mem_of_getElem? (i := 1079) (by decide +kernel), List.mem_of_getElem? (i := 104) (by decide +kernel), ⟨by decide +kernel, by decide +kernel⟩, by decide +kernel, by decide +kernel⟩
theorem ok_X8_lot : mj_okM m_X8_lot = true := by decide +kernel
theorem hd_X8_lot : mj_hd m_X8_lot := ⟨List.mem_of_getElem? (i := 1087) (by decide +kernel), List.mem_of_getElem? (i := 104) (by decide +kernel), ⟨by decide +kernel, by decide +kernel⟩, by decide +kernel, by decide +kernel⟩
theorem ok_ms2 : ∀ M ∈ mj_ms2, mj_okM M = true := List.forall_mem_cons.mpr ⟨ok_X8_goes, List.forall_mem_cons.mpr ⟨ok_X8_goesFor, List.forall_mem_cons.mpr ⟨ok_X8_loss, List.forall_mem_cons.mpr ⟨ok_X8_club, List.forall_mem_cons.mpr ⟨ok_X8_ruin, List.forall_mem_cons.mpr ⟨ok_X8_toJoin, List.forall_mem_cons.mpr ⟨ok_X8_shortOf, List.forall_mem_cons.mpr ⟨ok_X8_ifMarried, List.forall_mem_cons.mpr ⟨ok_X8_harm, List.forall_mem_cons.mpr ⟨ok_X8_fills, List.forall_mem_cons.mpr ⟨ok_X8_bestLaw, List.forall_mem_cons.mpr ⟨ok_X8_toSpare, List.forall_mem_cons.mpr ⟨ok_X8_learn, List.forall_mem_cons.mpr ⟨ok_X8_rows, List.forall_mem_cons.mpr ⟨ok_X8_could, List.forall_mem_cons.mpr ⟨ok_X8_surely, List.forall_mem_cons.mpr ⟨ok_X8_ask, List.forall_mem_cons.mpr ⟨ok_X8_askLeaves, List.forall_mem_cons.mpr ⟨ok_X8_surelyTaken, List.forall_mem_cons.mpr ⟨ok_X8_look, List.forall_mem_cons.mpr ⟨ok_X8_believed, List.forall_mem_cons.mpr ⟨ok_X8_wrong, List.forall_mem_cons.mpr ⟨ok_X8_agent, List.forall_mem_cons.mpr ⟨ok_X8_rests, List.forall_mem_cons.mpr ⟨ok_X8_rest, List.forall_mem_cons.mpr ⟨ok_X8_isRest, List.forall_mem_cons.mpr ⟨ok_X8_isBestReply, List.forall_mem_cons.mpr ⟨ok_X8_gain, List.forall_mem_cons.mpr ⟨ok_X8_drafts, List.forall_mem_cons.mpr ⟨ok_X8_sentIn, List.forall_mem_cons.mpr ⟨ok_X8_countDraws, List.forall_mem_cons.mpr ⟨ok_X8_lossIn, List.forall_mem_cons.mpr ⟨ok_X8_levyByDraws, List.forall_mem_cons.mpr ⟨ok_X8_marry, List.forall_mem_cons.mpr ⟨ok_X8_spare, List.forall_mem_cons.mpr ⟨ok_X8_hold, List.forall_mem_cons.mpr ⟨ok_X8_desert, List.forall_mem_cons.mpr ⟨ok_X8_fate, List.forall_mem_cons.mpr ⟨ok_X8_senderOf, List.forall_mem_cons.mpr ⟨ok_X8_lot, fun _ h => absurd h List.not_mem_nil⟩⟩⟩⟩⟩⟩⟩⟩⟩⟩⟩⟩⟩⟩⟩⟩⟩⟩⟩⟩⟩⟩⟩⟩⟩⟩⟩⟩⟩⟩⟩⟩⟩⟩⟩⟩⟩⟩⟩⟩
theorem hd_ms2 : ∀ M ∈ mj_ms2, M ≠ m_L_law → mj_hd M := List.forall_mem_cons.mpr ⟨fun _ => hd_X8_goes, List.forall_mem_cons.mpr ⟨fun _ => hd_X8_goesFor, List.forall_mem_cons.mpr ⟨fun _ => hd_X8_loss, List.forall_mem_cons.mpr ⟨fun _ => hd_X8_club, List.forall_mem_cons.mpr ⟨fun _ => hd_X8_ruin, List.forall_mem_cons.mpr ⟨fun _ => hd_X8_toJoin, List.forall_mem_cons.mpr ⟨fun _ => hd_X8_shortOf, List.forall_mem_cons.mpr ⟨fun _ => hd_X8_ifMarried, List.forall_mem_cons.mpr ⟨fun _ => hd_X8_harm, List.forall_mem_cons.mpr ⟨fun _ => hd_X8_fills, List.forall_mem_cons.mpr ⟨fun _ => hd_X8_bestLaw, List.forall_mem_cons.mpr ⟨fun _ => hd_X8_toSpare, List.forall_mem_cons.mpr ⟨fun _ => hd_X8_learn, List.forall_mem_cons.mpr ⟨fun _ => hd_X8_rows, List.forall_mem_cons.mpr ⟨fun _ => hd_X8_could, List.forall_mem_cons.mpr ⟨fun _ => hd_X8_surely, List.forall_mem_cons.mpr ⟨fun _ => hd_X8_ask, List.forall_mem_cons.mpr ⟨fun _ => hd_X8_askLeaves, List.forall_mem_cons.mpr ⟨fun _ => hd_X8_surelyTaken, List.forall_mem_cons.mpr ⟨fun _ => hd_X8_look, List.forall_mem_cons.mpr ⟨fun _ => hd_X8_believed, List.forall_mem_cons.mpr ⟨fun _ => hd_X8_wrong, List.forall_mem_cons.mpr ⟨fun _ => hd_X8_agent, List.forall_mem_cons.mpr ⟨fun _ => hd_X8_rests, List.forall_mem_cons.mpr ⟨fun _ => hd_X8_rest, List.forall_mem_cons.mpr ⟨fun _ => hd_X8_isRest, List.forall_mem_cons.mpr ⟨fun _ => hd_X8_isBestReply, List.forall_mem_cons.mpr ⟨fun _ => hd_X8_gain, List.forall_mem_cons.mpr ⟨fun _ => hd_X8_drafts, List.forall_mem_cons.mpr ⟨fun _ => hd_X8_sentIn, List.forall_mem_cons.mpr ⟨fun _ => hd_X8_countDraws, List.forall_mem_cons.mpr ⟨fun _ => hd_X8_lossIn, List.forall_mem_cons.mpr ⟨fun _ => hd_X8_levyByDraws, List.forall_mem_cons.mpr ⟨fun _ => hd_X8_marry, List.forall_mem_cons.mpr ⟨fun _ => hd_X8_spare, List.forall_mem_cons.mpr ⟨fun _ => hd_X8_hold, List.forall_mem_cons.mpr ⟨fun _ => hd_X8_desert, List.forall_mem_cons.mpr ⟨fun _ => hd_X8_fate, List.forall_mem_cons.mpr ⟨fun _ => hd_X8_senderOf, List.forall_mem_cons.mpr ⟨fun _ => hd_X8_lot, fun _ h => absurd h List.not_mem_nil⟩⟩⟩⟩⟩⟩⟩⟩⟩⟩⟩⟩⟩⟩⟩⟩⟩⟩⟩⟩⟩⟩⟩⟩⟩⟩⟩⟩⟩⟩⟩⟩⟩⟩⟩⟩⟩⟩⟩⟩
