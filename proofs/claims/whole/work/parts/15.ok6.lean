theorem ok_X10_isTold : mj_okM m_X10_isTold = true := by decide +kernel
theorem hd_X10_isTold : mj_hd m_X10_isTold := ⟨List.mem_of_getElem? (i := 1737) (by decide +kernel), List.mem_of_getElem? (i := 113) (by decide +kernel), ⟨by decide +kernel, by decide +kernel⟩, by decide +kernel, by decide +kernel⟩
theorem ok_X10_couldBe : mj_okM m_X10_couldBe = true := by decide +kernel
theorem hd_X10_couldBe : mj_hd m_X10_couldBe := ⟨List.mem_of_getElem? (i := 1741) (by decide +kernel), List.mem_of_getElem? (i := 113) (by decide +kernel), ⟨by decide +kernel, by decide +kernel⟩, by decide +kernel, by decide +kernel⟩
theorem ok_X10_could : mj_okM m_X10_could = true := by decide +kernel
theorem hd_X10_could : mj_hd m_X10_could := ⟨List.mem_of_getElem? (i := 1733) (by decide +kernel), List.mem_of_getElem? (i := 113) (by decide +kernel), ⟨by decide +kernel, by decide +kernel⟩, by decide +kernel, by decide +kernel⟩
theorem ok_X10_surely : mj_okM m_X10_surely = true := by decide +kernel
theorem hd_X10_surely : mj_hd m_X10_surely := ⟨List.mem_of_getElem? (i := 1745) (by decide +kernel), List.mem_of_getElem? (i := 113) (by decide +kernel), ⟨by decide +kernel, by decide +kernel⟩, by decide +kernel, by decide +kernel⟩
theorem ok_X10_toAsk : mj_okM m_X10_toAsk = true := by decide +kernel
theorem hd_X10_toAsk : mj_hd m_X10_toAsk := ⟨List.mem_of_getElem? (i := 1753) (by decide +kernel), List.mem_of_getElem? (i := 113) (by decide +kernel), ⟨by decide +kernel, by decide +kernel⟩, by decide +kernel, by decide +kernel⟩
theorem ok_X10_ask : mj_okM m_X10_ask = true := by decide +kernel
theorem hd_X10_ask : mj_hd m_X10_ask := ⟨List.mem_of_getElem? (i := 1749) (by decide +kernel), List.mem_of_getElem? (i := 113) (by decide +kernel), ⟨by decide +kernel, by decide +kernel⟩, by decide +kernel, by decide +kernel⟩
theorem ok_X10_askLeaves : mj_okM m_X10_askLeaves = true := by decide +kernel
theorem hd_X10_askLeaves : mj_hd m_X10_askLeaves := ⟨List.mem_of_getElem? (i := 1757) (by decide +kernel), List.mem_of_getElem? (i := 113) (by decide +kernel), ⟨by decide +kernel, by decide +kernel⟩, by decide +kernel, by decide +kernel⟩
theorem ok_X10_surelyTaken : mj_okM m_X10_surelyTaken = true := by decide +kernel
theorem hd_X10_surelyTaken : mj_hd m_X10_surelyTaken := ⟨List.mem_of_getElem? (i := 1761) (by decide +kernel), List.mem_of_getElem? (i := 113) (by decide +kernel), ⟨by decide +kernel, by decide +kernel⟩, by decide +kernel, by decide +kernel⟩
theorem ok_X10_refusesDoctor : mj_okM m_X10_refusesDoctor = true := by decide +kernel
theorem hd_X10_refusesDoctor : mj_hd m_X10_refusesDoctor := ⟨List.mem_of_getElem? (i := 1769) (by decide +kernel), List.mem_of_getElem? (i := 113) (by decide +kernel), ⟨by decide +kernel, by decide +kernel⟩, by decide +kernel, by decide +kernel⟩
theorem ok_X10_believed : mj_okM m_X10_believed = true := by decide +kernel
theorem hd_X10_believed : mj_hd m_X10_believed := ⟨List.mem_of_getElem? (i := 1765) (by decide +kernel), List.mem_of_getElem? (i := 113) (by decide +kernel), ⟨by decide +kernel, by decide +kernel⟩, by decide +kernel, by decide +kernel⟩
theorem ok_X10_wrong : mj_okM m_X10_wrong = true := by decide +kernel
theorem hd_X10_wrong : mj_hd m_X10_wrong := ⟨List.mem_of_getElem? (i := 1773) (by decide +kernel), List.mem_of_getElem? (i := 113) (by decide +kernel), ⟨by decide +kernel, by decide +kernel⟩, by decide +kernel, by decide +kernel⟩
theorem ok_X10_least : mj_okM m_X10_least = true := by decide +kernel
theorem hd_X10_least : mj_hd m_X10_least := ⟨List.mem_of_getElem? (i := 1792) (by decide +kernel), List.mem_of_getElem? (i := 113) (by decide +kernel), ⟨by decide +kernel, by decide +kernel⟩, by decide +kernel, by decide +kernel⟩
theorem ok_X10_gets : mj_okM m_X10_gets = true := by decide +kernel
theorem hd_X10_gets : mj_hd m_X10_gets := ⟨List.mem_of_getElem? (i := 1789) (by decide +kernel), List.mem_of_getElem? (i := 113) (by decide +kernel), ⟨by decide +kernel, by decide +kernel⟩, by decide +kernel, by decide +kernel⟩
theorem ok_X10_refusesMany : mj_okM m_X10_refusesMany = true := by decide +kernel
theorem hd_X10_refusesMany : mj_hd m_X10_refusesMany := ⟨List.mem_of_getElem? (i := 1782) (by decide +kernel), List.mem_of_getElem? (i := 113) (by decide +kernel), ⟨by decide +kernel, by decide +kernel⟩, by decide +kernel, by decide +kernel⟩
theorem ok_X10_agent : mj_okM m_X10_agent = true := by decide +kernel
theorem hd_X10_agent : mj_hd m_X10_agent := ⟨List.mem_of_getElem? (i := 1778) (by decide +kernel), List.mem_of_getElem? (i := 113) (by decide +kernel), ⟨by decide +kernel, by decide +kernel⟩, by decide +kernel, by decide +kernel⟩
theorem ok_X10_isRest : mj_okM m_X10_isRest = true := by decide +kernel
theorem hd_X10_isRest : mj_hd m_X10_isRest := ⟨List.mem_of_getElem? (i := 1799) (by decide +kernel), List.mem_of_getElem? (i := 113) (by decide +kernel), ⟨by decide +kernel, by decide +kernel⟩, by decide +kernel, by decide +kernel⟩
theorem ok_X10_rests : mj_okM m_X10_rests = true := by decide +kernel
theorem hd_X10_rests : mj_hd m_X10_rests := ⟨List.mem_of_getElem? (i := 1796) (by decide +kernel), List.mem_of_getElem? (i := 113) (by decide +kernel), ⟨by decide +kernel, by decide +kernel⟩, by decide +kernel, by decide +kernel⟩
theorem ok_X10_rest : mj_okM m_X10_rest = true := by decide +kernel
theorem hd_X10_rest : mj_hd m_X10_rest := ⟨List.mem_of_getElem? (i := 1803) (by decide +kernel), List.mem_of_getElem? (i := 113) (by decide +kernel), ⟨by decide +kernel, by decide +kernel⟩, by decide +kernel, by decide +kernel⟩
theorem ok_X10_drawsRow : mj_okM m_X10_drawsRow = true := by decide +kernel
theorem hd_X10_drawsRow : mj_hd m_X10_drawsRow := ⟨List.mem_of_getElem? (i := 1816) (by decide +kernel), List.mem_of_getElem? (i := 113) (by decide +kernel), ⟨by decide +kernel, by decide +kernel⟩, by decide +kernel, by decide +kernel⟩
theorem ok_X10_refusesDrafts : mj_okM m_X10_refusesDrafts = true := by decide +kernel
theorem hd_X10_refusesDrafts : mj_hd m_X10_refusesDrafts := ⟨List.mem_of_getElem? (i := 1811) (by decide +kernel), List.mem_of_getElem? (i := 113) (by decide +kernel), ⟨by decide +kernel, by decide +kernel⟩, by decide +kernel, by decide +kernel⟩
theorem ok_X10_drafts : mj_okM m_X10_drafts = true := by decide +kernel
theorem hd_X10_drafts : mj_hd m_X10_drafts := ⟨List.mem_of_getElem? (i := 1807) (by decide +kernel), List.mem_of_getElem? (i := 113) (by decide +kernel), ⟨by decide +kernel, by decide +kernel⟩, by decide +kernel, by decide +kernel⟩
theorem ok_X10_sentIn : mj_okM m_X10_sentIn = true := by decide +kernel
theorem hd_X10_sentIn : mj_hd m_X10_sentIn := ⟨List.mem_of_getElem? (i := 1823) (by decide +kernel), List.mem_of_getElem? (i := 113) (by decide +kernel), ⟨by decide +kernel, by decide +kernel⟩, by decide +kernel, by decide +kernel⟩
theorem ok_X10_lossIn : mj_okM m_X10_lossIn = true := by decide +kernel
theorem hd_X10_lossIn : mj_hd m_X10_lossIn := ⟨List.mem_of_getElem? (i := 1827) (by decide +kernel), List.mem_of_getElem? (i := 113) (by decide +kernel), ⟨by decide +kernel, by decide +kernel⟩, by decide +kernel, by decide +kernel⟩
theorem ok_X10_remembers : mj_okM m_X10_remembers = true := by decide +kernel
theorem hd_X10_remembers : mj_hd m_X10_remembers := ⟨List.mem_of_getElem? (i := 1839) (by decide +kernel), List.mem_of_getElem? (i := 113) (by decide +kernel), ⟨by decide +kernel, by decide +kernel⟩, by decide +kernel, by decide +kernel⟩
theorem ok_X10_marry : mj_okM m_X10_marry = true := by decide +kernel
theorem hd_X10_marry : mj_hd m_X10_marry := ⟨List.mem_of_getElem? (i := 1831) (by decide +kernel), List.mem_of_getElem? (i := 113) (by decide +kernel), ⟨by decide +kernel, by decide +kernel⟩, by decide +kernel, by decide +kernel⟩
theorem ok_X10_spare : mj_okM m_X10_spare = true := by decide +kernel
theorem hd_X10_spare : mj_hd m_X10_spare := ⟨List.mem_of_getElem? (i := 1847) (by decide +kernel), List.mem_of_getElem? (i := 113) (by decide +kernel), ⟨by decide +kernel, by decide +kernel⟩, by decide +kernel, by decide +kernel⟩
theorem ok_X10_hold : mj_okM m_X10_hold = true := by decide +kernel
theorem hd_X10_hold : mj_hd m_X10_hold := ⟨List.mem_of_getElem? (i := 1851) (by decide +kernel), List.mem_of_getElem? (i := 113) (by decide +kernel), ⟨by decide +kernel, by decide +kernel⟩, by decide +kernel, by decide +kernel⟩
theorem ok_X10_desert : mj_okM m_X10_desert = true := by decide +kernel
theorem hd_X10_desert : mj_hd m_X10_desert := ⟨List.mem_of_getElem? (i := 1855) (by decide +kernel), List.mem_of_getElem? (i := 113) (by decide +kernel), ⟨by decide +kernel, by decide +kernel⟩, by decide +kernel, by decide +kernel⟩
theorem ok_X10_fateOf : mj_okM m_X10_fateOf = true := by decide +kernel
theorem hd_X10_fateOf : mj_hd m_X10_fateOf := ⟨List.mem_of_getElem? (i := 1863) (by decide +kernel), List.mem_of_getElem? (i := 113) (by decide +kernel), ⟨by decide +kernel, by decide +kernel⟩, by decide +kernel, by decide +kernel⟩
theorem ok_X10_fate : mj_okM m_X10_fate = true := by decide +kernel
theorem hd_X10_fate : mj_hd m_X10_fate := ⟨List.mem_of_getElem? (i := 1859) (by decide +kernel), List.mem_of_getElem? (i := 113) (by decide +kernel), ⟨by decide +kernel, by decide +kernel⟩, by decide +kernel, by decide +kernel⟩
theorem ok_X10_lot : mj_okM m_X10_lot = true := by decide +kernel
theorem hd_X10_lot : mj_hd m_X10_lot := ⟨List.mem_of_getElem? (i := 1867) (by decide +kernel), List.mem_of_getElem? (i := 113) (by decide +kernel), ⟨by decide +kernel, by decide +kernel⟩, by decide +kernel, by decide +kernel⟩
theorem ok_X10_seed : mj_okM m_X10_seed = true := by decide +kernel
theorem hd_X10_seed : mj_hd m_X10_seed := ⟨List.mem_of_getElem? (i := 1871) (by decide +kernel), List.mem_of_getElem? (i := 113) (by decide +kernel), ⟨by decide +kernel, by decide +kernel⟩, by decide +kernel, by decide +kernel⟩
theorem ok_X10_undo : mj_okM m_X10_undo = true := by decide +kernel
theorem hd_X10_undo : mj_hd m_X10_undo := ⟨List.mem_of_getElem? (i := 1875) (by decide +kernel), List.mem_of_getElem? (i := 113) (by decide +kernel), ⟨by decide +kernel, by decide +kernel⟩, by decide +kernel, by decide +kernel⟩
theorem ok_X10_image : mj_okM m_X10_image = true := by decide +kernel
theorem hd_X10_image : mj_hd m_X10_image := ⟨List.mem_of_getElem? (i := 1879) (by decide +kernel), List.mem_of_getElem? (i := 113) (by decide +kernel), ⟨by decide +kernel, by decide +kernel⟩, by decide +kernel, by decide +kernel⟩
theorem ok_X10_back : mj_okM m_X10_back = true := by decide +kernel
theorem hd_X10_back : mj_hd m_X10_back := ⟨List.mem_of_getElem? (i := 1883) (by decide +kernel), List.mem_of_getElem? (i := 113) (by decide +kernel), ⟨by decide +kernel, by decide +kernel⟩, by decide +kernel, by decide +kernel⟩
theorem ok_X10_led : mj_okM m_X10_led = true := by decide +kernel
theorem hd_X10_led : mj_hd m_X10_led := ⟨List.mem_of_getElem? (i := 1887) (by decide +kernel), List.mem_of_getElem? (i := 113) (by decide +kernel), ⟨by decide +kernel, by decide +kernel⟩, by decide +kernel, by decide +kernel⟩
theorem ok_X10_size : mj_okM m_X10_size = true := by decide +kernel
theorem hd_X10_size : mj_hd m_X10_size := ⟨List.mem_of_getElem? (i := 1891) (by decide +kernel), List.mem_of_getElem? (i := 113) (by decide +kernel), ⟨by decide +kernel, by decide +kernel⟩, by decide +kernel, by decide +kernel⟩
theorem ok_X10_trouble : mj_okM m_X10_trouble = true := by decide +kernel
theorem hd_X10_trouble : mj_hd m_X10_trouble := ⟨List.mem_of_getElem? (i := 1895) (by decide +kernel), List.mem_of_getElem? (i := 113) (by decide +kernel), ⟨by decide +kernel, by decide +kernel⟩, by decide +kernel, by decide +kernel⟩
theorem ok_J9_max : mj_okM m_J9_max = true := by decide +kernel
theorem ok_J9_min : mj_okM m_J9_min = true := by decide +kernel
theorem ok_ms6 : ∀ M ∈ mj_ms6, mj_okM M = true := List.forall_mem_cons.mpr ⟨ok_X10_isTold, List.forall_mem_cons.mpr ⟨ok_X10_couldBe, List.forall_mem_cons.mpr ⟨ok_X10_could, List.forall_mem_cons.mpr ⟨ok_X10_surely, List.forall_mem_cons.mpr ⟨ok_X10_toAsk, List.forall_mem_cons.mpr ⟨ok_X10_ask, List.forall_mem_cons.mpr ⟨ok_X10_askLeaves, List.forall_mem_cons.mpr ⟨ok_X10_surelyTaken, List.forall_mem_cons.mpr ⟨ok_X10_refusesDoctor, List.forall_mem_cons.mpr ⟨ok_X10_believed, List.forall_mem_cons.mpr ⟨ok_X10_wrong, List.forall_mem_cons.mpr ⟨ok_X10_least, List.forall_mem_cons.mpr ⟨ok_X10_gets, List.forall_mem_cons.mpr ⟨ok_X10_refusesMany, List.forall_mem_cons.mpr ⟨ok_X10_agent, List.forall_mem_cons.mpr ⟨ok_X10_isRest, List.forall_mem_cons.mpr ⟨ok_X10_rests, List.forall_mem_cons.mpr ⟨ok_X10_rest, List.forall_mem_cons.mpr ⟨ok_X10_drawsRow, List.forall_mem_cons.mpr ⟨ok_X10_refusesDrafts, List.forall_mem_cons.mpr ⟨ok_X10_drafts, List.forall_mem_cons.mpr ⟨ok_X10_sentIn, List.forall_mem_cons.mpr ⟨ok_X10_lossIn, List.forall_mem_cons.mpr ⟨ok_X10_remembers, List.forall_mem_cons.mpr ⟨ok_X10_marry, List.forall_mem_cons.mpr ⟨ok_X10_spare, List.forall_mem_cons.mpr ⟨ok_X10_hold, List.forall_mem_cons.mpr ⟨ok_X10_desert, List.forall_mem_cons.mpr ⟨ok_X10_fateOf, List.forall_mem_cons.mpr ⟨ok_X10_fate, List.forall_mem_cons.mpr ⟨ok_X10_lot, List.forall_mem_cons.mpr ⟨ok_X10_seed, List.forall_mem_cons.mpr ⟨ok_X10_undo, List.forall_mem_cons.mpr ⟨ok_X10_image, List.forall_mem_cons.mpr ⟨ok_X10_back, List.forall_mem_cons.mpr ⟨ok_X10_led, List.forall_mem_cons.mpr ⟨ok_X10_size, List.forall_mem_cons.mpr ⟨ok_X10_trouble, List.forall_mem_cons.mpr ⟨ok_J9_max, List.forall_mem_cons.mpr ⟨ok_J9_min, fun _ h => absurd h List.not_mem_nil⟩⟩⟩⟩⟩⟩⟩⟩⟩⟩⟩⟩⟩⟩⟩⟩⟩⟩⟩⟩⟩⟩⟩⟩⟩⟩⟩⟩⟩⟩⟩⟩⟩⟩⟩⟩⟩⟩⟩⟩
theorem hd_ms6 : ∀ M ∈ mj_ms6, M ≠ m_L_law → M ≠ m_J9_max → M ≠ m_J9_min → mj_hd M := List.forall_mem_cons.mpr ⟨fun _ _ _ => hd_X10_isTold, List.forall_mem_cons.mpr ⟨fun _ _ _ => hd_X10_couldBe, List.forall_mem_cons.mpr ⟨fun _ _ _ => hd_X10_could, List.forall_mem_cons.mpr ⟨fun _ _ _ => hd_X10_surely, List.forall_mem_cons.mpr ⟨fun _ _ _ => hd_X10_toAsk, List.forall_mem_cons.mpr ⟨fun _ _ _ => hd_X10_ask, List.forall_mem_cons.mpr ⟨fun _ _ _ => hd_X10_askLeaves, List.forall_mem_cons.mpr ⟨fun _ _ _ => hd_X10_surelyTaken, List.forall_mem_cons.mpr ⟨fun _ _ _ => hd_X10_refusesDoctor, List.forall_mem_cons.mpr ⟨fun _ _ _ => hd_X10_believed, List.forall_mem_cons.mpr ⟨fun _ _ _ => hd_X10_wrong, List.forall_mem_cons.mpr ⟨fun _ _ _ => hd_X10_least, List.forall_mem_cons.mpr ⟨fun _ _ _ => hd_X10_gets, List.forall_mem_cons.mpr ⟨fun _ _ _ => hd_X10_refusesMany, List.forall_mem_cons.mpr ⟨fun _ _ _ => hd_X10_agent, List.forall_mem_cons.mpr ⟨fun _ _ _ => hd_X10_isRest, List.forall_mem_cons.mpr ⟨fun _ _ _ => hd_X10_rests, List.forall_mem_cons.mpr ⟨fun _ _ _ => hd_X10_rest, List.forall_mem_cons.mpr ⟨fun _ _ _ => hd_X10_drawsRow, List.forall_mem_cons.mpr ⟨fun _ _ _ => hd_X10_refusesDrafts, List.forall_mem_cons.mpr ⟨fun _ _ _ => hd_X10_drafts, List.forall_mem_cons.mpr ⟨fun _ _ _ => hd_X10_sentIn, List.forall_mem_cons.mpr ⟨fun _ _ _ => hd_X10_lossIn, List.forall_mem_cons.mpr ⟨fun _ _ _ => hd_X10_remembers, List.forall_mem_cons.mpr ⟨fun _ _ _ => hd_X10_marry, List.forall_mem_cons.mpr ⟨fun _ _ _ => hd_X10_spare, List.forall_mem_cons.mpr ⟨fun _ _ _ => hd_X10_hold, List.forall_mem_cons.mpr ⟨fun _ _ _ => hd_X10_desert, List.forall_mem_cons.mpr ⟨fun _ _ _ => hd_X10_fateOf, List.forall_mem_cons.mpr ⟨fun _ _ _ => hd_X10_fate, List.forall_mem_cons.mpr ⟨fun _ _ _ => hd_X10_lot, List.forall_mem_cons.mpr ⟨fun _ _ _ => hd_X10_seed, List.forall_mem_cons.mpr ⟨fun _ _ _ => hd_X10_undo, List.forall_mem_cons.mpr ⟨fun _ _ _ => hd_X10_image, List.forall_mem_cons.mpr ⟨fun _ _ _ => hd_X10_back, List.forall_mem_cons.mpr ⟨fun _ _ _ => hd_X10_led, List.forall_mem_cons.mpr ⟨fun _ _ _ => hd_X10_size, List.forall_mem_cons.mpr ⟨fun _ _ _ => hd_X10_trouble, List.forall_mem_cons.mpr ⟨fun _ z _ => absurd rfl z, List.forall_mem_cons.mpr ⟨fun _ _ z => absurd rfl z, fun _ h => absurd h List.not_mem_nil⟩⟩⟩⟩⟩⟩⟩⟩⟩⟩⟩⟩⟩⟩⟩⟩⟩⟩⟩⟩⟩⟩⟩⟩⟩⟩⟩⟩⟩⟩⟩⟩⟩⟩⟩⟩⟩⟩⟩⟩
