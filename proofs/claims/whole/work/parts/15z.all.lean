theorem mj_msl : mj_ms.length = 286 := by decide +kernel
theorem mj_mem4 {mid : Nat} {M : mj_M} (h4 : 4 ≤ mid) (h : mj_nth mj_ms mid = some M) : M ∈ mj_ms0 ++ (mj_ms1 ++ (mj_ms2 ++ (mj_ms3 ++ (mj_ms4 ++ (mj_ms5 ++ (mj_ms6 ++ (mj_ms7))))))) := by
  match mid, h4, h with
  | k + 4, _, h => exact mj_nth_mem (n := k) h
theorem mj_allok : ∀ mid M, 4 ≤ mid → mj_nth mj_ms mid = some M → mj_okM M = true := by
  intro mid M h4 h
  rcases List.mem_append.mp (mj_mem4 h4 h) with q | q
  · exact ok_ms0 M q
  · rcases List.mem_append.mp q with q | q
    · exact ok_ms1 M q
    · rcases List.mem_append.mp q with q | q
      · exact ok_ms2 M q
      · rcases List.mem_append.mp q with q | q
        · exact ok_ms3 M q
        · rcases List.mem_append.mp q with q | q
          · exact ok_ms4 M q
          · rcases List.mem_append.mp q with q | q
            · exact ok_ms5 M q
            · rcases List.mem_append.mp q with q | q
              · exact ok_ms6 M q
              · exact ok_ms7 M q
theorem mj_allhd : ∀ mid M, 4 ≤ mid → mj_nth mj_ms mid = some M → mid ≠ 285 → mid ≠ 282 → mid ≠ 283 → mj_hd M := by
  intro mid M h4 h hne hne2 hne3
  have hq : M ≠ m_L_law := by
    intro e
    subst e
    have hlt : mid < 286 := by
      have := mj_nth_lt h
      rw [mj_msl] at this
      exact this
    have : ∀ k, k < 285 → (mj_nth mj_ms k).map mj_nm ≠ some (mj_nm m_L_law) := by decide +kernel
    exact this mid (by omega) (by rw [h]; rfl)
  have hq2 : M ≠ m_J9_max := by
    intro e
    subst e
    have hlt : mid < 286 := by
      have := mj_nth_lt h
      rw [mj_msl] at this
      exact this
    have : ∀ k, k < 286 → k ≠ 282 → (mj_nth mj_ms k).map mj_nm ≠ some (mj_nm m_J9_max) := by decide +kernel
    exact this mid hlt (by omega) (by rw [h]; rfl)
  have hq3 : M ≠ m_J9_min := by
    intro e
    subst e
    have hlt : mid < 286 := by
      have := mj_nth_lt h
      rw [mj_msl] at this
      exact this
    have : ∀ k, k < 286 → k ≠ 283 → (mj_nth mj_ms k).map mj_nm ≠ some (mj_nm m_J9_min) := by decide +kernel
    exact this mid hlt (by omega) (by rw [h]; rfl)
  rcases List.mem_append.mp (mj_mem4 h4 h) with q | q
  · exact hd_ms0 M q hq
  · rcases List.mem_append.mp q with q | q
    · exact hd_ms1 M q hq
    · rcases List.mem_append.mp q with q | q
      · exact hd_ms2 M q hq
      · rcases List.mem_append.mp q with q | q
        · exact hd_ms3 M q hq
        · rcases List.mem_append.mp q with q | q
          · exact hd_ms4 M q hq
          · rcases List.mem_append.mp q with q | q
            · exact hd_ms5 M q hq
            · rcases List.mem_append.mp q with q | q
              · exact hd_ms6 M q hq hq2 hq3
              · exact hd_ms7 M q hq
theorem mj_allpl : ∀ mid M, 4 ≤ mid → mid ≠ 282 → mid ≠ 283 → mj_nth mj_ms mid = some M → plainName (mj_nm M).cls = true := by
  intro mid M h4 z2 z3 h
  by_cases e : mid = 285
  · subst e
    cases h
    decide +kernel
  · exact (mj_allhd mid M h4 h e z2 z3).2.2.2.1
