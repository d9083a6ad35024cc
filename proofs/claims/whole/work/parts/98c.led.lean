/-! led: both sides find the same man -/
theorem led_eq {Bd n : Nat} {H : HN} {V : Nat → Int32} {FR : Nat → Option Nat} (hv : hyv Bd n H V FR) (hn : n ≤ 6) (i : Int32) : ldr (gnZ true H) i 6 0 0 = mldr (fun m => decide (mfte n (H.1 3) FR m % 2 = 1)) i n 0 0 := by
  obtain ⟨b1, b2, b3, b4, b5, b6, b7, b8, b9, b10⟩ := hv
  refine ldr_mldr (n := n) (fun m hm => ?_) (fun m hm => ?_) n 6 0 0 (Nat.zero_add n) hn
  · show (gng (H.1 3) H.2.2 6).testBit m = _
    rw [fte_odd b10 hn, fte_mfte b10 b8 b9 hm]
  · show (gng (H.1 3) H.2.2 6).testBit m = false
    rw [gng_gos b10 hn]
    by_cases e : (H.1 3).testBit m = true
    · have := b10.2.2 m e
      omega
    · rw [if_neg e]
      cases hs : sdr H.2.2 m n 0 with
      | none => rfl
      | some z =>
        have := (b10.1 z m ((gI_sdr b10).mp hs)).2.1
        omega
theorem led_u {H : HN} (i : Int32) : ldr (gnZ false H) i 6 0 0 = none := by
  show ldr 0 i 6 0 0 = none
  exact ldr_none (n := 0) (fun m _ => Nat.zero_testBit m) 6 0 0 (Nat.le_refl 0)
