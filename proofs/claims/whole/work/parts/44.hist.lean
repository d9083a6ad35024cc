/-! Kept, over all its cells -/
abbrev HN : Type := (Nat → Nat) × (Nat → Nat → Nat) × (Nat → Option Nat)
abbrev nvH (c : Nat) (H : HN) : mj_W := nv c H.1 H.2.1 H.2.2
abbrev mkN (H : HN) : mj_N := ((nI (H.1 0), nI (H.1 1), nI (H.1 2), nI (H.1 3)), H.2.1 0, H.2.1 1, H.2.1 2, H.2.2)
abbrev kv (rg pa : Nat → Option Nat) (x a im : Nat) (R P : Nat → HN) : mj_W := [(29, .inr (2, kob (nI x) (nI a) (nI im))), (30, ar 16 rg), (31, ar 3 pa)] ++ nvH 32 (R 0) ++ nvH 37 (R 1) ++ nvH 42 (R 2) ++ nvH 47 (R 3) ++ nvH 52 (R 4) ++ nvH 57 (R 5) ++ nvH 62 (R 6) ++ nvH 67 (R 7) ++ nvH 72 (R 8) ++ nvH 77 (R 9) ++ nvH 82 (R 10) ++ nvH 87 (R 11) ++ nvH 92 (R 12) ++ nvH 97 (R 13) ++ nvH 102 (R 14) ++ nvH 107 (R 15) ++ nvH 112 (P 0) ++ nvH 117 (P 1) ++ nvH 122 (P 2)
def okK (rg pa : Nat → Option Nat) : Prop := (∀ i, i < 16 → rg i = some (32 + 5 * i)) ∧ ∀ i, i < 3 → pa i = some (112 + 5 * i)
section Hist
variable (sta : mj_S) (d x a im : Nat) (rg pa : Nat → Option Nat) (R P : Nat → HN) (H : HN)
theorem s_keepK (hx : x < 16) (ha : a ≤ 16) (hk : okK rg pa) : mj_Sx sta (d + 2) 21 [.ref 29, .ref 19] (kv rg pa x a im R P ++ nvH 19 H) (fun v w => v = none ∧ w = kv rg pa ((x + 1) % 16) (min (a + 1) 16) im (va_up R x H) P ++ nvH 19 H) := by
  have hc : x = 0 ∨ x = 1 ∨ x = 2 ∨ x = 3 ∨ x = 4 ∨ x = 5 ∨ x = 6 ∨ x = 7 ∨ x = 8 ∨ x = 9 ∨ x = 10 ∨ x = 11 ∨ x = 12 ∨ x = 13 ∨ x = 14 ∨ x = 15 := by omega
  rcases hc with rfl | rfl | rfl | rfl | rfl | rfl | rfl | rfl | rfl | rfl | rfl | rfl | rfl | rfl | rfl | rfl
  · refine mj_Sx.post (mj_Sx.fr (w := kv rg pa 0 a im R P ++ nvH 19 H) [0, 1, 3, 4, 5, 6, 7, 98, 99, 100, 101, 102] (s_keep sta d 0 a (nI im) rg (mkN H) (mkN (R 0)) (by decide) ha (hk.1 0 (by decide))) rfl rfl (by decide)) (fun v w' hp hk => ?_)
    obtain ⟨wc', ⟨rfl, rfl⟩, -, rfl⟩ := hp
    exact ⟨rfl, rfl⟩
  · refine mj_Sx.post (mj_Sx.fr (w := kv rg pa 1 a im R P ++ nvH 19 H) [0, 1, 8, 9, 10, 11, 12, 98, 99, 100, 101, 102] (s_keep sta d 1 a (nI im) rg (mkN H) (mkN (R 1)) (by decide) ha (hk.1 1 (by decide))) rfl rfl (by decide)) (fun v w' hp hk => ?_)
    obtain ⟨wc', ⟨rfl, rfl⟩, -, rfl⟩ := hp
    exact ⟨rfl, rfl⟩
  · refine mj_Sx.post (mj_Sx.fr (w := kv rg pa 2 a im R P ++ nvH 19 H) [0, 1, 13, 14, 15, 16, 17, 98, 99, 100, 101, 102] (s_keep sta d 2 a (nI im) rg (mkN H) (mkN (R 2)) (by decide) ha (hk.1 2 (by decide))) rfl rfl (by decide)) (fun v w' hp hk => ?_)
    obtain ⟨wc', ⟨rfl, rfl⟩, -, rfl⟩ := hp
    exact ⟨rfl, rfl⟩
  · refine mj_Sx.post (mj_Sx.fr (w := kv rg pa 3 a im R P ++ nvH 19 H) [0, 1, 18, 19, 20, 21, 22, 98, 99, 100, 101, 102] (s_keep sta d 3 a (nI im) rg (mkN H) (mkN (R 3)) (by decide) ha (hk.1 3 (by decide))) rfl rfl (by decide)) (fun v w' hp hk => ?_)
    obtain ⟨wc', ⟨rfl, rfl⟩, -, rfl⟩ := hp
    exact ⟨rfl, rfl⟩
  · refine mj_Sx.post (mj_Sx.fr (w := kv rg pa 4 a im R P ++ nvH 19 H) [0, 1, 23, 24, 25, 26, 27, 98, 99, 100, 101, 102] (s_keep sta d 4 a (nI im) rg (mkN H) (mkN (R 4)) (by decide) ha (hk.1 4 (by decide))) rfl rfl (by decide)) (fun v w' hp hk => ?_)
    obtain ⟨wc', ⟨rfl, rfl⟩, -, rfl⟩ := hp
    exact ⟨rfl, rfl⟩
  · refine mj_Sx.post (mj_Sx.fr (w := kv rg pa 5 a im R P ++ nvH 19 H) [0, 1, 28, 29, 30, 31, 32, 98, 99, 100, 101, 102] (s_keep sta d 5 a (nI im) rg (mkN H) (mkN (R 5)) (by decide) ha (hk.1 5 (by decide))) rfl rfl (by decide)) (fun v w' hp hk => ?_)
    obtain ⟨wc', ⟨rfl, rfl⟩, -, rfl⟩ := hp
    exact ⟨rfl, rfl⟩
  · refine mj_Sx.post (mj_Sx.fr (w := kv rg pa 6 a im R P ++ nvH 19 H) [0, 1, 33, 34, 35, 36, 37, 98, 99, 100, 101, 102] (s_keep sta d 6 a (nI im) rg (mkN H) (mkN (R 6)) (by decide) ha (hk.1 6 (by decide))) rfl rfl (by decide)) (fun v w' hp hk => ?_)
    obtain ⟨wc', ⟨rfl, rfl⟩, -, rfl⟩ := hp
    exact ⟨rfl, rfl⟩
  · refine mj_Sx.post (mj_Sx.fr (w := kv rg pa 7 a im R P ++ nvH 19 H) [0, 1, 38, 39, 40, 41, 42, 98, 99, 100, 101, 102] (s_keep sta d 7 a (nI im) rg (mkN H) (mkN (R 7)) (by decide) ha (hk.1 7 (by decide))) rfl rfl (by decide)) (fun v w' hp hk => ?_)
    obtain ⟨wc', ⟨rfl, rfl⟩, -, rfl⟩ := hp
    exact ⟨rfl, rfl⟩
  · refine mj_Sx.post (mj_Sx.fr (w := kv rg pa 8 a im R P ++ nvH 19 H) [0, 1, 43, 44, 45, 46, 47, 98, 99, 100, 101, 102] (s_keep sta d 8 a (nI im) rg (mkN H) (mkN (R 8)) (by decide) ha (hk.1 8 (by decide))) rfl rfl (by decide)) (fun v w' hp hk => ?_)
    obtain ⟨wc', ⟨rfl, rfl⟩, -, rfl⟩ := hp
    exact ⟨rfl, rfl⟩
  · refine mj_Sx.post (mj_Sx.fr (w := kv rg pa 9 a im R P ++ nvH 19 H) [0, 1, 48, 49, 50, 51, 52, 98, 99, 100, 101, 102] (s_keep sta d 9 a (nI im) rg (mkN H) (mkN (R 9)) (by decide) ha (hk.1 9 (by decide))) rfl rfl (by decide)) (fun v w' hp hk => ?_)
    obtain ⟨wc', ⟨rfl, rfl⟩, -, rfl⟩ := hp
    exact ⟨rfl, rfl⟩
  · refine mj_Sx.post (mj_Sx.fr (w := kv rg pa 10 a im R P ++ nvH 19 H) [0, 1, 53, 54, 55, 56, 57, 98, 99, 100, 101, 102] (s_keep sta d 10 a (nI im) rg (mkN H) (mkN (R 10)) (by decide) ha (hk.1 10 (by decide))) rfl rfl (by decide)) (fun v w' hp hk => ?_)
    obtain ⟨wc', ⟨rfl, rfl⟩, -, rfl⟩ := hp
    exact ⟨rfl, rfl⟩
  · refine mj_Sx.post (mj_Sx.fr (w := kv rg pa 11 a im R P ++ nvH 19 H) [0, 1, 58, 59, 60, 61, 62, 98, 99, 100, 101, 102] (s_keep sta d 11 a (nI im) rg (mkN H) (mkN (R 11)) (by decide) ha (hk.1 11 (by decide))) rfl rfl (by decide)) (fun v w' hp hk => ?_)
    obtain ⟨wc', ⟨rfl, rfl⟩, -, rfl⟩ := hp
    exact ⟨rfl, rfl⟩
  · refine mj_Sx.post (mj_Sx.fr (w := kv rg pa 12 a im R P ++ nvH 19 H) [0, 1, 63, 64, 65, 66, 67, 98, 99, 100, 101, 102] (s_keep sta d 12 a (nI im) rg (mkN H) (mkN (R 12)) (by decide) ha (hk.1 12 (by decide))) rfl rfl (by decide)) (fun v w' hp hk => ?_)
    obtain ⟨wc', ⟨rfl, rfl⟩, -, rfl⟩ := hp
    exact ⟨rfl, rfl⟩
  · refine mj_Sx.post (mj_Sx.fr (w := kv rg pa 13 a im R P ++ nvH 19 H) [0, 1, 68, 69, 70, 71, 72, 98, 99, 100, 101, 102] (s_keep sta d 13 a (nI im) rg (mkN H) (mkN (R 13)) (by decide) ha (hk.1 13 (by decide))) rfl rfl (by decide)) (fun v w' hp hk => ?_)
    obtain ⟨wc', ⟨rfl, rfl⟩, -, rfl⟩ := hp
    exact ⟨rfl, rfl⟩
  · refine mj_Sx.post (mj_Sx.fr (w := kv rg pa 14 a im R P ++ nvH 19 H) [0, 1, 73, 74, 75, 76, 77, 98, 99, 100, 101, 102] (s_keep sta d 14 a (nI im) rg (mkN H) (mkN (R 14)) (by decide) ha (hk.1 14 (by decide))) rfl rfl (by decide)) (fun v w' hp hk => ?_)
    obtain ⟨wc', ⟨rfl, rfl⟩, -, rfl⟩ := hp
    exact ⟨rfl, rfl⟩
  · refine mj_Sx.post (mj_Sx.fr (w := kv rg pa 15 a im R P ++ nvH 19 H) [0, 1, 78, 79, 80, 81, 82, 98, 99, 100, 101, 102] (s_keep sta d 15 a (nI im) rg (mkN H) (mkN (R 15)) (by decide) ha (hk.1 15 (by decide))) rfl rfl (by decide)) (fun v w' hp hk => ?_)
    obtain ⟨wc', ⟨rfl, rfl⟩, -, rfl⟩ := hp
    exact ⟨rfl, rfl⟩
theorem s_takeBackK (hx : x < 16) (ha : a < 16) (hk : okK rg pa) : mj_Sx sta (d + 2) 22 [.ref 29, .ref 19] (kv rg pa x (a + 1) im R P ++ nvH 19 H) (fun v w => v = some (.int 1) ∧ w = kv rg pa ((x + 15) % 16) a im R P ++ nvH 19 (R ((x + 15) % 16))) := by
  have hc : x = 0 ∨ x = 1 ∨ x = 2 ∨ x = 3 ∨ x = 4 ∨ x = 5 ∨ x = 6 ∨ x = 7 ∨ x = 8 ∨ x = 9 ∨ x = 10 ∨ x = 11 ∨ x = 12 ∨ x = 13 ∨ x = 14 ∨ x = 15 := by omega
  rcases hc with rfl | rfl | rfl | rfl | rfl | rfl | rfl | rfl | rfl | rfl | rfl | rfl | rfl | rfl | rfl | rfl
  · refine mj_Sx.post (mj_Sx.fr (w := kv rg pa 0 (a + 1) im R P ++ nvH 19 H) [0, 1, 98, 99, 100, 101, 102, 78, 79, 80, 81, 82] (s_takeBack sta d 0 a (nI im) rg (mkN H) (mkN (R 15)) (by decide) ha (hk.1 15 (by decide))) rfl rfl (by decide)) (fun v w' hp hk => ?_)
    obtain ⟨wc', ⟨rfl, rfl⟩, -, rfl⟩ := hp
    exact ⟨rfl, rfl⟩
  · refine mj_Sx.post (mj_Sx.fr (w := kv rg pa 1 (a + 1) im R P ++ nvH 19 H) [0, 1, 98, 99, 100, 101, 102, 3, 4, 5, 6, 7] (s_takeBack sta d 1 a (nI im) rg (mkN H) (mkN (R 0)) (by decide) ha (hk.1 0 (by decide))) rfl rfl (by decide)) (fun v w' hp hk => ?_)
    obtain ⟨wc', ⟨rfl, rfl⟩, -, rfl⟩ := hp
    exact ⟨rfl, rfl⟩
  · refine mj_Sx.post (mj_Sx.fr (w := kv rg pa 2 (a + 1) im R P ++ nvH 19 H) [0, 1, 98, 99, 100, 101, 102, 8, 9, 10, 11, 12] (s_takeBack sta d 2 a (nI im) rg (mkN H) (mkN (R 1)) (by decide) ha (hk.1 1 (by decide))) rfl rfl (by decide)) (fun v w' hp hk => ?_)
    obtain ⟨wc', ⟨rfl, rfl⟩, -, rfl⟩ := hp
    exact ⟨rfl, rfl⟩
  · refine mj_Sx.post (mj_Sx.fr (w := kv rg pa 3 (a + 1) im R P ++ nvH 19 H) [0, 1, 98, 99, 100, 101, 102, 13, 14, 15, 16, 17] (s_takeBack sta d 3 a (nI im) rg (mkN H) (mkN (R 2)) (by decide) ha (hk.1 2 (by decide))) rfl rfl (by decide)) (fun v w' hp hk => ?_)
    obtain ⟨wc', ⟨rfl, rfl⟩, -, rfl⟩ := hp
    exact ⟨rfl, rfl⟩
  · refine mj_Sx.post (mj_Sx.fr (w := kv rg pa 4 (a + 1) im R P ++ nvH 19 H) [0, 1, 98, 99, 100, 101, 102, 18, 19, 20, 21, 22] (s_takeBack sta d 4 a (nI im) rg (mkN H) (mkN (R 3)) (by decide) ha (hk.1 3 (by decide))) rfl rfl (by decide)) (fun v w' hp hk => ?_)
    obtain ⟨wc', ⟨rfl, rfl⟩, -, rfl⟩ := hp
    exact ⟨rfl, rfl⟩
  · refine mj_Sx.post (mj_Sx.fr (w := kv rg pa 5 (a + 1) im R P ++ nvH 19 H) [0, 1, 98, 99, 100, 101, 102, 23, 24, 25, 26, 27] (s_takeBack sta d 5 a (nI im) rg (mkN H) (mkN (R 4)) (by decide) ha (hk.1 4 (by decide))) rfl rfl (by decide)) (fun v w' hp hk => ?_)
    obtain ⟨wc', ⟨rfl, rfl⟩, -, rfl⟩ := hp
    exact ⟨rfl, rfl⟩
  · refine mj_Sx.post (mj_Sx.fr (w := kv rg pa 6 (a + 1) im R P ++ nvH 19 H) [0, 1, 98, 99, 100, 101, 102, 28, 29, 30, 31, 32] (s_takeBack sta d 6 a (nI im) rg (mkN H) (mkN (R 5)) (by decide) ha (hk.1 5 (by decide))) rfl rfl (by decide)) (fun v w' hp hk => ?_)
    obtain ⟨wc', ⟨rfl, rfl⟩, -, rfl⟩ := hp
    exact ⟨rfl, rfl⟩
  · refine mj_Sx.post (mj_Sx.fr (w := kv rg pa 7 (a + 1) im R P ++ nvH 19 H) [0, 1, 98, 99, 100, 101, 102, 33, 34, 35, 36, 37] (s_takeBack sta d 7 a (nI im) rg (mkN H) (mkN (R 6)) (by decide) ha (hk.1 6 (by decide))) rfl rfl (by decide)) (fun v w' hp hk => ?_)
    obtain ⟨wc', ⟨rfl, rfl⟩, -, rfl⟩ := hp
    exact ⟨rfl, rfl⟩
  · refine mj_Sx.post (mj_Sx.fr (w := kv rg pa 8 (a + 1) im R P ++ nvH 19 H) [0, 1, 98, 99, 100, 101, 102, 38, 39, 40, 41, 42] (s_takeBack sta d 8 a (nI im) rg (mkN H) (mkN (R 7)) (by decide) ha (hk.1 7 (by decide))) rfl rfl (by decide)) (fun v w' hp hk => ?_)
    obtain ⟨wc', ⟨rfl, rfl⟩, -, rfl⟩ := hp
    exact ⟨rfl, rfl⟩
  · refine mj_Sx.post (mj_Sx.fr (w := kv rg pa 9 (a + 1) im R P ++ nvH 19 H) [0, 1, 98, 99, 100, 101, 102, 43, 44, 45, 46, 47] (s_takeBack sta d 9 a (nI im) rg (mkN H) (mkN (R 8)) (by decide) ha (hk.1 8 (by decide))) rfl rfl (by decide)) (fun v w' hp hk => ?_)
    obtain ⟨wc', ⟨rfl, rfl⟩, -, rfl⟩ := hp
    exact ⟨rfl, rfl⟩
  · refine mj_Sx.post (mj_Sx.fr (w := kv rg pa 10 (a + 1) im R P ++ nvH 19 H) [0, 1, 98, 99, 100, 101, 102, 48, 49, 50, 51, 52] (s_takeBack sta d 10 a (nI im) rg (mkN H) (mkN (R 9)) (by decide) ha (hk.1 9 (by decide))) rfl rfl (by decide)) (fun v w' hp hk => ?_)
    obtain ⟨wc', ⟨rfl, rfl⟩, -, rfl⟩ := hp
    exact ⟨rfl, rfl⟩
  · refine mj_Sx.post (mj_Sx.fr (w := kv rg pa 11 (a + 1) im R P ++ nvH 19 H) [0, 1, 98, 99, 100, 101, 102, 53, 54, 55, 56, 57] (s_takeBack sta d 11 a (nI im) rg (mkN H) (mkN (R 10)) (by decide) ha (hk.1 10 (by decide))) rfl rfl (by decide)) (fun v w' hp hk => ?_)
    obtain ⟨wc', ⟨rfl, rfl⟩, -, rfl⟩ := hp
    exact ⟨rfl, rfl⟩
  · refine mj_Sx.post (mj_Sx.fr (w := kv rg pa 12 (a + 1) im R P ++ nvH 19 H) [0, 1, 98, 99, 100, 101, 102, 58, 59, 60, 61, 62] (s_takeBack sta d 12 a (nI im) rg (mkN H) (mkN (R 11)) (by decide) ha (hk.1 11 (by decide))) rfl rfl (by decide)) (fun v w' hp hk => ?_)
    obtain ⟨wc', ⟨rfl, rfl⟩, -, rfl⟩ := hp
    exact ⟨rfl, rfl⟩
  · refine mj_Sx.post (mj_Sx.fr (w := kv rg pa 13 (a + 1) im R P ++ nvH 19 H) [0, 1, 98, 99, 100, 101, 102, 63, 64, 65, 66, 67] (s_takeBack sta d 13 a (nI im) rg (mkN H) (mkN (R 12)) (by decide) ha (hk.1 12 (by decide))) rfl rfl (by decide)) (fun v w' hp hk => ?_)
    obtain ⟨wc', ⟨rfl, rfl⟩, -, rfl⟩ := hp
    exact ⟨rfl, rfl⟩
  · refine mj_Sx.post (mj_Sx.fr (w := kv rg pa 14 (a + 1) im R P ++ nvH 19 H) [0, 1, 98, 99, 100, 101, 102, 68, 69, 70, 71, 72] (s_takeBack sta d 14 a (nI im) rg (mkN H) (mkN (R 13)) (by decide) ha (hk.1 13 (by decide))) rfl rfl (by decide)) (fun v w' hp hk => ?_)
    obtain ⟨wc', ⟨rfl, rfl⟩, -, rfl⟩ := hp
    exact ⟨rfl, rfl⟩
  · refine mj_Sx.post (mj_Sx.fr (w := kv rg pa 15 (a + 1) im R P ++ nvH 19 H) [0, 1, 98, 99, 100, 101, 102, 73, 74, 75, 76, 77] (s_takeBack sta d 15 a (nI im) rg (mkN H) (mkN (R 14)) (by decide) ha (hk.1 14 (by decide))) rfl rfl (by decide)) (fun v w' hp hk => ?_)
    obtain ⟨wc', ⟨rfl, rfl⟩, -, rfl⟩ := hp
    exact ⟨rfl, rfl⟩
theorem s_paintK (hi : im < 3) (hk : okK rg pa) : mj_Sx sta (d + 2) 23 [.ref 29, .ref 19] (kv rg pa x a im R P ++ nvH 19 H) (fun v w => v = some (.int (nI im)) ∧ w = kv rg pa x a (im + 1) R (va_up P im H) ++ nvH 19 H) := by
  have hc : im = 0 ∨ im = 1 ∨ im = 2 := by omega
  rcases hc with rfl | rfl | rfl
  · refine mj_Sx.post (mj_Sx.fr (w := kv rg pa x a 0 R P ++ nvH 19 H) [0, 2, 83, 84, 85, 86, 87, 98, 99, 100, 101, 102] (s_paint sta d 0 (nI x) (nI a) pa (mkN H) (mkN (P 0)) (by decide) (hk.2 0 (by decide))) rfl rfl (by decide)) (fun v w' hp hk => ?_)
    obtain ⟨wc', ⟨rfl, rfl⟩, -, rfl⟩ := hp
    exact ⟨rfl, rfl⟩
  · refine mj_Sx.post (mj_Sx.fr (w := kv rg pa x a 1 R P ++ nvH 19 H) [0, 2, 88, 89, 90, 91, 92, 98, 99, 100, 101, 102] (s_paint sta d 1 (nI x) (nI a) pa (mkN H) (mkN (P 1)) (by decide) (hk.2 1 (by decide))) rfl rfl (by decide)) (fun v w' hp hk => ?_)
    obtain ⟨wc', ⟨rfl, rfl⟩, -, rfl⟩ := hp
    exact ⟨rfl, rfl⟩
  · refine mj_Sx.post (mj_Sx.fr (w := kv rg pa x a 2 R P ++ nvH 19 H) [0, 2, 93, 94, 95, 96, 97, 98, 99, 100, 101, 102] (s_paint sta d 2 (nI x) (nI a) pa (mkN H) (mkN (P 2)) (by decide) (hk.2 2 (by decide))) rfl rfl (by decide)) (fun v w' hp hk => ?_)
    obtain ⟨wc', ⟨rfl, rfl⟩, -, rfl⟩ := hp
    exact ⟨rfl, rfl⟩
theorem s_goBackK (i : Nat) (hi : i < im) (him : im ≤ 3) (hk : okK rg pa) : mj_Sx sta (d + 2) 24 [.ref 29, (.int (nI i)), .ref 19] (kv rg pa x a im R P ++ nvH 19 H) (fun v w => v = some (.int 1) ∧ w = kv rg pa x 0 im R P ++ nvH 19 (P i)) := by
  have hc : i = 0 ∨ i = 1 ∨ i = 2 := by omega
  rcases hc with rfl | rfl | rfl
  · refine mj_Sx.post (mj_Sx.fr (w := kv rg pa x a im R P ++ nvH 19 H) [0, 2, 98, 99, 100, 101, 102, 83, 84, 85, 86, 87] (s_goBack sta d 0 im (nI x) (nI a) pa (mkN H) (mkN (P 0)) hi him (hk.2 0 (by decide))) rfl rfl (by decide)) (fun v w' hp hk => ?_)
    obtain ⟨wc', ⟨rfl, rfl⟩, -, rfl⟩ := hp
    exact ⟨rfl, rfl⟩
  · refine mj_Sx.post (mj_Sx.fr (w := kv rg pa x a im R P ++ nvH 19 H) [0, 2, 98, 99, 100, 101, 102, 88, 89, 90, 91, 92] (s_goBack sta d 1 im (nI x) (nI a) pa (mkN H) (mkN (P 1)) hi him (hk.2 1 (by decide))) rfl rfl (by decide)) (fun v w' hp hk => ?_)
    obtain ⟨wc', ⟨rfl, rfl⟩, -, rfl⟩ := hp
    exact ⟨rfl, rfl⟩
  · refine mj_Sx.post (mj_Sx.fr (w := kv rg pa x a im R P ++ nvH 19 H) [0, 2, 98, 99, 100, 101, 102, 93, 94, 95, 96, 97] (s_goBack sta d 2 im (nI x) (nI a) pa (mkN H) (mkN (P 2)) hi him (hk.2 2 (by decide))) rfl rfl (by decide)) (fun v w' hp hk => ?_)
    obtain ⟨wc', ⟨rfl, rfl⟩, -, rfl⟩ := hp
    exact ⟨rfl, rfl⟩
end Hist
