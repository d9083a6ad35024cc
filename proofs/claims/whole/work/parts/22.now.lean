/-! Now, Draft.clear, Laws -/
def mix {α : Type} (k : Nat) (f f' : Nat → α) : Nat → α := fun x => if x < k then f' x else f x
theorem mix_up {α : Type} {k : Nat} {f f' : Nat → α} : va_up (mix k f f') k (f' k) = mix (k + 1) f f' := by
  funext x
  unfold va_up mix
  by_cases h1 : x = k
  · subst h1; simp
  · by_cases h2 : x < k
    · simp [h1, h2, Nat.lt_succ_of_lt h2]
    · simp [h1, h2, show ¬ x < k + 1 by omega]
theorem mix_0 {α : Type} {f f' : Nat → α} : mix 0 f f' = f := by funext x; simp [mix]
theorem an_mix {f f' : Nat → Nat} : an (mix 6 f f') = an f' := by
  unfold an
  rw [an_congr (f := mix 6 f f') (f' := f') (fun i hi => by simp [mix, hi])]
theorem sq_mix {f f' : Nat → Option Nat} : sq (mix 6 f f') = sq f' := by
  unfold sq
  rw [sq_congr (g := mix 6 f f') (g' := f') (fun i hi => by simp [mix, hi])]
abbrev wno (c : Nat) (sp sd hl tk : Int32) (sn C ro : Nat → Nat) (g : Nat → Option Nat) : mj_W := [(c, .inr (5, nob c sp sd hl tk)), (c + 1, an sn), (c + 2, an C), (c + 3, an ro), (c + 4, sq g)]
section Take
variable (sta : mj_S) (d c c' : Nat) (sp sd hl tk : Int32) (sn C ro sn' C' ro' : Nat → Nat) (g g' : Nat → Option Nat)
abbrev wtk (c c' : Nat) (sp sd hl tk : Int32) (sn C ro : Nat → Nat) (g : Nat → Option Nat) (sp' sd' hl' tk' : Int32) (sn' C' ro' : Nat → Nat) (g' : Nat → Option Nat) : mj_W := [(c, .inr (5, nob c sp sd hl tk)), (c + 1, an sn), (c + 2, an C), (c + 3, an ro), (c + 4, sq g), (c', .inr (5, nob c' sp' sd' hl' tk')), (c' + 1, an sn'), (c' + 2, an C'), (c' + 3, an ro'), (c' + 4, sq g')]
theorem l_take {h0 : mj_H} (Post : Option Value → mj_W → Prop) (hp : Post none (wtk c c' sp sd hl tk sn' C' ro' g' sp sd hl tk sn' C' ro' g')) : ∀ j k h, k + j = 6 → mj_Vw h0 (wtk c c' sp sd hl tk (mix k sn sn') (mix k C C') (mix k ro ro') (mix k g g') sp sd hl tk sn' C' ro' g') h →
    mj_go sta (mj_Cl sta d) m_X5_take (mj_rx m_X5_take h0 [c, c + 1, c + 2, c + 3, c + 4, c', c' + 1, c' + 2, c' + 3, c' + 4] Post) 34 [some (.ref c), some (.ref c'), some (.int (nI k))] [] h := by
  intro j
  induction j with
  | zero =>
    intro k h hk hv
    have hk : k = 6 := by omega
    subst hk
    repeat (first | refine g_px rfl rfl rfl ?_ | refine g_get hv 0 rfl rfl rfl rfl ?_ | refine g_get hv 1 rfl rfl rfl rfl ?_ | refine g_get hv 2 rfl rfl rfl rfl ?_ | refine g_get hv 3 rfl rfl rfl rfl ?_ | refine g_get hv 4 rfl rfl rfl rfl ?_ | refine g_get hv 5 rfl rfl rfl rfl ?_ | refine g_get hv 6 rfl rfl rfl rfl ?_ | refine g_get hv 7 rfl rfl rfl rfl ?_ | refine g_get hv 8 rfl rfl rfl rfl ?_ | refine g_get hv 9 rfl rfl rfl rfl ?_)
    refine g_ic rfl (fun cq => ?_) (fun cq => absurd (show (Int8.ofInt 6).toInt32 ≤ nI 6 by decide) cq)
    unfold wtk at hv
    rw [an_mix, an_mix, an_mix, sq_mix] at hv
    exact g_vret hv rfl rfl rfl hp
  | succ j ih =>
    intro k h hk hv
    have hk6 : k < 6 := by omega
    repeat (first | refine g_px rfl rfl rfl ?_ | refine g_get hv 0 rfl rfl rfl rfl ?_ | refine g_get hv 1 rfl rfl rfl rfl ?_ | refine g_get hv 2 rfl rfl rfl rfl ?_ | refine g_get hv 3 rfl rfl rfl rfl ?_ | refine g_get hv 4 rfl rfl rfl rfl ?_ | refine g_get hv 5 rfl rfl rfl rfl ?_ | refine g_get hv 6 rfl rfl rfl rfl ?_ | refine g_get hv 7 rfl rfl rfl rfl ?_ | refine g_get hv 8 rfl rfl rfl rfl ?_ | refine g_get hv 9 rfl rfl rfl rfl ?_)
    refine g_ic rfl (fun cq => absurd cq (nI_ge (a := k) (b := 6) hk6 (by decide))) (fun cq => ?_)
    repeat (first | refine g_px rfl rfl rfl ?_ | refine g_get hv 0 rfl rfl rfl rfl ?_ | refine g_get hv 1 rfl rfl rfl rfl ?_ | refine g_get hv 2 rfl rfl rfl rfl ?_ | refine g_get hv 3 rfl rfl rfl rfl ?_ | refine g_get hv 4 rfl rfl rfl rfl ?_ | refine g_get hv 5 rfl rfl rfl rfl ?_ | refine g_get hv 6 rfl rfl rfl rfl ?_ | refine g_get hv 7 rfl rfl rfl rfl ?_ | refine g_get hv 8 rfl rfl rfl rfl ?_ | refine g_get hv 9 rfl rfl rfl rfl ?_)
    refine g_n6 hv 6 hk6 rfl rfl ?_
    refine g_nst hv 1 hk6 rfl rfl (fun h hv => ?_)
    repeat (first | refine g_px rfl rfl rfl ?_ | refine g_get hv 0 rfl rfl rfl rfl ?_ | refine g_get hv 1 rfl rfl rfl rfl ?_ | refine g_get hv 2 rfl rfl rfl rfl ?_ | refine g_get hv 3 rfl rfl rfl rfl ?_ | refine g_get hv 4 rfl rfl rfl rfl ?_ | refine g_get hv 5 rfl rfl rfl rfl ?_ | refine g_get hv 6 rfl rfl rfl rfl ?_ | refine g_get hv 7 rfl rfl rfl rfl ?_ | refine g_get hv 8 rfl rfl rfl rfl ?_ | refine g_get hv 9 rfl rfl rfl rfl ?_)
    refine g_n6 hv 7 hk6 rfl rfl ?_
    refine g_nst hv 2 hk6 rfl rfl (fun h hv => ?_)
    repeat (first | refine g_px rfl rfl rfl ?_ | refine g_get hv 0 rfl rfl rfl rfl ?_ | refine g_get hv 1 rfl rfl rfl rfl ?_ | refine g_get hv 2 rfl rfl rfl rfl ?_ | refine g_get hv 3 rfl rfl rfl rfl ?_ | refine g_get hv 4 rfl rfl rfl rfl ?_ | refine g_get hv 5 rfl rfl rfl rfl ?_ | refine g_get hv 6 rfl rfl rfl rfl ?_ | refine g_get hv 7 rfl rfl rfl rfl ?_ | refine g_get hv 8 rfl rfl rfl rfl ?_ | refine g_get hv 9 rfl rfl rfl rfl ?_)
    refine g_n6 hv 8 hk6 rfl rfl ?_
    refine g_nst hv 3 hk6 rfl rfl (fun h hv => ?_)
    repeat (first | refine g_px rfl rfl rfl ?_ | refine g_get hv 0 rfl rfl rfl rfl ?_ | refine g_get hv 1 rfl rfl rfl rfl ?_ | refine g_get hv 2 rfl rfl rfl rfl ?_ | refine g_get hv 3 rfl rfl rfl rfl ?_ | refine g_get hv 4 rfl rfl rfl rfl ?_ | refine g_get hv 5 rfl rfl rfl rfl ?_ | refine g_get hv 6 rfl rfl rfl rfl ?_ | refine g_get hv 7 rfl rfl rfl rfl ?_ | refine g_get hv 8 rfl rfl rfl rfl ?_ | refine g_get hv 9 rfl rfl rfl rfl ?_)
    refine g_s6 hv 9 hk6 rfl rfl ?_
    refine g_sst hv 4 hk6 rfl rfl (fun h hv => ?_)
    rw [mix_up, mix_up, mix_up, mix_up] at hv
    refine g_run 2 rfl ?_
    have := ih (k + 1) h (by omega) hv
    rw [nI_succ] at this
    exact this
theorem s_take (sp' sd' hl' tk' : Int32) : mj_Sx sta (d + 1) 35 [.ref c, .ref c'] (wtk c c' sp' sd' hl' tk' sn C ro g sp sd hl tk sn' C' ro' g') (fun v w => v = none ∧ w = wtk c c' sp sd hl tk sn' C' ro' g' sp sd hl tk sn' C' ro' g') := by
  refine mj_Sx.mk m_X5_take (by decide) n_X5_take rfl (fun h0 hv => ?_)
  repeat (first | refine g_px rfl rfl rfl ?_ | refine g_get hv 0 rfl rfl rfl rfl ?_ | refine g_get hv 1 rfl rfl rfl rfl ?_ | refine g_get hv 2 rfl rfl rfl rfl ?_ | refine g_get hv 3 rfl rfl rfl rfl ?_ | refine g_get hv 4 rfl rfl rfl rfl ?_ | refine g_get hv 5 rfl rfl rfl rfl ?_ | refine g_get hv 6 rfl rfl rfl rfl ?_ | refine g_get hv 7 rfl rfl rfl rfl ?_ | refine g_get hv 8 rfl rfl rfl rfl ?_ | refine g_get hv 9 rfl rfl rfl rfl ?_)
  refine g_put hv 0 rfl rfl rfl rfl rfl rfl (fun h hv => ?_)
  repeat (first | refine g_px rfl rfl rfl ?_ | refine g_get hv 0 rfl rfl rfl rfl ?_ | refine g_get hv 1 rfl rfl rfl rfl ?_ | refine g_get hv 2 rfl rfl rfl rfl ?_ | refine g_get hv 3 rfl rfl rfl rfl ?_ | refine g_get hv 4 rfl rfl rfl rfl ?_ | refine g_get hv 5 rfl rfl rfl rfl ?_ | refine g_get hv 6 rfl rfl rfl rfl ?_ | refine g_get hv 7 rfl rfl rfl rfl ?_ | refine g_get hv 8 rfl rfl rfl rfl ?_ | refine g_get hv 9 rfl rfl rfl rfl ?_)
  refine g_put hv 0 rfl rfl rfl rfl rfl rfl (fun h hv => ?_)
  repeat (first | refine g_px rfl rfl rfl ?_ | refine g_get hv 0 rfl rfl rfl rfl ?_ | refine g_get hv 1 rfl rfl rfl rfl ?_ | refine g_get hv 2 rfl rfl rfl rfl ?_ | refine g_get hv 3 rfl rfl rfl rfl ?_ | refine g_get hv 4 rfl rfl rfl rfl ?_ | refine g_get hv 5 rfl rfl rfl rfl ?_ | refine g_get hv 6 rfl rfl rfl rfl ?_ | refine g_get hv 7 rfl rfl rfl rfl ?_ | refine g_get hv 8 rfl rfl rfl rfl ?_ | refine g_get hv 9 rfl rfl rfl rfl ?_)
  refine g_put hv 0 rfl rfl rfl rfl rfl rfl (fun h hv => ?_)
  repeat (first | refine g_px rfl rfl rfl ?_ | refine g_get hv 0 rfl rfl rfl rfl ?_ | refine g_get hv 1 rfl rfl rfl rfl ?_ | refine g_get hv 2 rfl rfl rfl rfl ?_ | refine g_get hv 3 rfl rfl rfl rfl ?_ | refine g_get hv 4 rfl rfl rfl rfl ?_ | refine g_get hv 5 rfl rfl rfl rfl ?_ | refine g_get hv 6 rfl rfl rfl rfl ?_ | refine g_get hv 7 rfl rfl rfl rfl ?_ | refine g_get hv 8 rfl rfl rfl rfl ?_ | refine g_get hv 9 rfl rfl rfl rfl ?_)
  refine g_put hv 0 rfl rfl rfl rfl rfl rfl (fun h hv => ?_)
  refine g_run 2 rfl ?_
  refine l_take sta d c c' sp sd hl tk sn C ro sn' C' ro' g g' _ ⟨rfl, rfl⟩ 6 0 h (by omega) ?_
  rw [mix_0, mix_0, mix_0, mix_0]
  exact hv
end Take
section Begin
variable (sta : mj_S) (d c b : Nat) (tk mn kn sp hd hi er sh wn : Int32) (sn C ro ds dc : Nat → Nat) (g : Nat → Option Nat)
abbrev wbg (c b : Nat) (s1 s2 s3 s4 : Int32) (sn C ro : Nat → Nat) (g : Nat → Option Nat) (tk mn kn sp hd hi er sh wn : Int32) (ds dc : Nat → Nat) : mj_W := [(c, .inr (5, nob c s1 s2 s3 s4)), (c + 1, an sn), (c + 2, an C), (c + 3, an ro), (c + 4, sq g), (b, .inr (1, dob b tk mn kn sp hd hi er sh wn)), (b + 1, an ds), (b + 3, an dc)]
theorem l_begin {h0 : mj_H} (Post : Option Value → mj_W → Prop) (hp : Post none (wbg c b sp 0 0 0 ds dc (idn 6 (fun _ => 0)) (fun _ => none) tk mn kn sp hd hi er sh wn ds dc)) : ∀ j k h, k + j = 6 → mj_Vw h0 (wbg c b sp 0 0 0 (mix k sn ds) (mix k C dc) (mix k ro (fun x => x)) (mix k g (fun _ => none)) tk mn kn sp hd hi er sh wn ds dc) h →
    mj_go sta (mj_Cl sta d) m_X5_begin (mj_rx m_X5_begin h0 [c, c + 1, c + 2, c + 3, c + 4, b, b + 1, b + 3] Post) 25 [some (.ref c), some (.ref b), some (.int (nI k))] [] h := by
  intro j
  induction j with
  | zero =>
    intro k h hk hv
    have hk : k = 6 := by omega
    subst hk
    repeat (first | refine g_px rfl rfl rfl ?_ | refine g_get hv 0 rfl rfl rfl rfl ?_ | refine g_get hv 1 rfl rfl rfl rfl ?_ | refine g_get hv 2 rfl rfl rfl rfl ?_ | refine g_get hv 3 rfl rfl rfl rfl ?_ | refine g_get hv 4 rfl rfl rfl rfl ?_ | refine g_get hv 5 rfl rfl rfl rfl ?_ | refine g_get hv 6 rfl rfl rfl rfl ?_ | refine g_get hv 7 rfl rfl rfl rfl ?_)
    refine g_ic rfl (fun cq => ?_) (fun cq => absurd (show (Int8.ofInt 6).toInt32 ≤ nI 6 by decide) cq)
    have e : an (fun x => x) = an (idn 6 (fun _ => 0)) := by
      unfold an
      rw [an_congr (f := fun x => x) (f' := idn 6 (fun _ => 0)) (fun i hi => by simp [idn, hi])]
    unfold wbg at hv
    rw [an_mix, an_mix, an_mix, sq_mix, e] at hv
    exact g_vret hv rfl rfl rfl hp
  | succ j ih =>
    intro k h hk hv
    have hk6 : k < 6 := by omega
    repeat (first | refine g_px rfl rfl rfl ?_ | refine g_get hv 0 rfl rfl rfl rfl ?_ | refine g_get hv 1 rfl rfl rfl rfl ?_ | refine g_get hv 2 rfl rfl rfl rfl ?_ | refine g_get hv 3 rfl rfl rfl rfl ?_ | refine g_get hv 4 rfl rfl rfl rfl ?_ | refine g_get hv 5 rfl rfl rfl rfl ?_ | refine g_get hv 6 rfl rfl rfl rfl ?_ | refine g_get hv 7 rfl rfl rfl rfl ?_)
    refine g_ic rfl (fun cq => absurd cq (nI_ge (a := k) (b := 6) hk6 (by decide))) (fun cq => ?_)
    repeat (first | refine g_px rfl rfl rfl ?_ | refine g_get hv 0 rfl rfl rfl rfl ?_ | refine g_get hv 1 rfl rfl rfl rfl ?_ | refine g_get hv 2 rfl rfl rfl rfl ?_ | refine g_get hv 3 rfl rfl rfl rfl ?_ | refine g_get hv 4 rfl rfl rfl rfl ?_ | refine g_get hv 5 rfl rfl rfl rfl ?_ | refine g_get hv 6 rfl rfl rfl rfl ?_ | refine g_get hv 7 rfl rfl rfl rfl ?_)
    refine g_n6 hv 6 hk6 rfl rfl ?_
    refine g_nst hv 1 hk6 rfl rfl (fun h hv => ?_)
    repeat (first | refine g_px rfl rfl rfl ?_ | refine g_get hv 0 rfl rfl rfl rfl ?_ | refine g_get hv 1 rfl rfl rfl rfl ?_ | refine g_get hv 2 rfl rfl rfl rfl ?_ | refine g_get hv 3 rfl rfl rfl rfl ?_ | refine g_get hv 4 rfl rfl rfl rfl ?_ | refine g_get hv 5 rfl rfl rfl rfl ?_ | refine g_get hv 6 rfl rfl rfl rfl ?_ | refine g_get hv 7 rfl rfl rfl rfl ?_)
    refine g_n6 hv 7 hk6 rfl rfl ?_
    refine g_nst hv 2 hk6 rfl rfl (fun h hv => ?_)
    repeat (first | refine g_px rfl rfl rfl ?_ | refine g_get hv 0 rfl rfl rfl rfl ?_ | refine g_get hv 1 rfl rfl rfl rfl ?_ | refine g_get hv 2 rfl rfl rfl rfl ?_ | refine g_get hv 3 rfl rfl rfl rfl ?_ | refine g_get hv 4 rfl rfl rfl rfl ?_ | refine g_get hv 5 rfl rfl rfl rfl ?_ | refine g_get hv 6 rfl rfl rfl rfl ?_ | refine g_get hv 7 rfl rfl rfl rfl ?_)
    refine g_nst hv 3 hk6 rfl rfl (fun h hv => ?_)
    repeat (first | refine g_px rfl rfl rfl ?_ | refine g_get hv 0 rfl rfl rfl rfl ?_ | refine g_get hv 1 rfl rfl rfl rfl ?_ | refine g_get hv 2 rfl rfl rfl rfl ?_ | refine g_get hv 3 rfl rfl rfl rfl ?_ | refine g_get hv 4 rfl rfl rfl rfl ?_ | refine g_get hv 5 rfl rfl rfl rfl ?_ | refine g_get hv 6 rfl rfl rfl rfl ?_ | refine g_get hv 7 rfl rfl rfl rfl ?_)
    refine g_sst (o := none) hv 4 hk6 rfl rfl (fun h hv => ?_)
    rw [mix_up, mix_up, show va_up (mix k ro (fun x => x)) k k = mix (k + 1) ro (fun x => x) from mix_up (f' := fun x => x), show va_up (mix k g (fun _ => none)) k none = mix (k + 1) g (fun _ => none) from mix_up (f' := fun _ => none)] at hv
    refine g_run 2 rfl ?_
    have := ih (k + 1) h (by omega) hv
    rw [nI_succ] at this
    exact this
theorem s_begin (s1 s2 s3 s4 : Int32) : mj_Sx sta (d + 1) 34 [.ref c, .ref b] (wbg c b s1 s2 s3 s4 sn C ro g tk mn kn sp hd hi er sh wn ds dc) (fun v w => v = none ∧ w = wbg c b sp 0 0 0 ds dc (idn 6 (fun _ => 0)) (fun _ => none) tk mn kn sp hd hi er sh wn ds dc) := by
  refine mj_Sx.mk m_X5_begin (by decide) n_X5_begin rfl (fun h0 hv => ?_)
  repeat (first | refine g_px rfl rfl rfl ?_ | refine g_get hv 0 rfl rfl rfl rfl ?_ | refine g_get hv 1 rfl rfl rfl rfl ?_ | refine g_get hv 2 rfl rfl rfl rfl ?_ | refine g_get hv 3 rfl rfl rfl rfl ?_ | refine g_get hv 4 rfl rfl rfl rfl ?_ | refine g_get hv 5 rfl rfl rfl rfl ?_ | refine g_get hv 6 rfl rfl rfl rfl ?_ | refine g_get hv 7 rfl rfl rfl rfl ?_)
  refine g_put hv 0 rfl rfl rfl rfl rfl rfl (fun h hv => ?_)
  repeat (first | refine g_px rfl rfl rfl ?_ | refine g_get hv 0 rfl rfl rfl rfl ?_ | refine g_get hv 1 rfl rfl rfl rfl ?_ | refine g_get hv 2 rfl rfl rfl rfl ?_ | refine g_get hv 3 rfl rfl rfl rfl ?_ | refine g_get hv 4 rfl rfl rfl rfl ?_ | refine g_get hv 5 rfl rfl rfl rfl ?_ | refine g_get hv 6 rfl rfl rfl rfl ?_ | refine g_get hv 7 rfl rfl rfl rfl ?_)
  refine g_put hv 0 rfl rfl rfl rfl rfl rfl (fun h hv => ?_)
  repeat (first | refine g_px rfl rfl rfl ?_ | refine g_get hv 0 rfl rfl rfl rfl ?_ | refine g_get hv 1 rfl rfl rfl rfl ?_ | refine g_get hv 2 rfl rfl rfl rfl ?_ | refine g_get hv 3 rfl rfl rfl rfl ?_ | refine g_get hv 4 rfl rfl rfl rfl ?_ | refine g_get hv 5 rfl rfl rfl rfl ?_ | refine g_get hv 6 rfl rfl rfl rfl ?_ | refine g_get hv 7 rfl rfl rfl rfl ?_)
  refine g_put hv 0 rfl rfl rfl rfl rfl rfl (fun h hv => ?_)
  repeat (first | refine g_px rfl rfl rfl ?_ | refine g_get hv 0 rfl rfl rfl rfl ?_ | refine g_get hv 1 rfl rfl rfl rfl ?_ | refine g_get hv 2 rfl rfl rfl rfl ?_ | refine g_get hv 3 rfl rfl rfl rfl ?_ | refine g_get hv 4 rfl rfl rfl rfl ?_ | refine g_get hv 5 rfl rfl rfl rfl ?_ | refine g_get hv 6 rfl rfl rfl rfl ?_ | refine g_get hv 7 rfl rfl rfl rfl ?_)
  refine g_put hv 0 rfl rfl rfl rfl rfl rfl (fun h hv => ?_)
  refine g_run 2 rfl ?_
  refine l_begin sta d c b tk mn kn sp hd hi er sh wn sn C ro ds dc g _ ⟨rfl, rfl⟩ 6 0 h (by omega) ?_
  rw [mix_0, mix_0, mix_0, mix_0]
  exact hv
end Begin
theorem s_dclear (sta : mj_S) (d b : Nat) (tk mn kn sp hd hi er sh wn : Int32) (ki : Nat → Nat) : mj_Sx sta (d + 1) 18 [.ref b] [(b, .inr (1, dob b tk mn kn sp hd hi er sh wn)), (b + 5, an ki)] (fun v w => v = none ∧ w = [(b, .inr (1, dob b 0 0 0 0 0 hi er sh 0)), (b + 5, an (fun _ => 0))]) := by
  refine mj_Sx.mk m_X1_clear (by decide) n_X1_clear rfl (fun h0 hv => ?_)
  repeat (first | refine g_px rfl rfl rfl ?_ | refine g_get hv 0 rfl rfl rfl rfl ?_ | refine g_get hv 1 rfl rfl rfl rfl ?_)
  refine g_put hv 0 rfl rfl rfl rfl rfl rfl (fun h hv => ?_)
  repeat (first | refine g_px rfl rfl rfl ?_ | refine g_get hv 0 rfl rfl rfl rfl ?_ | refine g_get hv 1 rfl rfl rfl rfl ?_)
  refine g_put hv 0 rfl rfl rfl rfl rfl rfl (fun h hv => ?_)
  repeat (first | refine g_px rfl rfl rfl ?_ | refine g_get hv 0 rfl rfl rfl rfl ?_ | refine g_get hv 1 rfl rfl rfl rfl ?_)
  refine g_put hv 0 rfl rfl rfl rfl rfl rfl (fun h hv => ?_)
  repeat (first | refine g_px rfl rfl rfl ?_ | refine g_get hv 0 rfl rfl rfl rfl ?_ | refine g_get hv 1 rfl rfl rfl rfl ?_)
  refine g_put hv 0 rfl rfl rfl rfl rfl rfl (fun h hv => ?_)
  repeat (first | refine g_px rfl rfl rfl ?_ | refine g_get hv 0 rfl rfl rfl rfl ?_ | refine g_get hv 1 rfl rfl rfl rfl ?_)
  refine g_put hv 0 rfl rfl rfl rfl rfl rfl (fun h hv => ?_)
  repeat (first | refine g_px rfl rfl rfl ?_ | refine g_get hv 0 rfl rfl rfl rfl ?_ | refine g_get hv 1 rfl rfl rfl rfl ?_)
  refine g_put hv 0 rfl rfl rfl rfl rfl rfl (fun h hv => ?_)
  refine g_run 2 rfl ?_
  have loop : ∀ j k h, k + j = 6 → mj_Vw h0 [(b, .inr (1, dob b 0 0 0 0 0 hi er sh 0)), (b + 5, an (mix k ki (fun _ => 0)))] h → mj_go sta (mj_Cl sta d) m_X1_clear (mj_rx m_X1_clear h0 [b, b + 5] (fun v w => v = none ∧ w = [(b, .inr (1, dob b 0 0 0 0 0 hi er sh 0)), (b + 5, an (fun _ => 0))])) 32 [some (.ref b), some (.int (nI k))] [] h := by
    intro j
    induction j with
    | zero =>
      intro k h hk hv
      have hk : k = 6 := by omega
      subst hk
      repeat (first | refine g_px rfl rfl rfl ?_ | refine g_get hv 0 rfl rfl rfl rfl ?_ | refine g_get hv 1 rfl rfl rfl rfl ?_)
      refine g_ic rfl (fun cq => ?_) (fun cq => absurd (show (Int8.ofInt 6).toInt32 ≤ nI 6 by decide) cq)
      rw [an_mix] at hv
      exact g_vret hv rfl rfl rfl ⟨rfl, rfl⟩
    | succ j ih =>
      intro k h hk hv
      have hk6 : k < 6 := by omega
      repeat (first | refine g_px rfl rfl rfl ?_ | refine g_get hv 0 rfl rfl rfl rfl ?_ | refine g_get hv 1 rfl rfl rfl rfl ?_)
      refine g_ic rfl (fun cq => absurd cq (nI_ge (a := k) (b := 6) hk6 (by decide))) (fun cq => ?_)
      repeat (first | refine g_px rfl rfl rfl ?_ | refine g_get hv 0 rfl rfl rfl rfl ?_ | refine g_get hv 1 rfl rfl rfl rfl ?_)
      refine g_nst (y := 0) hv 1 hk6 rfl rfl (fun h hv => ?_)
      rw [show va_up (mix k ki (fun _ => 0)) k 0 = mix (k + 1) ki (fun _ => 0) from mix_up (f' := fun _ => 0)] at hv
      refine g_run 2 rfl ?_
      have := ih (k + 1) h (by omega) hv
      rw [nI_succ] at this
      exact this
  refine loop 6 0 h (by omega) ?_
  rw [mix_0]
  exact hv
/-- Laws -/
abbrev wlw (kn fi : Int32) (hm : Nat → Int64) : mj_W := [(144, .inr (3, [.int kn, .int fi, .ref 145])), (145, .inl (1, 16, .inr (.inl hm)))]
theorem s_forget (sta : mj_S) (d : Nat) (kn fi : Int32) : mj_Sx sta (d + 1) 26 [.ref 144] [(144, .inr (3, [.int kn, .int fi, .ref 145]))] (fun v w => v = none ∧ w = [(144, .inr (3, [.int 0, .int 0, .ref 145]))]) := by
  refine mj_Sx.mk m_X3_forget (by decide) n_X3_forget rfl (fun h0 hv => ?_)
  repeat (first | refine g_px rfl rfl rfl ?_ | refine g_get hv 0 rfl rfl rfl rfl ?_)
  refine g_put hv 0 rfl rfl rfl rfl rfl rfl (fun h hv => ?_)
  repeat (first | refine g_px rfl rfl rfl ?_ | refine g_get hv 0 rfl rfl rfl rfl ?_)
  refine g_put hv 0 rfl rfl rfl rfl rfl rfl (fun h hv => ?_)
  exact g_vret hv rfl rfl rfl ⟨rfl, rfl⟩
theorem bs16 : ∀ b, b < 65536 → ∀ k, k < 16 → nI b ||| ((1 : Int32) <<< (nI k &&& 31)) = nI (b ||| 2 ^ k) := by
  intro b hb k hk
  have e : (1 : Int32) <<< (nI k &&& 31) = nI (2 ^ k) := by
    have : ∀ k, k < 16 → (1 : Int32) <<< (nI k &&& 31) = nI (2 ^ k) := by decide +kernel
    exact this k hk
  rw [e, fa_or]
