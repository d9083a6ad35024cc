/-! the reference: draft, which makes one -/
def mj_key (p : Nat) : List va_E → mj_W
  | [] => []
  | e :: t => (p, e) :: mj_key (p + 1) t
theorem key_mem {x : Nat × va_E} : ∀ {t : List va_E} {p : Nat}, x ∈ mj_key p t → ∃ j, x.1 = p + j ∧ mj_nth t j = some x.2
  | [], p, h => by cases h
  | e :: t, p, h => by
    rcases List.mem_cons.mp h with rfl | h
    · exact ⟨0, rfl, rfl⟩
    · obtain ⟨j, h1, h2⟩ := key_mem h
      exact ⟨j + 1, by omega, h2⟩
theorem key_nd : ∀ {t : List va_E} {p : Nat}, (mj_ks (mj_key p t)).Nodup
  | [], p => List.nodup_nil
  | e :: t, p => by
    refine List.nodup_cons.mpr ⟨fun h => ?_, key_nd⟩
    obtain ⟨x, hx, e1⟩ := List.mem_map.mp h
    obtain ⟨j, h1, -⟩ := key_mem hx
    omega
theorem vw_lt {w : mj_W} {h : mj_H} (hv : mj_vw w h) : ∀ k ∈ mj_ks w, k < h.1.length := by
  intro k hk
  obtain ⟨x, hx, rfl⟩ := List.mem_map.mp hk
  exact mj_nth_lt ((mj_vw_mem.mp hv).2 x hx)
theorem vw_more {w : mj_W} {h : mj_H} {t : List va_E} {z : Nat} (hv : mj_vw w h) (hs : h.1.length + t.length ≤ mj_SB) : mj_vw (w ++ mj_key h.1.length t) (h.1 ++ t, z) := by
  have hlt := vw_lt hv
  rw [mj_vw_mem] at hv ⊢
  refine ⟨⟨?_, by show (h.1 ++ t).length ≤ _; rw [List.length_append]; exact hs⟩, fun x hx => ?_⟩
  · rw [mj_ks_app]
    refine List.nodup_append.mpr ⟨hv.1.1, key_nd, fun a ha b hb e => ?_⟩
    subst e
    obtain ⟨x, hx, rfl⟩ := List.mem_map.mp hb
    obtain ⟨j, h1, -⟩ := key_mem hx
    have := hlt _ ha
    omega
  · rcases List.mem_append.mp hx with hx | hx
    · have := hv.2 x hx
      show mj_nth (h.1 ++ t) x.1 = _
      rw [mj_nth_eq] at this ⊢
      rw [List.getElem?_append_left (List.getElem?_eq_some_iff.mp this).1]
      exact this
    · obtain ⟨j, h1, h2⟩ := key_mem hx
      show mj_nth (h.1 ++ t) x.1 = _
      rw [h1, nth_ap]
      exact h2
/-- a contract of a call that makes n cells -/
def mj_Sa (sta : mj_S) (d mid : Nat) (as : List Value) (w : mj_W) (n z : Nat) (Post : Nat → Option Value → mj_W → Prop) : Prop :=
  ∀ h, mj_vw w h → h.1.length + n ≤ mj_SB → ∃ v w' h', Post h.1.length v w' ∧ mj_vw w' h' ∧ h'.1.length = h.1.length + n ∧ h'.2 = h.2 + z ∧ (∀ j, j < h.1.length → j ∉ mj_ks w → mj_nth h'.1 j = mj_nth h.1 j) ∧ mj_Cl sta d mid as h v h'
def mj_ra (M : mj_M) (h0 : mj_H) (ks : List Nat) (n z : Nat) (Post : Nat → Option Value → mj_W → Prop) (pc : Nat) (lv : mj_L) (st : List Value) (h : mj_H) : Prop :=
  ∃ v w, Post h0.1.length v w ∧ mj_vw w h ∧ h.1.length = h0.1.length + n ∧ h.2 = h0.2 + z ∧ (∀ j, j < h0.1.length → j ∉ ks → mj_nth h.1 j = mj_nth h0.1 j) ∧ mj_ret M v h pc lv st h
theorem mj_Sa.mk {sta : mj_S} {d mid : Nat} {as : List Value} {w : mj_W} {n z : Nat} {Post : Nat → Option Value → mj_W → Prop} (M : mj_M) (h4 : 4 ≤ mid) (hM : mj_nth mj_ms mid = some M) (hl : Nat.ble (mj_el as).length (mj_mx M) = true)
    (hg : ∀ h, mj_Vw h w h → h.1.length + n ≤ mj_SB → mj_go sta (mj_Cl sta d) M (mj_ra M h (mj_ks w) n z Post) 0 (mj_e0 (mj_mx M) as) [] h) : mj_Sa sta (d + 1) mid as w n z Post := by
  intro h0 hv hs
  have key : ∃ v w' h', Post h0.1.length v w' ∧ mj_vw w' h' ∧ h'.1.length = h0.1.length + n ∧ h'.2 = h0.2 + z ∧ (∀ j, j < h0.1.length → j ∉ mj_ks w → mj_nth h'.1 j = mj_nth h0.1 j) ∧ mj_go sta (mj_Cl sta d) M (mj_ret M v h') 0 (mj_e0 (mj_mx M) as) [] h0 := by
    refine hg h0 hv.V hs (fun pc lv st h => ∃ v w' h', Post h0.1.length v w' ∧ mj_vw w' h' ∧ h'.1.length = h0.1.length + n ∧ h'.2 = h0.2 + z ∧ (∀ j, j < h0.1.length → j ∉ mj_ks w → mj_nth h'.1 j = mj_nth h0.1 j) ∧ mj_go sta (mj_Cl sta d) M (mj_ret M v h') pc lv st h) ?_ ?_ ?_
    · rintro pc lv st h ⟨v, w', h1, h2, h3, h5, h6, h7⟩
      exact ⟨v, w', h, h1, h2, h3, h5, h6, mj_go.here h7⟩
    · rintro pc lv st h e pc' lv' st' h' he hn ⟨v, w', h'', h1, h2, h3, h5, h6, h7⟩
      exact ⟨v, w', h'', h1, h2, h3, h5, h6, mj_go.nx he hn h7⟩
    · rintro pc lv st h e c v h' he hc hl hr hs hC ⟨v', w', h'', h1, h2, h3, h5, h6, h7⟩
      exact ⟨v', w', h'', h1, h2, h3, h5, h6, mj_go.call he hc hl hr hs hC h7⟩
  obtain ⟨v, w', h', h1, h2, h3, h5, h6, h7⟩ := key
  exact ⟨v, w', h', h1, h2, h3, h5, h6, Or.inr ⟨M, h4, hM, Nat.le_of_ble_eq_true hl, h7⟩⟩
theorem e_k {k x : Nat} (h : Nat.ble 1 k && Nat.ble k 6) : 1 ≤ ((k, x) : FP).1 ∧ ((k, x) : FP).1 ≤ 6 := by
  rw [Bool.and_eq_true] at h
  exact ⟨Nat.le_of_ble_eq_true h.1, Nat.le_of_ble_eq_true h.2⟩
section Er
variable {c : Nat → Nat} {n : Nat}
theorem pP_e {ws : List Nat} {most i : Nat} {e : FP} (h : pP c n ws most i = .inr e) : 1 ≤ e.1 ∧ e.1 ≤ 6 := by
  unfold pP pW at h
  by_cases hw : isW c n i ws = true
  · rw [if_pos hw] at h
    have h : pN c n most (nxt c n i) = .inr e := h
    unfold pN at h
    split at h
    · split at h
      · cases h
      · cases h; exact e_k rfl
    · cases h; exact e_k rfl
  · rw [if_neg hw] at h
    cases h
    exact e_k rfl
theorem pM_e {nm : Nat → List Nat} {m i : Nat} {e : FP} (h : pM c n nm m i = .inr e) : 1 ≤ e.1 ∧ e.1 ≤ 6 := by
  unfold pM at h
  split at h
  · cases hf : fnd nm (wl c n i) m with
    | none => rw [hf] at h; cases h; exact e_k rfl
    | some k => rw [hf] at h; cases h
  · cases h; exact e_k rfl
theorem lLine_e {s : PS} {e : FP} (h : lLine c n s = .inr e) : 1 ≤ e.1 ∧ e.1 ≤ 6 := by
  unfold lLine at h
  split at h
  · cases h; exact e_k rfl
  · split at h
    · unfold lTakes at h
      split at h
      · cases h; exact e_k rfl
      · cases hp : pP c n w_takes 5 (nxt c n s.1) with
        | inr e' => rw [hp] at h; cases h; exact pP_e hp
        | inl q => rw [hp] at h; cases h
    · split at h
      · cases h; exact e_k rfl
      · split at h
        · unfold lMan at h
          split at h
          · cases h; exact e_k rfl
          · split at h
            · cases h; exact e_k rfl
            · split at h
              · cases h; exact e_k rfl
              · cases hs2 : srt c n (nxt c n (nxt c n s.1)) with
                | none => rw [hs2] at h; cases h; exact e_k rfl
                | some so =>
                  rw [hs2] at h
                  dsimp only at h
                  cases hp : pP c n w_worth 99 (nxt c n (nxt c n (nxt c n s.1))) with
                  | inr e' => rw [hp] at h; cases h; exact pP_e hp
                  | inl q =>
                    rw [hp] at h
                    dsimp only at h
                    cases hp2 : pP c n w_coins 200 q.2 with
                    | inr e' => rw [hp2] at h; cases h; exact pP_e hp2
                    | inl q2 =>
                      rw [hp2] at h
                      dsimp only at h
                      cases hp3 : pP c n w_asks 99 q2.2 with
                      | inr e' => rw [hp3] at h; cases h; exact pP_e hp3
                      | inl q3 => rw [hp3] at h; cases h
        · split at h
          · unfold lKin at h
            split at h
            · cases h; exact e_k rfl
            · cases hp : pM c n s.2.2.2.2 (s.2.2.1 1) (nxt c n s.1) with
              | inr e' => rw [hp] at h; cases h; exact pM_e hp
              | inl q =>
                rw [hp] at h
                dsimp only at h
                cases hp2 : pM c n s.2.2.2.2 (s.2.2.1 1) (nxt c n (nxt c n s.1)) with
                | inr e' => rw [hp2] at h; cases h; exact pM_e hp2
                | inl q2 =>
                  rw [hp2] at h
                  dsimp only at h
                  split at h
                  · cases h; exact e_k rfl
                  · cases h
          · split at h
            · unfold lSpares at h
              cases hs2 : srt c n (nxt c n s.1) with
              | none => rw [hs2] at h; cases h; exact e_k rfl
              | some so =>
                rw [hs2] at h
                dsimp only at h
                split at h
                · cases h; exact e_k rfl
                · cases h
            · split at h
              · unfold lDoctor at h
                split at h
                · cases h; exact e_k rfl
                · cases hp : pP c n w_hits 100 (nxt c n s.1) with
                  | inr e' => rw [hp] at h; cases h; exact pP_e hp
                  | inl q =>
                    rw [hp] at h
                    dsimp only at h
                    cases hp2 : pP c n w_errs 100 q.2 with
                    | inr e' => rw [hp2] at h; cases h; exact pP_e hp2
                    | inl q2 =>
                      rw [hp2] at h
                      dsimp only at h
                      cases hp3 : pP c n w_share 100 q2.2 with
                      | inr e' => rw [hp3] at h; cases h; exact pP_e hp3
                      | inl q3 => rw [hp3] at h; cases h
              · unfold lWent at h
                split at h
                · cases h; exact e_k rfl
                · cases hp : pM c n s.2.2.2.2 (s.2.2.1 1) (nxt c n s.1) with
                  | inr e' => rw [hp] at h; cases h; exact pM_e hp
                  | inl q =>
                    rw [hp] at h
                    dsimp only at h
                    split at h
                    · cases h; exact e_k rfl
                    · cases h
theorem lAll_e : ∀ {f : Nat} {s : PS} {e : FP}, lAll c n f s = .inr e → 1 ≤ e.1 ∧ e.1 ≤ 6
  | 0, s, e, h => by rw [lAll] at h; cases h; exact e_k rfl
  | f + 1, s, e, h => by
    rw [lAll] at h
    cases hl : lLine c n s with
    | inr e' => rw [hl] at h; cases h; exact lLine_e hl
    | inl u =>
      rw [hl] at h
      dsimp only at h
      split at h
      · split at h
        · cases h
        · cases h; exact e_k rfl
      · split at h
        · cases h; exact e_k rfl
        · exact lAll_e h
end Er
/-- the reference's now behind a draft -/
def nV1 (k : Nat) (A0 A2 : Nat → Nat) (V : Nat → Int32) : Nat → Int32 := fun y => if y < k then nI (A0 y) else if 6 ≤ y ∧ y < 6 + k then nI (A2 (y - 6)) else V y
def nV2 (k : Nat) (V : Nat → Int32) : Nat → Int32 := fun y => if 18 ≤ y ∧ y < 18 + k then -2 else V y
def nVd (n : Nat) (A0 A2 : Nat → Nat) (L : Nat) (V : Nat → Int32) : Nat → Int32 := upd (nV2 6 (nV1 n A0 A2 (mix 28 V (fun _ => 0)))) 25 (nI L)
theorem nV1_s {k : Nat} {A0 A2 : Nat → Nat} {V : Nat → Int32} (hk : k < 6) : upd (upd (nV1 k A0 A2 V) k (nI (A0 k))) (6 + k) (nI (A2 k)) = nV1 (k + 1) A0 A2 V := by
  funext y
  unfold upd nV1
  by_cases h1 : y = 6 + k
  · rw [if_pos h1, if_neg (by omega), if_pos (by omega), show y - 6 = k by omega]
  · rw [if_neg h1]
    by_cases h2 : y = k
    · rw [if_pos h2, if_pos (by omega), h2]
    · rw [if_neg h2]
      by_cases h3 : y < k
      · rw [if_pos h3, if_pos (by omega)]
      · rw [if_neg h3, if_neg (c := y < k + 1) (by omega)]
        by_cases h4 : 6 ≤ y ∧ y < 6 + k
        · rw [if_pos h4, if_pos (by omega)]
        · rw [if_neg h4, if_neg (by omega)]
theorem nV2_s {k : Nat} {V : Nat → Int32} : upd (nV2 k V) (18 + k) (-2) = nV2 (k + 1) V := by
  funext y
  unfold upd nV2
  by_cases h1 : y = 18 + k
  · rw [if_pos h1, if_pos (by omega)]
  · rw [if_neg h1]
    by_cases h2 : 18 ≤ y ∧ y < 18 + k
    · rw [if_pos h2, if_pos (by omega)]
    · rw [if_neg h2, if_neg (by omega)]
theorem nV1_0 {A0 A2 : Nat → Nat} {V : Nat → Int32} : nV1 0 A0 A2 V = V := by
  funext y
  unfold nV1
  rw [if_neg (Nat.not_lt_zero y), if_neg (by omega)]
theorem nV2_0 {V : Nat → Int32} : nV2 0 V = V := by
  funext y
  unfold nV2
  rw [if_neg (by omega)]
abbrev md8 (p : Nat) (t : PS) : mj_W := [mdg p (tkI t.2.1 t.2.2.1) t.2.2.1 (hiI t.2.2.1) (erI t.2.2.1) (seI t.2.2.1), (p + 1, an (t.2.2.2.1 0)), (p + 2, an (t.2.2.2.1 1)), (p + 3, an (t.2.2.2.1 2)), (p + 4, an (t.2.2.2.1 3)), (p + 5, an (t.2.2.2.1 4)), (p + 6, aL 6 (fun k => pkd (t.2.2.2.2 k))), (p + 7, a3 (t.2.2.2.1 5))]
theorem pm3 {α : Type} (a b x : α) (X : List α) : ([a, b] ++ X ++ [x]).Perm ([a, b, x] ++ X) := List.Perm.append_left [a, b] (List.perm_append_comm (l₁ := X) (l₂ := [x]))
theorem okP_00 : okP false (fun _ => 0) (fun _ _ => 0) (fun _ => []) := ⟨⟨by decide, by decide, by decide, by decide, by decide, by decide, by decide, by decide, by decide, fun _ => Nat.zero_lt_succ _, fun _ => Nat.zero_lt_succ _, fun _ => Nat.zero_lt_succ _, fun _ => Nat.zero_lt_succ _, fun _ => Nat.zero_lt_succ _, fun _ => Nat.zero_lt_succ _⟩, fun _ => ⟨rfl, rfl, rfl, rfl⟩, fun k hk => absurd hk (Nat.not_lt_zero k), fun k hk => absurd hk (Nat.not_lt_zero k)⟩
section Mdf
variable (sta : mj_S) (d : Nat) (th tr wh : Int32) (dr rd : Option Nat) (F : Nat → Int32) (wd : Int64) (ac im lw tk st : Int32) (sh ru : Int64) (rz aw al sd : Int32) (c : Nat → Nat) (V : Nat → Int32)
theorem s_Mdraft_2 (L : Nat) (y : Int32) (h6 : F 6 = nI L) (hL : L ≤ 800) (hno : inR (L + 1) y = false) : mj_Sx sta (d + 2) 195 [.ref 151, .int y] [(mo th tr wh dr rd F wd ac im lw tk st sh ru rz aw al sd)] (fun v w => v = some (.int (-1)) ∧ w = [(mo 0 2 (-1) dr rd F wd ac im lw tk st sh ru rz aw al sd)]) := by
  refine mj_Sx.mk m_X10_draft (by decide) n_X10_draft rfl (fun h0 hv => ?_)
  generalize hT : mj_rx m_X10_draft h0 _ _ = T
  repeat (first | refine g_px rfl rfl rfl ?_)
  refine g_put hv 0 rfl rfl rfl rfl rfl rfl (fun h hv => ?_)
  have hv : mj_Vw h0 ([(mo 0 tr wh dr rd F wd ac im lw tk st sh ru rz aw al sd)]) h := hv
  repeat (first | refine g_px rfl rfl rfl ?_)
  refine g_if rfl (fun cq => ?_) (fun cq => ?_)
  · repeat (first | refine g_px rfl rfl rfl ?_)
    refine g_callV hv [0] 0 rfl rfl rfl rfl rfl rfl rfl rfl (by decide) (s_Mrefused sta d 0 tr wh dr rd F wd ac im lw tk st sh ru rz aw al sd _) (fun v w' h hp hk2 hv => ?_)
    obtain ⟨rfl, rfl⟩ := hp
    subst hT
    exact g_iret hv rfl rfl rfl rfl ⟨rfl, rfl⟩
  · have cq : ¬ y < 0 := cq
    obtain ⟨k, hk, rfl⟩ := nI_of cq
    repeat (first | refine g_px rfl rfl rfl ?_ | refine g_get hv 0 rfl rfl rfl rfl ?_)
    rw [h6]
    refine g_ic rfl (fun cq2 => ?_) (fun cq2 => ?_)
    · have cq2 : nI k ≤ nI L := cq2
      rw [nI_leI hk (by omega)] at cq2
      rw [inR_k (by omega) (by omega)] at hno
      cases hno
    · repeat (first | refine g_px rfl rfl rfl ?_)
      refine g_callV hv [0] 0 rfl rfl rfl rfl rfl rfl rfl rfl (by decide) (s_Mrefused sta d 0 tr wh dr rd F wd ac im lw tk st sh ru rz aw al sd _) (fun v w' h hp hk2 hv => ?_)
      obtain ⟨rfl, rfl⟩ := hp
      subst hT
      exact g_iret hv rfl rfl rfl rfl ⟨rfl, rfl⟩
theorem s_Mdraft (L n : Nat) (h6 : F 6 = nI L) (hL : L ≤ 800) (hn : n ≤ L) (hc : bd 256 c) : mj_Sa sta (d + 9) 195 [.ref 151, (.int (nI n))] [(mo th tr wh dr rd F wd ac im lw tk st sh ru rz aw al sd), (152, ab c), (153, aI 28 V)] 8 54 (fun p v w => match lAll c n 801 (rn blk_ c n 0, false, fun _ => 0, fun _ _ => 0, fun _ => []) with
    | .inr e => v = some (.int (-1)) ∧ ∃ F' wd', F' 6 = 0 ∧ F' 12 = nI e.1 ∧ w = [(mo 0 4 (nI e.2) dr (some p) F' wd' ac im lw tk st sh ru rz aw al sd), (152, ab c), (153, aI 28 V)]
    | .inl t => v = some (.int (nI (t.2.2.1 1))) ∧ okP t.2.1 t.2.2.1 t.2.2.2.1 t.2.2.2.2 ∧ ∃ F' wd', F' 6 = 0 ∧ F' 12 = 0 ∧ w = [(mo 0 0 (-1) (some p) (some p) F' wd' 0 0 lw tk st sh ru rz aw al sd), (152, ab c), (153, aI 28 (nVd (t.2.2.1 1) (t.2.2.2.1 0) (t.2.2.2.1 2) (t.2.2.1 3) V))] ++ md8 p t) := by
  refine mj_Sa.mk m_X10_draft (by decide) n_X10_draft rfl (fun h0 hv hSB => ?_)
  generalize hT : mj_ra m_X10_draft h0 _ 8 54 _ = T
  have hin := rn_ge (p := blk_) (c := c) (Nat.zero_le n)
  repeat (first | refine g_px rfl rfl rfl ?_)
  refine g_put hv 0 rfl rfl rfl rfl rfl rfl (fun h hv => ?_)
  have hv : mj_Vw h0 ([(mo 0 tr wh dr rd F wd ac im lw tk st sh ru rz aw al sd), (152, ab c), (153, aI 28 V)]) h := hv
  repeat (first | refine g_px rfl rfl rfl ?_)
  refine g_if rfl (fun cq => absurd cq (nI_pos (by omega))) (fun cq => ?_)
  repeat (first | refine g_px rfl rfl rfl ?_ | refine g_get hv 0 rfl rfl rfl rfl ?_)
  rw [h6]
  refine g_ic rfl (fun cq => ?_) (fun cq => absurd (nI_le hn (by omega)) cq)
  repeat (first | refine g_px rfl rfl rfl ?_)
  refine g_put hv 0 rfl rfl rfl rfl rfl rfl (fun h hv => ?_)
  repeat (first | refine g_px rfl rfl rfl ?_)
  refine g_put hv 0 rfl rfl rfl rfl rfl rfl (fun h hv => ?_)
  repeat (first | refine g_px rfl rfl rfl ?_)
  refine g_put hv 0 rfl rfl rfl rfl rfl rfl (fun h hv => ?_)
  repeat (first | refine g_px rfl rfl rfl ?_)
  refine g_put hv 0 rfl rfl rfl rfl rfl rfl (fun h hv => ?_)
  have hv : mj_Vw h0 ([(mo 0 tr wh dr rd (va_up (va_up (va_up (va_up F 7 (nI n)) 6 0) 8 0) 12 0) wd ac im lw tk st sh ru rz aw al sd), (152, ab c), (153, aI 28 V)]) h := hv
  generalize hF1 : va_up (va_up (va_up (va_up F 7 (nI n)) 6 0) 8 0) 12 0 = F1 at hv
  have f6 : F1 6 = 0 := by rw [← hF1]; rfl
  have f7 : F1 7 = nI n := by rw [← hF1]; rfl
  have f8 : F1 8 = nI 0 := by rw [← hF1]; rfl
  have f12 : F1 12 = 0 := by rw [← hF1]; rfl
  refine g_run 1 rfl ?_
  -- the draft is made
  have hle : h.1.length = h0.1.length := hv.2.1
  have hze : h.2 = h0.2 := hv.2.2.1
  have hfr := hv.2.2.2
  have hvw := hv.1
  clear hv
  obtain ⟨l, z⟩ := h
  have hle : l.length = h0.1.length := hle
  have hze : z = h0.2 := hze
  refine g_nx (pc' := 47) (lv' := [some (.ref 151), some (.int (nI n)), none]) (st' := [.ref l.length, .ref 151]) (h' := (l ++ [.inr (9, mj_new 9)], z + 15)) rfl rfl ?_
  refine g_run 1 rfl ?_
  refine a_call (mid := 156) (h' := (l ++ cs_X9 l.length, z + 15 + 39)) rfl rfl rfl rfl (s_I_X9 sta (d + 6) l (z + 15)) ?_
  have hv2 : mj_vw ([(mo 0 tr wh dr rd F1 wd ac im lw tk st sh ru rz aw al sd), (152, ab c), (153, aI 28 V)] ++ mj_key l.length (cs_X9 l.length)) (l ++ cs_X9 l.length, z + 15 + 39) := vw_more (h := (l, z)) hvw (by show l.length + 8 ≤ _; rw [hle]; exact hSB)
  rw [hle] at hv2 ⊢
  generalize hp : h0.1.length = p at *
  have e9 : mj_key p (cs_X9 p) = md8 p (rn blk_ c n 0, false, fun _ => 0, fun _ _ => 0, fun _ => []) := by
    show [_, (p + 1, zI 6), (p + 2, zI 6), (p + 3, zI 6), (p + 4, zI 6), (p + 5, zI 6), (p + 6, zL 6), (p + 7, zI 3)] = _
    rw [z_an, z_aL, z_aN 3]
    rfl
  rw [e9] at hv2
  have hp1 : ([(mo 0 tr wh dr rd F1 wd ac im lw tk st sh ru rz aw al sd), (152, ab c), (153, aI 28 V)] ++ md8 p (rn blk_ c n 0, false, fun _ => 0, fun _ _ => 0, fun _ => [])).Perm (wrd (mo 0 tr wh dr rd F1 wd ac im lw tk st sh ru rz aw al sd) c p false (fun _ => 0) (fun _ _ => 0) (fun _ => []) ++ [(153, aI 28 V)]) := List.Perm.append_left [(mo 0 tr wh dr rd F1 wd ac im lw tk st sh ru rz aw al sd), (152, ab c)] (List.perm_append_comm (l₁ := [(153, aI 28 V)]) (l₂ := md8 p (rn blk_ c n 0, false, fun _ => 0, fun _ _ => 0, fun _ => [])))
  have hvw2 := hv2.perm hp1
  have hfr2 : ∀ j, j < p → j ∉ [151, 152, 153] → mj_nth (l ++ cs_X9 p) j = mj_nth h0.1 j := by
    intro j hj hn2
    have h1 := hfr j hn2
    have h1 : mj_nth l j = mj_nth h0.1 j := h1
    rw [← h1, mj_nth_eq, mj_nth_eq, List.getElem?_append_left (by omega)]
  have hl2 : (l ++ cs_X9 p).length = p + 8 := by
    rw [List.length_append, hle]
    rfl
  have hz2 : z + 15 + 39 = h0.2 + 54 := by omega
  -- from here on the heap keeps its length
  have ret : ∀ (v : Option Value) (w w2 : mj_W) (h : mj_H) pc lv sk, mj_Vw (l ++ cs_X9 p, z + 15 + 39) w h → (∀ k ∈ mj_ks w, k ∈ [151, 152, 153] ∨ p ≤ k) → (∃ u, w.Perm (w2 ++ u)) → (match lAll c n 801 (rn blk_ c n 0, false, fun _ => 0, fun _ _ => 0, fun _ => []) with
    | .inr e => v = some (.int (-1)) ∧ ∃ F' wd', F' 6 = 0 ∧ F' 12 = nI e.1 ∧ w2 = [(mo 0 4 (nI e.2) dr (some p) F' wd' ac im lw tk st sh ru rz aw al sd), (152, ab c), (153, aI 28 V)]
    | .inl t => v = some (.int (nI (t.2.2.1 1))) ∧ okP t.2.1 t.2.2.1 t.2.2.2.1 t.2.2.2.2 ∧ ∃ F' wd', F' 6 = 0 ∧ F' 12 = 0 ∧ w2 = [(mo 0 0 (-1) (some p) (some p) F' wd' 0 0 lw tk st sh ru rz aw al sd), (152, ab c), (153, aI 28 (nVd (t.2.2.1 1) (t.2.2.2.1 0) (t.2.2.2.1 2) (t.2.2.1 3) V))] ++ md8 p t) → mj_ret m_X10_draft v h pc lv sk h → mj_go sta (mj_Cl sta (d + 8)) m_X10_draft T pc lv sk h := by
    intro v w w2 h pc lv sk hv hk hu hpost hr
    obtain ⟨u, hu⟩ := hu
    subst hT
    refine mj_go.here ⟨v, w2, ?_, (hv.1.perm hu).pre, ?_, ?_, ?_, hr⟩
    · rw [hp]; exact hpost
    · rw [hp]; exact hv.2.1.trans hl2
    · exact hv.2.2.1.trans hz2
    · intro j hj hn2
      rw [hp] at hj
      rw [hv.2.2.2 j (fun z => (hk j z).elim (fun z => hn2 z) (fun z => by omega))]
      exact hfr2 j hj hn2
  have hv : mj_Vw (l ++ cs_X9 p, z + 15 + 39) (wrd (mo 0 tr wh dr rd F1 wd ac im lw tk st sh ru rz aw al sd) c p false (fun _ => 0) (fun _ _ => 0) (fun _ => []) ++ [(153, aI 28 V)]) (l ++ cs_X9 p, z + 15 + 39) := hvw2.V
  generalize hh1 : (l ++ cs_X9 p, z + 15 + 39) = h1 at hv ret
  refine g_put hv 0 rfl rfl rfl rfl rfl rfl (fun h hv => ?_)
  have hv : mj_Vw h1 (wrd (mo 0 tr wh dr (some p) F1 wd ac im lw tk st sh ru rz aw al sd) c p false (fun _ => 0) (fun _ _ => 0) (fun _ => []) ++ [(153, aI 28 V)]) h := hv
  repeat (first | refine g_px rfl rfl rfl ?_)
  refine g_put hv 0 rfl rfl rfl rfl rfl rfl (fun h hv => ?_)
  have hv : mj_Vw h1 (wrd (mo 0 tr wh dr (some p) (va_up F1 9 0) wd ac im lw tk st sh ru rz aw al sd) c p false (fun _ => 0) (fun _ _ => 0) (fun _ => []) ++ [(153, aI 28 V)]) h := hv
  repeat (first | refine g_px rfl rfl rfl ?_)
  refine g_callV hv [0,1] 0 rfl rfl rfl rfl rfl rfl rfl rfl (by decide) (s_MgoesOn_j sta (d + 6) 0 tr wh dr (some p) (va_up F1 9 0) wd ac im lw tk st sh ru rz aw al sd c n 0 (Nat.zero_le n) (by omega) f6 f7 f8 (fun z => by have z : (0 : Int32) = 5 := z; revert z; decide) f12 hc) (fun v w' h hp hk2 hv => ?_)
  obtain ⟨rfl, F2, wd2, hR, rfl⟩ := hp
  have hv : mj_Vw h1 (wrd (mo 0 tr wh dr (some p) F2 wd2 ac im lw tk st sh ru rz aw al sd) c p false (fun _ => 0) (fun _ _ => 0) (fun _ => []) ++ [(153, aI 28 V)]) h := hv
  repeat (first | refine g_px rfl rfl rfl ?_)
  refine g_callVp hv 0 rfl rfl rfl rfl rfl rfl (s_MreadAll sta d 0 tr wh dr F2 wd2 ac im lw tk st sh ru rz aw al sd c n p false (fun _ => 0) (fun _ _ => 0) (fun _ => []) 801 (rn blk_ c n 0) (by omega) okP_00 (by omega) hc hR) (fun v w' h hp hk2 hv => ?_)
  obtain ⟨rfl, hp3⟩ := hp
  generalize hA : lAll c n 801 (rn blk_ c n 0, false, fun _ => 0, fun _ _ => 0, fun _ => []) = A at hp3 ret
  have kin : ∀ (o : va_E) (X : mj_W), mj_ks X = [p, p + 1, p + 2, p + 3, p + 4, p + 5, p + 6, p + 7] → ∀ W2 : va_E, ∀ k ∈ mj_ks ([(151, o), (152, ab c)] ++ X ++ [(153, W2)]), k ∈ [151, 152, 153] ∨ p ≤ k := by
    intro o X hX W2 k hk
    rw [mj_ks_app, mj_ks_app, hX] at hk
    rcases List.mem_append.mp hk with hk | hk
    · rcases List.mem_append.mp hk with hk | hk
      · exact Or.inl (by rcases List.mem_cons.mp hk with rfl | hk
                         · exact List.mem_cons_self
                         · rcases List.mem_cons.mp hk with rfl | hk
                           · exact List.mem_cons_of_mem _ List.mem_cons_self
                           · cases hk)
      · refine Or.inr ?_
        simp only [List.mem_cons, List.not_mem_nil, or_false] at hk
        omega
    · exact Or.inl (by rcases List.mem_cons.mp hk with rfl | hk
                       · exact List.mem_cons_of_mem _ (List.mem_cons_of_mem _ List.mem_cons_self)
                       · cases hk)
  cases A with
  | inr e =>
    obtain ⟨F3, wd3, told, D, MA, nm, hR3, rfl⟩ := hp3
    have he := lAll_e hA
    have hv : mj_Vw h1 (wrd (mo 0 tr wh dr (some p) F3 wd3 ac im lw tk st sh ru rz aw al sd) c p told D MA nm ++ [(153, aI 28 V)]) h := hv
    obtain ⟨r6, r7, r9, r12, r13⟩ := hR3
    repeat (first | refine g_px rfl rfl rfl ?_ | refine g_get hv 0 rfl rfl rfl rfl ?_)
    rw [r12]
    refine g_if rfl (fun cq => ?_) (fun cq => ?_)
    · have cq : nI e.1 ≤ nI 0 := cq
      rw [nI_leI (by omega) (by omega)] at cq
      omega
    · repeat (first | refine g_px rfl rfl rfl ?_)
      refine g_put hv 0 rfl rfl rfl rfl rfl rfl (fun h hv => ?_)
      repeat (first | refine g_px rfl rfl rfl ?_ | refine g_get hv 0 rfl rfl rfl rfl ?_)
      rw [r13]
      refine g_put hv 0 rfl rfl rfl rfl rfl rfl (fun h hv => ?_)
      have hv : mj_Vw h1 ([(mo 0 4 (nI e.2) dr (some p) F3 wd3 ac im lw tk st sh ru rz aw al sd), (152, ab c)] ++ [mdg p (tkI told D) D (hiI D) (erI D) (seI D), (p + 1, an (MA 0)), (p + 2, an (MA 1)), (p + 3, an (MA 2)), (p + 4, an (MA 3)), (p + 5, an (MA 4)), (p + 6, aL 6 (fun k => pkd (nm k))), (p + 7, a3 (MA 5))] ++ [(153, aI 28 V)]) h := hv
      refine g_run 1 rfl ?_
      exact ret (some (.int (-1))) _ [(mo 0 4 (nI e.2) dr (some p) F3 wd3 ac im lw tk st sh ru rz aw al sd), (152, ab c), (153, aI 28 V)] h _ _ _ hv (kin _ _ rfl _) ⟨_, pm3 _ _ _ _⟩ ⟨rfl, F3, wd3, r6, r12, rfl⟩ ⟨rfl, _, rfl, _, _, rfl, rfl, rfl, rfl⟩
  | inl t =>
    obtain ⟨hPt, htn, F3, wd3, hR3, rfl⟩ := hp3
    obtain ⟨ti, told, D, MA, nm⟩ := t
    have r6 : F3 6 = 0 := hR3.1
    have r12 : F3 12 = 0 := hR3.2.2.2.2.2.1
    have hD1 : D 1 ≤ 6 := hPt.1.2.1
    repeat (first | refine g_px rfl rfl rfl ?_ | refine g_get hv 0 rfl rfl rfl rfl ?_)
    rw [r12]
    refine g_if rfl (fun cq => ?_) (fun cq => absurd (show ¬ ((0 : Int32) ≤ 0) from cq) (by decide))
    repeat (first | refine g_px rfl rfl rfl ?_ | refine g_get hv 0 rfl rfl rfl rfl ?_)
    refine g_put hv 0 rfl rfl rfl rfl rfl rfl (fun h hv => ?_)
    have hv : mj_Vw h1 (wrd (mo 0 tr wh (some p) (some p) F3 wd3 ac im lw tk st sh ru rz aw al sd) c p told D MA nm ++ [(153, aI 28 V)]) h := hv
    -- the end
    have l3 : ∀ j k W h, k + j = 6 → mj_Vw h1 (wrd (mo 0 tr wh (some p) (some p) F3 wd3 ac im lw tk st sh ru rz aw al sd) c p told D MA nm ++ [(153, aI 28 (nV2 k W))]) h → W = nV1 (D 1) (MA 0) (MA 2) (mix 28 V (fun _ => 0)) → mj_go sta (mj_Cl sta (d + 8)) m_X10_draft T 174 [some (.ref 151), some (.int (nI n)), some (.int (nI k))] [] h := by
      intro j
      induction j with
      | zero =>
        intro k W h hk hv hW
        have hk : k = 6 := by omega
        subst hk
        repeat (first | refine g_px rfl rfl rfl ?_)
        refine g_ic rfl (fun cq => ?_) (fun cq => absurd (cpT (by decide)) cq)
        repeat (first | refine g_px rfl rfl rfl ?_ | refine g_get hv 0 rfl rfl rfl rfl ?_ | refine g_get hv 2 rfl rfl rfl rfl ?_)
        refine g_vIs (L := 28) hv 10 (k := 25) (by omega) (by decide) rfl rfl (fun h hv => ?_)
        repeat (first | refine g_px rfl rfl rfl ?_)
        refine g_put hv 0 rfl rfl rfl rfl rfl rfl (fun h hv => ?_)
        repeat (first | refine g_px rfl rfl rfl ?_)
        refine g_put hv 0 rfl rfl rfl rfl rfl rfl (fun h hv => ?_)
        have hv : mj_Vw h1 ([(mo 0 tr wh (some p) (some p) F3 wd3 0 0 lw tk st sh ru rz aw al sd), (152, ab c)] ++ md8 p (ti, told, D, MA, nm) ++ [(153, aI 28 (upd (nV2 6 W) 25 (nI (D 3))))]) h := hv
        repeat (first | refine g_px rfl rfl rfl ?_ | refine g_get hv 0 rfl rfl rfl rfl ?_ | refine g_get hv 2 rfl rfl rfl rfl ?_)
        refine g_callV hv [0] 0 rfl rfl rfl rfl rfl rfl rfl rfl (by decide) (s_Mgood sta (d + 7) 0 tr wh (some p) (some p) F3 wd3 0 0 lw tk st sh ru rz aw al sd _) (fun v w' h hp hk2 hv => ?_)
        obtain ⟨rfl, rfl⟩ := hp
        have hv : mj_Vw h1 ([(mo 0 0 (-1) (some p) (some p) F3 wd3 0 0 lw tk st sh ru rz aw al sd), (152, ab c)] ++ md8 p (ti, told, D, MA, nm) ++ [(153, aI 28 (upd (nV2 6 W) 25 (nI (D 3))))]) h := hv
        rw [hW] at hv
        exact ret (some (.int (nI (D 1)))) _ ([(mo 0 0 (-1) (some p) (some p) F3 wd3 0 0 lw tk st sh ru rz aw al sd), (152, ab c), (153, aI 28 (nVd (D 1) (MA 0) (MA 2) (D 3) V))] ++ md8 p (ti, told, D, MA, nm)) h _ _ _ hv (kin _ _ rfl _) ⟨[], by rw [List.append_nil]; exact pm3 _ _ _ _⟩ ⟨rfl, hPt, F3, wd3, r6, r12, rfl⟩ ⟨rfl, _, rfl, _, _, rfl, rfl, rfl, rfl⟩
      | succ j ih =>
        intro k W h hk hv hW
        repeat (first | refine g_px rfl rfl rfl ?_)
        refine g_ic rfl (fun cq => ?_) (fun cq => ?_)
        · simp (disch := omega) only [mj_cp, k_6, k_7, k_8, k_9, k_10, k_12, k_15, k_16, k_18, k_20, k_24, k_25, k_26, k_27, k_28, k_32, k_36, k_48, k_57, k_59, k_63, k_74, k_75, k_84, k_90, k_97, k_99, k_100, k_122, k_200, k_255, k_420, k_448, k_720, k_800, k_999, k_bit, k_shl, fa_and, nI_add, bl_1, bl_0, bl_n1, bl_n0, bl_i1, nI_lt0, nI_0le, nI_eq0, nI_eqT, nI_leI, nI_ltI, nI_eq, Nat.not_le, Nat.not_lt, Bool.not_eq_true, Bool.not_eq_false, not_true_eq_false, not_false_eq_true, Decidable.not_not] at cq
          omega
        · refine g_run 1 rfl ?_
          refine g_get hv 0 rfl rfl rfl rfl ?_
          refine g_run 3 rfl ?_
          rw [show (Int8.ofInt 18).toInt32 + nI k = nI (18 + k) from nI_add 18 k]
          refine g_run 1 rfl ?_
          refine g_vIs (L := 28) hv 10 (k := 18 + k) (by omega) (by decide) rfl rfl (fun h hv => ?_)
          refine g_run 2 rfl ?_
          have hv : mj_Vw h1 (wrd (mo 0 tr wh (some p) (some p) F3 wd3 ac im lw tk st sh ru rz aw al sd) c p told D MA nm ++ [(153, aI 28 (upd (nV2 k W) (18 + k) (-2)))]) h := hv
          rw [nV2_s] at hv
          have hnx := ih (k + 1) W h (by omega) hv hW
          rw [nI_succ] at hnx
          exact hnx
    have l2 : ∀ j k h, k + j = D 1 → mj_Vw h1 (wrd (mo 0 tr wh (some p) (some p) F3 wd3 ac im lw tk st sh ru rz aw al sd) c p told D MA nm ++ [(153, aI 28 (nV1 k (MA 0) (MA 2) (mix 28 V (fun _ => 0))))]) h → mj_go sta (mj_Cl sta (d + 8)) m_X10_draft T 120 [some (.ref 151), some (.int (nI n)), some (.int (nI k))] [] h := by
      intro j
      induction j with
      | zero =>
        intro k h hk hv
        have hk : k = D 1 := by omega
        subst hk
        repeat (first | refine g_px rfl rfl rfl ?_ | refine g_get hv 0 rfl rfl rfl rfl ?_ | refine g_get hv 2 rfl rfl rfl rfl ?_)
        refine g_ic rfl (fun cq => ?_) (fun cq => ?_)
        · refine g_run 2 rfl ?_
          exact l3 6 0 _ h rfl (by rw [nV2_0]; exact hv) rfl
        · simp (disch := omega) only [mj_cp, k_6, k_7, k_8, k_9, k_10, k_12, k_15, k_16, k_18, k_20, k_24, k_25, k_26, k_27, k_28, k_32, k_36, k_48, k_57, k_59, k_63, k_74, k_75, k_84, k_90, k_97, k_99, k_100, k_122, k_200, k_255, k_420, k_448, k_720, k_800, k_999, k_bit, k_shl, fa_and, nI_add, bl_1, bl_0, bl_n1, bl_n0, bl_i1, nI_lt0, nI_0le, nI_eq0, nI_eqT, nI_leI, nI_ltI, nI_eq, Nat.not_le, Nat.not_lt, Bool.not_eq_true, Bool.not_eq_false, not_true_eq_false, not_false_eq_true, Decidable.not_not] at cq
          omega
      | succ j ih =>
        intro k h hk hv
        repeat (first | refine g_px rfl rfl rfl ?_ | refine g_get hv 0 rfl rfl rfl rfl ?_ | refine g_get hv 2 rfl rfl rfl rfl ?_)
        refine g_ic rfl (fun cq => ?_) (fun cq => ?_)
        · simp (disch := omega) only [mj_cp, k_6, k_7, k_8, k_9, k_10, k_12, k_15, k_16, k_18, k_20, k_24, k_25, k_26, k_27, k_28, k_32, k_36, k_48, k_57, k_59, k_63, k_74, k_75, k_84, k_90, k_97, k_99, k_100, k_122, k_200, k_255, k_420, k_448, k_720, k_800, k_999, k_bit, k_shl, fa_and, nI_add, bl_1, bl_0, bl_n1, bl_n0, bl_i1, nI_lt0, nI_0le, nI_eq0, nI_eqT, nI_leI, nI_ltI, nI_eq, Nat.not_le, Nat.not_lt, Bool.not_eq_true, Bool.not_eq_false, not_true_eq_false, not_false_eq_true, Decidable.not_not] at cq
          omega
        · refine g_run 1 rfl ?_
          refine g_get hv 0 rfl rfl rfl rfl ?_
          refine g_run 3 rfl ?_
          rw [z_add]
          repeat (first | refine g_px rfl rfl rfl ?_ | refine g_get hv 0 rfl rfl rfl rfl ?_ | refine g_get hv 2 rfl rfl rfl rfl ?_)
          refine g_n6 hv 3 (show k < 6 by omega) rfl rfl ?_
          refine g_vIs (L := 28) hv 10 (k := k) (by omega) (by decide) rfl rfl (fun h hv => ?_)
          refine g_run 1 rfl ?_
          refine g_get hv 0 rfl rfl rfl rfl ?_
          refine g_run 3 rfl ?_
          rw [show (Int8.ofInt 6).toInt32 + nI k = nI (6 + k) from nI_add 6 k]
          repeat (first | refine g_px rfl rfl rfl ?_ | refine g_get hv 0 rfl rfl rfl rfl ?_ | refine g_get hv 2 rfl rfl rfl rfl ?_)
          refine g_n6 hv 5 (show k < 6 by omega) rfl rfl ?_
          refine g_vIs (L := 28) hv 10 (k := 6 + k) (by omega) (by decide) rfl rfl (fun h hv => ?_)
          refine g_run 2 rfl ?_
          have hv : mj_Vw h1 (wrd (mo 0 tr wh (some p) (some p) F3 wd3 ac im lw tk st sh ru rz aw al sd) c p told D MA nm ++ [(153, aI 28 (upd (upd (nV1 k (MA 0) (MA 2) (mix 28 V (fun _ => 0))) k (nI (MA 0 k))) (6 + k) (nI (MA 2 k))))]) h := hv
          rw [nV1_s (by omega)] at hv
          have hnx := ih (k + 1) h (by omega) hv
          rw [nI_succ] at hnx
          exact hnx
    have l1 : ∀ j k h, k + j = 28 → mj_Vw h1 (wrd (mo 0 tr wh (some p) (some p) F3 wd3 ac im lw tk st sh ru rz aw al sd) c p told D MA nm ++ [(153, aI 28 (mix k V (fun _ => 0)))]) h → mj_go sta (mj_Cl sta (d + 8)) m_X10_draft T 99 [some (.ref 151), some (.int (nI n)), some (.int (nI k))] [] h := by
      intro j
      induction j with
      | zero =>
        intro k h hk hv
        have hk : k = 28 := by omega
        subst hk
        repeat (first | refine g_px rfl rfl rfl ?_)
        refine g_ic rfl (fun cq => ?_) (fun cq => absurd (cpT (by decide)) cq)
        refine g_run 2 rfl ?_
        exact l2 (D 1) 0 h (by omega) (by rw [nV1_0]; exact hv)
      | succ j ih =>
        intro k h hk hv
        repeat (first | refine g_px rfl rfl rfl ?_)
        refine g_ic rfl (fun cq => ?_) (fun cq => ?_)
        · simp (disch := omega) only [mj_cp, k_6, k_7, k_8, k_9, k_10, k_12, k_15, k_16, k_18, k_20, k_24, k_25, k_26, k_27, k_28, k_32, k_36, k_48, k_57, k_59, k_63, k_74, k_75, k_84, k_90, k_97, k_99, k_100, k_122, k_200, k_255, k_420, k_448, k_720, k_800, k_999, k_bit, k_shl, fa_and, nI_add, bl_1, bl_0, bl_n1, bl_n0, bl_i1, nI_lt0, nI_0le, nI_eq0, nI_eqT, nI_leI, nI_ltI, nI_eq, Nat.not_le, Nat.not_lt, Bool.not_eq_true, Bool.not_eq_false, not_true_eq_false, not_false_eq_true, Decidable.not_not] at cq
          omega
        · refine g_run 1 rfl ?_
          refine g_get hv 0 rfl rfl rfl rfl ?_
          refine g_run 2 rfl ?_
          refine g_vIs (L := 28) hv 10 (k := k) (by omega) (by decide) rfl rfl (fun h hv => ?_)
          refine g_run 2 rfl ?_
          have hv : mj_Vw h1 (wrd (mo 0 tr wh (some p) (some p) F3 wd3 ac im lw tk st sh ru rz aw al sd) c p told D MA nm ++ [(153, aI 28 (upd (mix k V (fun _ => 0)) k ((fun _ => (0 : Int32)) k)))]) h := hv
          rw [upd_mix] at hv
          have hnx := ih (k + 1) h (by omega) hv
          rw [nI_succ] at hnx
          exact hnx
    refine g_run 2 rfl ?_
    exact l1 28 0 h rfl (by rw [mix_0]; exact hv)
end Mdf
