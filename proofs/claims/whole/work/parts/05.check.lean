/-! what a row of the tables rests on, as a check that is computed -/
def mj_isF (w : Option Cond) (own : String) (i : Nat) (q : String × String × String × Bool) : Bool := match w with
  | some (.fieldLink a j r n d) => decide (a = own ∧ j = i ∧ r = q.1 ∧ n = q.2.1 ∧ d = q.2.2.1)
  | some (.fieldLinkNest a j r n d _) => decide (a = own ∧ j = i ∧ r = q.1 ∧ n = q.2.1 ∧ d = q.2.2.1)
  | _ => false
def mj_isFp (w : Option Cond) : Bool := match w with
  | some (.fieldLink ..) => true
  | _ => false
def mj_isM (w : Option Cond) (own : String) (i : Nat) (c : Nat) : Bool := match mj_nth mj_ms (c / 256) with
  | some M => match w with
    | some (.methodLink a j y) => decide (a = own ∧ j = i ∧ y = mj_nm M)
    | some (.methodLinkNest a j y _) => decide (a = own ∧ j = i ∧ y = mj_nm M)
    | _ => false
  | none => false
/-- the builtins' names -/
def mj_bn (k : Nat) : MethodName := match k with
  | 0 => objectInit
  | 1 => yJ0_length_8abf5
  | 2 => yJ0_charAt_5068e
  | _ => yL_led
def mj_isB (w : Option Cond) (own : String) (i : Nat) (k : Nat) : Bool := match w with
  | some (.methodLink a j y) => decide (a = own ∧ j = i ∧ y = mj_bn k)
  | _ => false
def mj_np (M : mj_M) (n : Nat) : Bool := decide ((parseMethodDescriptor (mj_nm M).desc).map (fun d => d.parameters.length) = some n)
/-- is the row right: own class, is it a constructor, locals, as resolved, as it stands, its word -/
def mj_ok (own : String) (ini : Bool) (nL : Nat) (res raw : Instr) (w : Option Cond) : Bool := match res with
  | .getfield c => match raw with
    | .getfield i => match mj_nth vwCl (c / 64) with
      | some q => decide (c % 64 < q.2.2) && mj_isF w own i (q.2.1 (c % 64))
      | none => false
    | _ => false
  | .putfield c => match raw with
    | .putfield i => match mj_nth vwCl (c / 64) with
      | some q => decide (c % 64 < q.2.2) && (mj_isF w own i (q.2.1 (c % 64)) && (!(q.2.1 (c % 64)).2.2.2 || (ini && (mj_isFp w && decide ((q.2.1 (c % 64)).1 = own)))))
      | none => false
    | _ => false
  | .getstatic j => match raw with
    | .getstatic i => decide (j = 100) && mj_isF w own i ("LowNumber", "FACTORIALS", "[I", true)
    | _ => false
  | .invokevirtual c => match raw with
    | .invokevirtual i => if c / 256 < 4 then decide (1 ≤ c / 256 ∧ c / 256 ≤ 2 ∧ c / 16 % 16 = c / 256) && mj_isB w own i (c / 256) else mj_isM w own i c && (match mj_nth mj_ms (c / 256), mj_nth vwCl (c % 16) with
      | some M, some q => decide ((mj_nm M).cls = q.1) && (decide (1 ≤ c / 16 % 16) && (mj_np M (c / 16 % 16 - 1) && (decide (.instanceMethod (mj_nm M) ∈ lw_tbl) && decide (.selects q.1 (mj_nm M) (mj_nm M) ∈ lw_tbl))))
      | _, _ => false)
    | _ => false
  | .invokestatic c => match raw with
    | .invokestatic i => if c / 256 < 4 then decide (c / 256 = 3 ∧ c / 16 % 16 = 3) && mj_isB w own i 3 else mj_isM w own i c && (match mj_nth mj_ms (c / 256) with
      | some M => mj_np M (c / 16 % 16) && decide (.static (mj_nm M) ∈ lw_tbl)
      | _ => false)
    | _ => false
  | .invokespecial c => match raw with
    | .invokespecial i => if c / 256 < 4 then decide (c / 256 = 0 ∧ c / 16 % 16 = 1) && mj_isB w own i 0 else mj_isM w own i c && (match mj_nth mj_ms (c / 256) with
      | some M => decide (1 ≤ c / 16 % 16 ∧ (mj_nm M).name = "<init>" ∧ mj_rt M = none) && (mj_np M (c / 16 % 16 - 1) && decide (.instanceMethod (mj_nm M) ∈ lw_tbl))
      | _ => false)
    | _ => false
  | .iconst n => match raw with
    | .iconst m => decide (n = m)
    | .ldc i => (match w with | some (.constant a j v) => decide (a = own ∧ j = i ∧ Int32.ofInt n = v) | _ => false)
    | .ldc_w i => (match w with | some (.constant a j v) => decide (a = own ∧ j = i ∧ Int32.ofInt n = v) | _ => false)
    | _ => false
  | .ldc j => match raw with
    | .ldc i => (match w with | some (.stringRef a k tx) => decide (a = own ∧ k = i ∧ mj_nth mj_str j = some (a, k, tx)) | _ => false)
    | .ldc_w i => (match w with | some (.stringRef a k tx) => decide (a = own ∧ k = i ∧ mj_nth mj_str j = some (a, k, tx)) | _ => false)
    | _ => false
  | .ldc2_w n => match raw with
    | .ldc2_w i => (match w with | some (.constantLong a j v) => decide (a = own ∧ j = i ∧ Int64.ofNat n = v) | _ => false)
    | _ => false
  | .new ci => match raw with
    | .new i => (match w, mj_nth vwCl ci with | some (.classLink a j C), some q => decide (a = own ∧ j = i ∧ C = q.1) && (decide (.instantiable q.1 q.2.2 ∈ lw_tbl) && decide (.initialized q.1 ∈ lw_tbl)) | _, _ => false)
    | _ => false
  | .anewarray k => match raw with
    | .anewarray i => (match w with | some (.classLink a j C) => decide (k = 3 ∧ a = own ∧ j = i ∧ C = "LowNumber$Now") | _ => false)
    | _ => false
  | .multianewarray k d => match raw with
    | .multianewarray i d2 => (match w with | some (.classLink a j C) => decide (k = 4 ∧ d = 2 ∧ d2 = 2 ∧ a = own ∧ j = i ∧ C = "[[I") | _ => false)
    | _ => false
  | .istore_n k => decide (raw = res) && decide ((k : Nat) < nL)
  | .istore k => decide (raw = res) && decide (k < nL)
  | .astore_n k => decide (raw = res) && decide ((k : Nat) < nL)
  | .astore k => decide (raw = res) && decide (k < nL)
  | .lstore_n k => decide (raw = res) && decide ((k : Nat) + 1 < nL)
  | .lstore k => decide (raw = res) && decide (k + 1 < nL)
  | .iinc k _ => decide (raw = res) && decide (k < nL)
  | _ => decide (raw = res)
def mj_len (i : Instr) : Nat := match i with
  | .bipush _ => 2 | .sipush _ => 3 | .ldc _ => 2 | .ldc_w _ => 3 | .ldc2_w _ => 3 | .iload _ => 2 | .lload _ => 2 | .aload _ => 2 | .istore _ => 2 | .lstore _ => 2 | .astore _ => 2
  | .iinc _ _ => 3 | .goto _ => 3 | .ifCond _ _ => 3 | .if_icmp _ _ => 3 | .ifnull _ => 3 | .ifnonnull _ => 3 | .getfield _ => 3 | .putfield _ => 3 | .getstatic _ => 3
  | .invokevirtual _ => 3 | .invokestatic _ => 3 | .invokespecial _ => 3 | .new _ => 3 | .newarray _ => 2 | .anewarray _ => 3 | .multianewarray _ _ => 4 | _ => 1
def mj_lenok (i : Instr) (len : Nat) : Bool := match i with
  | .tableswitch _ _ _ _ => true
  | i => Nat.beq len (mj_len i)
def mj_tgok (pc : Nat) (i : Instr) : Bool := match i with
  | .goto off => decide (0 ≤ (pc : Int) + off)
  | .ifCond _ off => decide (0 ≤ (pc : Int) + off)
  | .if_icmp _ off => decide (0 ≤ (pc : Int) + off)
  | .ifnull off => decide (0 ≤ (pc : Int) + off)
  | .ifnonnull off => decide (0 ≤ (pc : Int) + off)
  | .tableswitch d _ _ offs => decide (0 ≤ (pc : Int) + d) && offs.toList.all (fun off => decide (0 ≤ (pc : Int) + off))
  | _ => true
def mj_okE (M : mj_M) (e : mj_I) : Bool := (mj_lenok e.2.2.2.1 e.2.2.1 && mj_tgok e.1 e.2.2.2.1) && (decide (decode (mj_bt M) e.1 = .ok (e.2.2.2.1, e.2.2.1)) && mj_ok (mj_nm M).cls (decide ((mj_nm M).name = "<init>")) (mj_mx M) e.2.1 e.2.2.2.1 (mj_nth lw_tbl e.2.2.2.2))
def mj_okR (M : mj_M) (r : List mj_I) : Bool := r.all (mj_okE M)
def mj_okM (M : mj_M) : Bool := (mj_cd M).all (mj_okR M)
theorem mj_nth_mem {α : Type} : ∀ {l : List α} {n : Nat} {a : α}, mj_nth l n = some a → a ∈ l
  | [], _, _, h => by simp [mj_nth] at h
  | b :: t, 0, a, h => by simp [mj_nth] at h; simp [h]
  | b :: t, n + 1, a, h => List.mem_cons_of_mem _ (mj_nth_mem (l := t) (n := n) h)
theorem mj_nth_eq {α : Type} : ∀ (l : List α) (n : Nat), mj_nth l n = l[n]?
  | [], _ => by simp [mj_nth]
  | b :: t, 0 => by simp [mj_nth]
  | b :: t, n + 1 => by simp [mj_nth, mj_nth_eq t n]
theorem mj_find_spec : ∀ {l : List mj_I} {pc : Nat} {e : mj_I}, mj_find l pc = some e → e ∈ l ∧ e.1 = pc
  | [], _, _, h => by simp [mj_find] at h
  | b :: t, pc, e, h => by
    unfold mj_find at h
    cases hb : Nat.beq b.1 pc with
    | true => rw [hb] at h; cases h; exact ⟨List.mem_cons_self, Nat.eq_of_beq_eq_true hb⟩
    | false => rw [hb] at h; obtain ⟨h1, h2⟩ := mj_find_spec (l := t) h; exact ⟨List.mem_cons_of_mem _ h1, h2⟩
theorem mj_ent_ok {M : mj_M} (hM : mj_okM M = true) {pc : Nat} {e : mj_I} (he : mj_ent (mj_cd M) pc = some e) : e.1 = pc ∧ mj_okE M e = true := by
  unfold mj_ent at he
  cases hr : mj_nth (mj_cd M) (pc / 32) with
  | none => rw [hr] at he; cases he
  | some r =>
    rw [hr] at he
    obtain ⟨h1, h2⟩ := mj_find_spec he
    have h3 := List.all_eq_true.mp (List.all_eq_true.mp hM r (mj_nth_mem hr)) e h1
    exact ⟨h2, h3⟩
theorem mj_tst2 : mj_okM m_X8_init = true := by decide +kernel
theorem mj_tst4 : mj_okM m_X6_isWord = true := by decide +kernel
