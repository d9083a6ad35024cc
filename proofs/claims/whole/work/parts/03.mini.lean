/-! A SMALL MACHINE: frames of resolved instructions over cells by place; what it does the Jvm does (parts 05 ..). -/
/-- cells by place; how many slots were made -/
abbrev mj_H : Type := List va_E × Nat
abbrev mj_L : Type := List (Option Value)
/-- an instruction's row: its pc, as resolved, its length, as it stands in the bytes, the place of its word in lw_tbl -/
abbrev mj_I : Type := Nat × Instr × Nat × Instr × Nat
/-- a method: name, bytes, locals, answer, its instructions in rows of 32 pcs -/
abbrev mj_M : Type := MethodName × ByteArray × Nat × Option FieldType × List (List mj_I)
abbrev mj_nm (M : mj_M) : MethodName := M.1
abbrev mj_bt (M : mj_M) : ByteArray := M.2.1
abbrev mj_mx (M : mj_M) : Nat := M.2.2.1
abbrev mj_rt (M : mj_M) : Option FieldType := M.2.2.2.1
abbrev mj_cd (M : mj_M) : List (List mj_I) := M.2.2.2.2
def mj_nth {α : Type} : List α → Nat → Option α
  | [], _ => none
  | a :: _, 0 => some a
  | _ :: t, n + 1 => mj_nth t n
def mj_find : List mj_I → Nat → Option mj_I
  | [], _ => none
  | e :: t, pc => bif Nat.beq e.1 pc then some e else mj_find t pc
def mj_ent (E : List (List mj_I)) (pc : Nat) : Option mj_I := match mj_nth E (pc / 32) with
  | some r => mj_find r pc
  | none => none
/-- the static cells' places begin here -/
def mj_SB : Nat := 1000000000
/-- locals -/
def mj_ld (lv : mj_L) (i : Nat) : Option Value := match mj_nth lv i with
  | some (some v) => some v
  | _ => none
def mj_kl (lv : mj_L) (i : Nat) : mj_L := match i with
  | 0 => lv
  | j + 1 => match mj_nth lv j with
    | some (some (.long _)) => lv.set j none
    | some (some (.double _)) => lv.set j none
    | _ => lv
def mj_s1 (lv : mj_L) (i : Nat) (v : Value) : mj_L := (mj_kl lv i).set i (some v)
def mj_s2 (lv : mj_L) (i : Nat) (v : Value) : mj_L := ((mj_kl lv i).set i (some v)).set (i + 1) none
def mj_el : List Value → mj_L
  | [] => []
  | .long x :: t => some (.long x) :: none :: mj_el t
  | .double x :: t => some (.double x) :: none :: mj_el t
  | v :: t => some v :: mj_el t
def mj_e0 (n : Nat) (as : List Value) : mj_L := mj_el as ++ List.replicate (n - (mj_el as).length) none
/-- types of fields: class, slot; as one number 64 * class + slot -/
def mj_tyc (ci k : Nat) : FieldType := match ci with
  | 0 => tyX0 k | 1 => tyX1 k | 2 => tyX2 k | 3 => tyX3 k | 4 => tyX4 k | 5 => tyX5 k | 6 => tyX6 k | 7 => tyX7 k | 8 => tyX8 k | 9 => tyX9 k | _ => tyX10 k
def mj_ty (c : Nat) : FieldType := mj_tyc (c / 64) (c % 64)
def mj_sz (ci : Nat) : Nat := match mj_nth vwCl ci with
  | some q => q.2.2
  | none => 0
/-- a new object's fields -/
def mj_new (ci : Nat) : List Value := (List.range (mj_sz ci)).map fun k => defaultValue (mj_tyc ci k)
/-- static rows of ints: the places from mj_SB on -/
abbrev mj_S : Type := Nat → Option (Nat × (Nat → Int32))
def mj_ints (sta : mj_S) (h : mj_H) (k : Nat) : Option (Nat × (Nat → Int32)) := match mj_nth h.1 k with
  | some (.inl (0, n, .inl f)) => some (n, f)
  | some _ => none
  | none => sta k
def mj_tg (pc : Nat) (off : Int) : Nat := ((pc : Int) + off).toNat
def mj_cmp (c : ClassFile.Cond) (x y : Int32) : Bool := match c with
  | .eq => decide (x = y) | .ne => !decide (x = y) | .lt => decide (x < y) | .ge => decide (y ≤ x) | .gt => decide (y < x) | .le => decide (x ≤ y)
abbrev mj_C : Type := Nat × mj_L × List Value × mj_H
/-- one instruction that isn't a call -/
def mj_nx (sta : mj_S) (i : Instr) (len pc : Nat) (lv : mj_L) (st : List Value) (h : mj_H) : Option mj_C := match i with
  | .iconst n => some (pc + len, lv, .int (Int32.ofInt n) :: st, h)
  | .bipush n => some (pc + len, lv, .int (Int8.ofInt n).toInt32 :: st, h)
  | .sipush n => some (pc + len, lv, .int (Int16.ofInt n).toInt32 :: st, h)
  | .lconst n => some (pc + len, lv, .long (Int64.ofNat (n : Nat)) :: st, h)
  | .ldc2_w n => some (pc + len, lv, .long (Int64.ofNat n) :: st, h)
  | .ldc j => some (pc + len, lv, .ref (mj_SB + j) :: st, h)
  | .getstatic j => some (pc + len, lv, .ref (mj_SB + j) :: st, h)
  | .iload_n k => match mj_ld lv k with | some (.int x) => some (pc + len, lv, .int x :: st, h) | _ => none
  | .iload k => match mj_ld lv k with | some (.int x) => some (pc + len, lv, .int x :: st, h) | _ => none
  | .lload_n k => match mj_ld lv k with | some (.long x) => some (pc + len, lv, .long x :: st, h) | _ => none
  | .lload k => match mj_ld lv k with | some (.long x) => some (pc + len, lv, .long x :: st, h) | _ => none
  | .aload_n k => match mj_ld lv k with | some (.ref x) => some (pc + len, lv, .ref x :: st, h) | _ => none
  | .aload k => match mj_ld lv k with | some (.ref x) => some (pc + len, lv, .ref x :: st, h) | _ => none
  | .istore_n k => match st with | .int x :: r => some (pc + len, mj_s1 lv k (.int x), r, h) | _ => none
  | .istore k => match st with | .int x :: r => some (pc + len, mj_s1 lv k (.int x), r, h) | _ => none
  | .lstore_n k => match st with | .long x :: r => some (pc + len, mj_s2 lv k (.long x), r, h) | _ => none
  | .lstore k => match st with | .long x :: r => some (pc + len, mj_s2 lv k (.long x), r, h) | _ => none
  | .astore_n k => match st with | .ref x :: r => some (pc + len, mj_s1 lv k (.ref x), r, h) | _ => none
  | .astore k => match st with | .ref x :: r => some (pc + len, mj_s1 lv k (.ref x), r, h) | _ => none
  | .iinc k n => match mj_ld lv k with | some (.int x) => some (pc + len, mj_s1 lv k (.int (x + Int32.ofInt n)), st, h) | _ => none
  | .iadd => match st with | .int y :: .int x :: r => some (pc + len, lv, .int (x + y) :: r, h) | _ => none
  | .isub => match st with | .int y :: .int x :: r => some (pc + len, lv, .int (x - y) :: r, h) | _ => none
  | .imul => match st with | .int y :: .int x :: r => some (pc + len, lv, .int (x * y) :: r, h) | _ => none
  | .iand => match st with | .int y :: .int x :: r => some (pc + len, lv, .int (x &&& y) :: r, h) | _ => none
  | .ior => match st with | .int y :: .int x :: r => some (pc + len, lv, .int (x ||| y) :: r, h) | _ => none
  | .ixor => match st with | .int y :: .int x :: r => some (pc + len, lv, .int (x ^^^ y) :: r, h) | _ => none
  | .ishl => match st with | .int y :: .int x :: r => some (pc + len, lv, .int (x <<< (y &&& 31)) :: r, h) | _ => none
  | .ishr => match st with | .int y :: .int x :: r => some (pc + len, lv, .int (x >>> (y &&& 31)) :: r, h) | _ => none
  | .iushr => match st with | .int y :: .int x :: r => some (pc + len, lv, .int (x.toUInt32 >>> (y.toUInt32 &&& Int32.toUInt32 31)).toInt32 :: r, h) | _ => none
  | .idiv => match st with | .int y :: .int x :: r => if y = 0 then none else some (pc + len, lv, .int (x / y) :: r, h) | _ => none
  | .irem => match st with | .int y :: .int x :: r => if y = 0 then none else some (pc + len, lv, .int (x - x / y * y) :: r, h) | _ => none
  | .ladd => match st with | .long y :: .long x :: r => some (pc + len, lv, .long (x + y) :: r, h) | _ => none
  | .lmul => match st with | .long y :: .long x :: r => some (pc + len, lv, .long (x * y) :: r, h) | _ => none
  | .ldiv => match st with | .long y :: .long x :: r => if y = 0 then none else some (pc + len, lv, .long (x / y) :: r, h) | _ => none
  | .lrem => match st with | .long y :: .long x :: r => if y = 0 then none else some (pc + len, lv, .long (x - x / y * y) :: r, h) | _ => none
  | .lcmp => match st with | .long y :: .long x :: r => some (pc + len, lv, .int (lg_cmp x y) :: r, h) | _ => none
  | .i2l => match st with | .int x :: r => some (pc + len, lv, .long x.toInt64 :: r, h) | _ => none
  | .l2i => match st with | .long x :: r => some (pc + len, lv, .int x.toInt32 :: r, h) | _ => none
  | .i2b => match st with | .int x :: r => some (pc + len, lv, .int x.toInt8.toInt32 :: r, h) | _ => none
  | .dup => match st with | .int x :: r => some (pc + len, lv, .int x :: .int x :: r, h) | .ref x :: r => some (pc + len, lv, .ref x :: .ref x :: r, h) | _ => none
  | .dup2 => match st with | .int x :: .ref a :: r => some (pc + len, lv, .int x :: .ref a :: .int x :: .ref a :: r, h) | .long x :: r => some (pc + len, lv, .long x :: .long x :: r, h) | _ => none
  | .pop => match st with | .int _ :: r => some (pc + len, lv, r, h) | .ref _ :: r => some (pc + len, lv, r, h) | _ => none
  | .goto off => some (mj_tg pc off, lv, st, h)
  | .ifCond c off => match st with | .int x :: r => some (bif mj_cmp c x 0 then mj_tg pc off else pc + len, lv, r, h) | _ => none
  | .if_icmp c off => match st with | .int y :: .int x :: r => some (bif mj_cmp c x y then mj_tg pc off else pc + len, lv, r, h) | _ => none
  | .ifnull off => match st with | .ref _ :: r => some (pc + len, lv, r, h) | .null :: r => some (mj_tg pc off, lv, r, h) | _ => none
  | .ifnonnull off => match st with | .ref _ :: r => some (mj_tg pc off, lv, r, h) | .null :: r => some (pc + len, lv, r, h) | _ => none
  | .tableswitch dflt lo hi offs => match st with
    | .int x :: r => if x.toInt < lo ∨ hi < x.toInt then some (mj_tg pc dflt, lv, r, h) else match offs[(x.toInt - lo).toNat]? with
      | some off => some (mj_tg pc off, lv, r, h)
      | none => none
    | _ => none
  | .getfield c => match st with
    | .ref k :: r => match mj_nth h.1 k with
      | some (.inr (ci, fs)) => bif Nat.beq ci (c / 64) then match mj_nth fs (c % 64) with
          | some v => some (pc + len, lv, v :: r, h)
          | none => none
        else none
      | _ => none
    | _ => none
  | .putfield c => match st with
    | v :: .ref k :: r => match mj_nth h.1 k with
      | some (.inr (ci, fs)) => bif Nat.beq ci (c / 64) then
          if c % 64 < fs.length ∧ narrow (mj_ty c) v = v ∧ fits (mj_ty c) v = true then some (pc + len, lv, r, (h.1.set k (.inr (ci, fs.set (c % 64) v)), h.2)) else none
        else none
      | _ => none
    | _ => none
  | .iaload => match st with
    | .int i :: .ref k :: r => match mj_ints sta h k with
      | some (n, f) => if i < 0 ∨ n ≤ i.toNatClampNeg then none else some (pc + len, lv, .int (f i.toNatClampNeg) :: r, h)
      | none => none
    | _ => none
  | .arraylength => match st with
    | .ref k :: r => match mj_ints sta h k with
      | some (n, _) => some (pc + len, lv, .int (Int32.ofNat n) :: r, h)
      | none => none
    | _ => none
  | .baload => match st with
    | .int i :: .ref k :: r => match mj_nth h.1 k with
      | some (.inl (2, n, .inl f)) => if i < 0 ∨ n ≤ i.toNatClampNeg then none else some (pc + len, lv, .int (f i.toNatClampNeg) :: r, h)
      | _ => none
    | _ => none
  | .laload => match st with
    | .int i :: .ref k :: r => match mj_nth h.1 k with
      | some (.inl (1, n, .inr (.inl f))) => if i < 0 ∨ n ≤ i.toNatClampNeg then none else some (pc + len, lv, .long (f i.toNatClampNeg) :: r, h)
      | _ => none
    | _ => none
  | .aaload => match st with
    | .int i :: .ref k :: r => match mj_nth h.1 k with
      | some (.inl (3, n, .inr (.inr (.inr (.inr f))))) => if i < 0 ∨ n ≤ i.toNatClampNeg then none else some (pc + len, lv, va_rf (f i.toNatClampNeg) :: r, h)
      | some (.inl (4, n, .inr (.inr (.inr (.inr f))))) => if i < 0 ∨ n ≤ i.toNatClampNeg then none else some (pc + len, lv, va_rf (f i.toNatClampNeg) :: r, h)
      | _ => none
    | _ => none
  | .iastore => match st with
    | .int x :: .int i :: .ref k :: r => match mj_nth h.1 k with
      | some (.inl (0, n, .inl f)) => if i < 0 ∨ n ≤ i.toNatClampNeg then none else some (pc + len, lv, r, (h.1.set k (.inl (0, n, .inl (upd f i.toNatClampNeg x))), h.2))
      | _ => none
    | _ => none
  | .bastore => match st with
    | .int x :: .int i :: .ref k :: r => match mj_nth h.1 k with
      | some (.inl (2, n, .inl f)) => if i < 0 ∨ n ≤ i.toNatClampNeg then none else some (pc + len, lv, r, (h.1.set k (.inl (2, n, .inl (upd f i.toNatClampNeg (vp_nar .byte x)))), h.2))
      | _ => none
    | _ => none
  | .lastore => match st with
    | .long x :: .int i :: .ref k :: r => match mj_nth h.1 k with
      | some (.inl (1, n, .inr (.inl f))) => if i < 0 ∨ n ≤ i.toNatClampNeg then none else some (pc + len, lv, r, (h.1.set k (.inl (1, n, .inr (.inl (vp_updL f i.toNatClampNeg x)))), h.2))
      | _ => none
    | _ => none
  | .aastore => match st with
    | .ref v :: .int i :: .ref k :: r => match mj_nth h.1 k, mj_nth h.1 v with
      | some (.inl (3, n, .inr (.inr (.inr (.inr f))))), some (.inr (5, _)) => if i < 0 ∨ n ≤ i.toNatClampNeg then none else some (pc + len, lv, r, (h.1.set k (.inl (3, n, .inr (.inr (.inr (.inr (va_up f i.toNatClampNeg (some v))))))), h.2))
      | _, _ => none
    | _ => none
  | .new ci => some (pc + len, lv, .ref h.1.length :: st, (h.1 ++ [.inr (ci, mj_new ci)], h.2 + mj_sz ci))
  | .newarray ty => match st with
    | .int n :: r => if n < 0 ∨ 65536 < n.toNatClampNeg then none else match ty with
      | .int => some (pc + len, lv, .ref h.1.length :: r, (h.1 ++ [.inl (0, n.toNatClampNeg, .inl (fun _ => 0))], h.2 + n.toNatClampNeg))
      | .long => some (pc + len, lv, .ref h.1.length :: r, (h.1 ++ [.inl (1, n.toNatClampNeg, .inr (.inl (fun _ => 0)))], h.2 + n.toNatClampNeg))
      | .byte => some (pc + len, lv, .ref h.1.length :: r, (h.1 ++ [.inl (2, n.toNatClampNeg, .inl (fun _ => 0))], h.2 + n.toNatClampNeg))
      | _ => none
    | _ => none
  | .anewarray 3 => match st with
    | .int n :: r => if n < 0 ∨ 65536 < n.toNatClampNeg then none else some (pc + len, lv, .ref h.1.length :: r, (h.1 ++ [.inl (3, n.toNatClampNeg, .inr (.inr (.inr (.inr (fun _ => none)))))], h.2 + n.toNatClampNeg))
    | _ => none
  | .multianewarray 4 2 => match st with
    | .int 6 :: .int 3 :: r => some (pc + len, lv, .ref h.1.length :: r, (h.1 ++ [.inl (4, 3, .inr (.inr (.inr (.inr (fun i => if i < 3 then some (h.1.length + 1 + i) else none))))), .inl (0, 6, .inl (fun _ => 0)), .inl (0, 6, .inl (fun _ => 0)), .inl (0, 6, .inl (fun _ => 0))], h.2 + 21))
    | _ => none
  | _ => none
/-- a call's number: 256 * method + 16 * arguments + class of the receiver -/
def mj_isCall (i : Instr) : Option Nat := match i with
  | .invokevirtual c => some c
  | .invokestatic c => some c
  | .invokespecial c => some c
  | _ => none
/-- whom an invokevirtual finds -/
def mj_recv (i : Instr) (as : List Value) (h : mj_H) : Prop := match i with
  | .invokevirtual c => (c / 256 < 4) ∨ ∃ (k : Nat) (r : List Value) (fs : List Value), as = .ref k :: r ∧ mj_nth h.1 k = some (.inr (c % 16, fs))
  | .invokespecial _ => ∃ (k : Nat) (r : List Value), as = .ref k :: r
  | _ => True
abbrev mj_R : Type := Nat → List Value → mj_H → Option Value → mj_H → Prop
/-- the machine comes from here to a place with T, calls by Cl -/
def mj_go (sta : mj_S) (Cl : mj_R) (M : mj_M) (T : Nat → mj_L → List Value → mj_H → Prop) (pc : Nat) (lv : mj_L) (st : List Value) (h : mj_H) : Prop :=
  ∀ P : Nat → mj_L → List Value → mj_H → Prop, (∀ pc lv st h, T pc lv st h → P pc lv st h) →
    (∀ pc lv st h e pc' lv' st' h', mj_ent (mj_cd M) pc = some e → mj_nx sta e.2.1 e.2.2.1 pc lv st h = some (pc', lv', st', h') → P pc' lv' st' h' → P pc lv st h) →
    (∀ pc lv st h e c v h', mj_ent (mj_cd M) pc = some e → mj_isCall e.2.1 = some c → c / 16 % 16 ≤ st.length → mj_recv e.2.1 (st.take (c / 16 % 16)).reverse h → ((st.drop (c / 16 % 16)).map Value.category).sum ≤ 8 → Cl (c / 256) (st.take (c / 16 % 16)).reverse h v h' → P (pc + 3) lv (v.toList ++ st.drop (c / 16 % 16)) h' → P pc lv st h) →
    P pc lv st h
/-- at a return, with v -/
def mj_ret (M : mj_M) (v : Option Value) (h' : mj_H) (pc : Nat) (lv : mj_L) (st : List Value) (h : mj_H) : Prop :=
  h = h' ∧ ∃ e, mj_ent (mj_cd M) pc = some e ∧ match e.2.1 with
    | .return_ => st = [] ∧ v = none ∧ mj_rt M = none
    | .ireturn => ∃ (x : Int32) (ty : FieldType), st = [.int x] ∧ v = some (.int x) ∧ mj_rt M = some ty ∧ narrow ty (.int x) = .int x
    | .lreturn => ∃ x : Int64, st = [.long x] ∧ v = some (.long x) ∧ mj_rt M = some .long
    | .areturn => ∃ (a : Nat) (C : String), st = [.ref a] ∧ v = some (.ref a) ∧ mj_rt M = some (.object C)
    | _ => False
section MJgo
variable {sta : mj_S} {Cl : mj_R} {M : mj_M} {T T' : Nat → mj_L → List Value → mj_H → Prop} {pc pc' : Nat} {lv lv' : mj_L} {st st' : List Value} {h h' : mj_H} {e : mj_I}
theorem mj_go.here (ht : T pc lv st h) : mj_go sta Cl M T pc lv st h := fun _ hT _ _ => hT _ _ _ _ ht
theorem mj_go.nx (he : mj_ent (mj_cd M) pc = some e) (hn : mj_nx sta e.2.1 e.2.2.1 pc lv st h = some (pc', lv', st', h')) (k : mj_go sta Cl M T pc' lv' st' h') : mj_go sta Cl M T pc lv st h :=
  fun P hT h1 h2 => h1 _ _ _ _ _ _ _ _ _ he hn (k P hT h1 h2)
theorem mj_go.call {c : Nat} {v : Option Value} (he : mj_ent (mj_cd M) pc = some e) (hc : mj_isCall e.2.1 = some c) (hl : c / 16 % 16 ≤ st.length) (hr : mj_recv e.2.1 (st.take (c / 16 % 16)).reverse h) (hs : ((st.drop (c / 16 % 16)).map Value.category).sum ≤ 8)
    (hC : Cl (c / 256) (st.take (c / 16 % 16)).reverse h v h') (k : mj_go sta Cl M T (pc + 3) lv (v.toList ++ st.drop (c / 16 % 16)) h') : mj_go sta Cl M T pc lv st h :=
  fun P hT h1 h2 => h2 _ _ _ _ _ _ _ _ he hc hl hr hs hC (k P hT h1 h2)
theorem mj_go.trans (k : mj_go sta Cl M T' pc lv st h) (hk : ∀ pc lv st h, T' pc lv st h → mj_go sta Cl M T pc lv st h) : mj_go sta Cl M T pc lv st h :=
  fun P hT h1 h2 => k P (fun pc lv st h ht => hk pc lv st h ht P hT h1 h2) h1 h2
end MJgo
