/-! a throw of NoSuchElementException("..") by its constructor with a text, whose link up may stand at any entry of its pool -/
/-- fields of Throwable that the new object has, with their descriptors -/
def ns_fl : List (String × String) :=
  [("backtrace", "Ljava/lang/Object;"), ("cause", "Ljava/lang/Throwable;"), ("detailMessage", "Ljava/lang/String;"), ("stackTrace", Bundle.steD), ("suppressedExceptions", Bundle.listD)]
/-- words on the thrown kind alone -/
def ns_ob (X : String) : List Cond := [.instantiable X 6] ++ [Bundle.tFill, Bundle.tFill0].map (fun x => .selects X x x) ++ ns_fl.map (fun q => .lays X Bundle.tN q.1 q.2)
/-- words on Throwable's statics and on the link to its field backtrace -/
def ns_st : List Cond := [("UNASSIGNED_STACK", Bundle.steD), ("SUPPRESSED_SENTINEL", Bundle.listD)].map (fun q => .isRef (.static Bundle.tN q.1 q.2))
def ns_bk : List Cond := [.lays Bundle.tN Bundle.tN "backtrace" "Ljava/lang/Object;", .fieldLink Bundle.tN 198 Bundle.tN "backtrace" "Ljava/lang/Object;"]
/-- all words: X is thrown by entry ic of own's pool, its constructor (bytes bx) goes up to Y by entry jx, from there on by names -/
def ns_at (own : String) (ic : Nat) (X Y : String) (names : List String) (jx : Nat) (bx : ByteArray) : List Cond :=
  (.methodLink own ic (Bundle.initS X) :: ns_ob X) ++ (ns_st ++ ns_bk) ++ (Bundle.passSAtoms X Y jx bx ++ Bundle.chainSAtoms Y names) ++ (Bundle.throwableSAtoms ++ Bundle.throwableAtoms)
/-- a method that X selects for itself -/
theorem ns_pick {l : Launch} {e : Env} {s : State} {args : Array Value} {X : String} {cX : ClassId} {x : MethodName} {m : MethodId} (ha : l.admits e) (hX : s.vm.findClass X = some cX) (hm : s.methodNamed? x = some m)
    (hn : x.cls ≠ "java/lang/invoke/MethodHandle" ∧ x.cls ≠ "java/lang/invoke/VarHandle") (h : (Cond.selects X x x).holds args s none s [] = true) : selectMethod e.platform s.vm cX m = .method m := by
  have h2 := Cond.selects_spec h
  rw [hX, State.methodFound?_of_named hm hn, hm] at h2
  obtain ⟨_, _, _, q1, q2, q3, q4, _⟩ := h2
  cases q1
  cases q2
  cases q3
  exact (Launch.admits_selectMethod ha _ _ _).trans q4
/-- the slot of a field that the constructor leaves alone is null -/
theorem ns_null {T : ThrowableT} {cX : ClassId} {kX : Class} {b : Addr} {u v : RefV} {t : ThreadId} {f : Field} (h1 : kX.instanceTypes[f.slot]? = some f.type) (h2 : f.type = .object "java/lang/Object")
    (n1 : f.slot ≠ T.fCause.slot) (n2 : f.slot ≠ T.fStack.slot) (n3 : f.slot ≠ T.fSupp.slot) : ((preparedCellV T (freshCell cX kX) b u v).withEntry t).slots[f.slot]? = some .null := by
  show ((((kX.instanceTypes.map defaultValue).setIfInBounds T.fCause.slot (.ref b)).setIfInBounds T.fStack.slot u.v).setIfInBounds T.fSupp.slot v.v)[f.slot]? = some .null
  rw [Array.getElem?_setIfInBounds_ne n3.symm, Array.getElem?_setIfInBounds_ne n2.symm, Array.getElem?_setIfInBounds_ne n1.symm, Array.getElem?_map, h1, h2]
  rfl
/-- what is written to a new object alone needs no leave -/
theorem ns_keep {s t : State} {b : Addr} {L : List Loc} {c n : Nat} (hb : s.heap.size ≤ b) (hL : ∀ y ∈ L, y.base = b) (h : s.sameButNew t L c n) : s.sameButNew t [] c n :=
  h.weaken (fun y hy hlt => absurd hlt (by rw [hL y hy]; exact Nat.not_lt.mpr hb)) (Nat.le_refl _) (Nat.le_refl _)
/-- the chain of constructors, the first link at entry jx -/
theorem ns_chain {args : Array Value} {s : State} {pl : Platform} {top : MethodId} {X Y : String} {names : List String} {jx : Nat} {bx : ByteArray} (hpl : pl.magicAccessors = ({} : Platform).magicAccessors) (htop : s.methodNamed? (Bundle.initS Bundle.tN) = some top)
    (hX : Bundle.fit X = true) (hY : Bundle.fit Y = true) (hn : ∀ n ∈ names, Bundle.fit n = true)
    (b0 : decode bx 0 = .ok (.aload_n 0, 1)) (b1 : decode bx 1 = .ok (.aload_n 1, 1)) (b2 : decode bx 2 = .ok (.invokespecial jx, 3)) (b5 : decode bx 5 = .ok (.return_, 1))
    (h : ∀ w ∈ Bundle.passSAtoms X Y jx bx ++ Bundle.chainSAtoms Y names, w.before args s = true) :
    ∃ (P : PassC) (Q : List PassC), Q.length = names.length + 1 ∧ (∀ z, z ∈ P :: Q → z.LinksS pl s) ∧ s.methodNamed? (Bundle.initS X) = some P.m ∧ PassesOn top ((P :: Q).map (·.toPassT)) := by
  obtain ⟨P, p1, p2, p3⟩ := PassC.ofS_atoms (args := args) (s := s) hpl (Bundle.fit_spec hX).1 (Bundle.fit_spec hY).2 b0 b1 b2 b5 (fun w hw => h w (List.mem_append_left _ hw))
  obtain ⟨P', r, r0, r1, r2, r3, r4, r5⟩ := Bundle.chainS (args := args) hpl htop names Y hY hn (fun w hw => h w (List.mem_append_right _ hw))
  refine ⟨P, P' :: r, congrArg (· + 1) r0, fun z hz => ?_, p2, Option.some.inj (p3.symm.trans r3), r4, r5⟩
  cases hz with
  | head => exact p1
  | tail _ hz =>
    cases hz with
    | head => exact r1
    | tail _ hz => exact r2 z hz
section NS
variable {p : Program} {l : Launch} {e : Env} {R : Room} {s W : State} {m : MethodId} {args : Array Value} {below : List Frame} {meth : Method} {c : Code} {cells slots : Nat}
/-- a cell of the start, where nothing old was written -/
theorem ns_old (X : Stand p l e R s m args below meth c W [] cells slots) {b : Addr} {z : Cell} (h : s.heap[b]? = some z) : ∃ y : Cell, W.heap[b]? = some y ∧ y.vm = z.vm ∧ ∀ i : Nat, y.slots[i]? = z.slots[i]? := by
  obtain ⟨y, h1, h2, -, h3⟩ := X.same.2.2.2.2.2 b z h
  have h4 : y.vm = z.vm := by rw [h2]
  exact ⟨y, h1, h4, fun i => h3 i (by simp)⟩
set_option maxHeartbeats 4000000 in
/-- the constructor runs on the new object b, then b is thrown -/
theorem ns_ctor (X : Stand p l e R s m args below meth c W [] cells slots) (hexec : p.tables.exec = Jvm.exec) (htr : e.platform.stackTraces = false) {own cls Yn : String} {names : List String} {ic jx : Nat} {bx : ByteArray}
    (hown : s.vm.findClass own = some m.cls) (f1 : Bundle.fit cls = true) (f2 : Bundle.fit Yn = true) (f3 : ∀ n ∈ names, Bundle.fit n = true)
    (b0 : decode bx 0 = .ok (.aload_n 0, 1)) (b1 : decode bx 1 = .ok (.aload_n 1, 1)) (b2 : decode bx 2 = .ok (.invokespecial jx, 3)) (b5 : decode bx 5 = .ok (.return_, 1))
    (h : ∀ w ∈ ns_at own ic cls Yn names jx bx, w.before args s = true) {b : Addr} {cX : ClassId} {kX : Class} (hX : s.vm.findClass cls = some cX) (hk : s.vm.classes[cX]? = some kX) (hb : W.heap[b]? = some (freshCell cX kX)) (hnew : s.heap.size ≤ b)
    {sa pc : Nat} {ls : Array Slot} {rest : List Value} (hls : ls.size = c.maxLocals) (d0 : decode c.code pc = .ok (.invokespecial ic, 3)) (d3 : decode c.code (pc + 3) = .ok (.athrow, 1)) (hout : ∀ x ∈ c.exceptionTable.toList, covers x (pc + 3) = false)
    (hRf : names.length + 4 < R.frames) (hRl : (rest.map fun v => v.category).sum + (13 * (names.length + 2) + 43) ≤ R.locals) (hlk : meth.locks = false) :
    ∃ U : State, Steps p.tables e below (W.setTop (F0 m pc ls (.ref sa :: .ref b :: .ref b :: rest))) U ∧ U.status = .running ∧ Ended U below (.threw b) ∧ s.WarmedH U.vm ∧ s.sameButNew ({ U with vm := s.vm } : State) [] cells slots ∧
      ∃ ce : Cell, U.heap[b]? = some ce ∧ s.vm.findClass cls = some ce.cls ∧ ce.vm = .none := by
  have hq := X.admits.platform
  have q1 : e.platform.magicAccessors = ({} : Platform).magicAccessors := by rw [hq]
  have ho : ∀ w ∈ ns_ob cls, w.holds args s none s [] = true := fun w hw => h w (by simp [ns_at, hw])
  have hs : ∀ w ∈ ns_st ++ ns_bk, w.holds args s none s [] = true := fun w hw => h w (by rcases List.mem_append.mp hw with hw | hw <;> simp [ns_at, hw])
  have hc : ∀ w ∈ Bundle.passSAtoms cls Yn jx bx ++ Bundle.chainSAtoms Yn names, w.before args s = true := fun w hw => h w (by rcases List.mem_append.mp hw with hw | hw <;> simp [ns_at, hw])
  -- the tables of Throwable and of the chain
  obtain ⟨T, Z0, hT, -, hY⟩ := ThrowableC.of_atoms (args := args) (s := s) (pl := e.platform) (by rw [hq]) (by rw [hq]) q1 (fun w hw => h w (by simp [ns_at, hw]))
  obtain ⟨Z, M, hZ, hM, hZm⟩ := Init0T.ofS_atoms (args := args) q1 hT hY (fun w hw => h w (by simp [ns_at, hw]))
  obtain ⟨P, Q, hlen, hPQ, hPm, hon⟩ := ns_chain (args := args) q1 hZm f1 f2 f3 b0 b1 b2 b5 hc
  -- the new object's kind
  have hin := Cond.instantiable_spec (ho (.instantiable cls 6) (by simp [ns_ob]))
  rw [hX] at hin
  obtain ⟨_, _, i1, i2, hord, -⟩ := hin
  cases i1
  cases hk.symm.trans i2
  have lay : ∀ (n d : String) (cc i : Nat) (kk : Class) (f : Field), (n, d) ∈ ns_fl → s.fieldFound? Bundle.tN n d = some (cc, kk, i, f) → kX.instanceTypes[f.slot]? = some f.type ∧ ∃ z, Jmm.declares? s.vm f.slot (cX + 1) cX = some z ∧ z.2.name = f.name :=
    fun n d cc i kk f hm hf => Cond.laysAt hX hk hf (ho (.lays cls Bundle.tN n d) (List.mem_append_right _ (List.mem_map_of_mem (f := fun q : String × String => Cond.lays cls Bundle.tN q.1 q.2) hm)))
  obtain ⟨ci, iB, fB, j1, j2, j3, j4, -, j5, j6, j7⟩ := Cond.ownField (t := .object "java/lang/Object") hY.found hT.cls (by decide +kernel) (hs (.fieldLink Bundle.tN 198 Bundle.tN "backtrace" "Ljava/lang/Object;") (by simp [ns_bk])) (hs (.lays Bundle.tN Bundle.tN "backtrace" "Ljava/lang/Object;") (by simp [ns_bk])) e.platform q1
  obtain ⟨iM, hM'⟩ := hY.msg
  obtain ⟨tB, zB, zB1, zB2⟩ := lay _ _ _ _ _ _ (by simp [ns_fl]) j7
  obtain ⟨tC, zC, zC1, zC2⟩ := lay _ _ _ _ _ _ (by simp [ns_fl]) hY.cause
  obtain ⟨tS, zS, zS1, zS2⟩ := lay _ _ _ _ _ _ (by simp [ns_fl]) hY.stack
  obtain ⟨tP, zP, zP1, zP2⟩ := lay _ _ _ _ _ _ (by simp [ns_fl]) hY.supp
  have tM := (lay _ _ _ _ _ _ (by simp [ns_fl]) hM').1
  have nul : ∀ (u v : RefV) (t : ThreadId), ((preparedCellV T.toThrowableT (freshCell cX kX) b u v).withEntry t).slots[fB.slot]? = some .null := fun u v t =>
    ns_null tB j6 (Cond.laysApart zB1 zC1 zB2 zC2 (by rw [j5, hY.causeName]; decide)) (Cond.laysApart zB1 zS1 zB2 zS2 (by rw [j5, hY.stackName]; decide)) (Cond.laysApart zB1 zP1 zB2 zP2 (by rw [j5, hY.suppName]; decide))
  -- Throwable's statics, as at the start
  obtain ⟨z, hz, hzs⟩ := hY.statics
  obtain ⟨y, y1, y2, y3⟩ := ns_old X hz
  obtain ⟨u, hu⟩ := Cond.staticRefV hY.unassigned hT.unassignedStatic hT.statics hz hzs (hs _ (by simp [ns_st]))
  obtain ⟨v, hv⟩ := Cond.staticRefV hY.sentinel hT.sentinelStatic hT.statics hz hzs (hs _ (by simp [ns_st]))
  have hyu : y.vm ≠ .unknown := fun q => by
    rw [← y2, q] at hzs
    cases hzs
  have hne : T.aS ≠ b := fun q => Nat.lt_irrefl b (Nat.lt_of_lt_of_le (q ▸ (Array.getElem?_eq_some_iff.mp hz).1) hnew)
  -- into the constructor, through it, and the throw
  obtain ⟨_, _, _, _, vm1, n1, -, -, -, -, -, -, -, hW1, st1⟩ := Steps.initColdS (tb := p.tables) (e := e) (below := below) (s := s) (U := W) X.here hexec X.warmed q1 hown (t := Bundle.initS cls) rfl rfl (Bundle.fit_spec f1).2 (args := args)
    (h (.methodLink own ic (Bundle.initS cls)) (by simp [ns_at])) (hc (.instanceMethod (Bundle.initS cls)) (by simp [Bundle.passSAtoms])) (bytes := bx) (maxL := 2) (hc (.code (Bundle.initS cls) bx 2 none) (by simp [Bundle.passSAtoms]))
    (f := F0 m pc ls (.ref sa :: .ref b :: .ref b :: rest)) rfl (a := b) (msg := .ref sa) (rest := .ref b :: rest) rfl d0
  cases n1.symm.trans hPm
  obtain ⟨vm2, X2, st2⟩ := (X.noted hW1).ctorMessageOffV hexec (g := F0 m pc ls (.ref b :: rest)) rfl hls T hT Z hZ M hM (P :: Q) hPQ hon (u0 := u) (sen := v) (self := b) (msg := .ref sa) rfl (cell := freshCell cX kX) (cellS := y)
    hb (by simp) (by simp) rfl rfl
    (ns_pick X.admits hX hY.fill0 (by decide) (ho (.selects cls Bundle.tFill0 Bundle.tFill0) (by simp [ns_ob]))) (ns_pick X.admits hX hY.fill (by decide) (ho (.selects cls Bundle.tFill Bundle.tFill) (by simp [ns_ob])))
    y1 hne hyu ((y3 _).trans hu) ((y3 _).trans hv)
    (Takes.of_laid hk hord tC (by rw [hY.causeType]; rfl)) (Takes.of_laid hk hord tS (by rw [hY.stackType]; exact fits_refV_array _ u)) (Takes.of_laid hk hord tP (by rw [hY.suppType]; exact fits_refV_object _ v)) (Takes.of_laid hk hord tM (by rw [hY.msgType]; rfl))
    hY.objLocals ⟨⟨ci, iB, fB⟩, ⟨j1, j2, j3, j4⟩, nul u v _, fun _ _ => rfl⟩ htr [] d0
    (by show Q.length + 1 + 2 < R.frames; omega)
    (by
      show 2 * 0 + (1 + (rest.map fun v => v.category).sum) + (13 * (Q.length + 1) + 42) ≤ R.locals
      omega)
  obtain ⟨w1, w2, w3, w4, w5⟩ := X2.athrowLeaves hexec (g := F0 m (pc + 3) ls (.ref b :: rest)) rfl rfl rfl hout (a := b) (rest := rest) rfl d3 hlk
  have hce : (((W.setVm vm1).setVm vm2).setCell b (plainBareV T.toThrowableT (freshCell cX kX) b u v (.ref sa))).heap[b]? = some (plainBareV T.toThrowableT (freshCell cX kX) b u v (.ref sa)) := heapAt_setCell_self _ (Array.getElem?_eq_some_iff.mp hb).1
  refine ⟨_, st1 _ (fun acts => ?_), w2, w3, w4, ns_keep hnew (by simp) w5, _, hce, hX, rfl⟩
  rw [doInvoke_state]
  exact st2 _ w1
end NS
section NS2
variable {p : Program} {l : Launch} {e : Env} {R : Room} {s : State} {m : MethodId} {args : Array Value} {below : List Frame} {meth : Method} {c : Code} {H : Heap} {locs : List Loc} {cells slots : Nat} {Q : State → Prop}
variable {mc ms : Nat} {free : Addr → Prop} {A0 A1 : Nat → Prop} {H0 : Heap} {a : Array Value} {ls : Array Slot} {st0 rest : List Value}
variable {Qc : Array Value → State → Outcome → State → Prop} {XC : String → State → State → Prop}
theorem ns_throw {cc : ByteArray} {pc : Nat} (hexec : p.tables.exec = Jvm.exec) (hb : c.code = cc) (hl : l.stackTraces = false) {own cls Yn text : String} {jx : Nat} {bx : ByteArray} {names : List String} {ik is ic mc ms sa : Nat} {A : Nat → Prop}
    (hown : s.vm.findClass own = some m.cls) (hcls : Bundle.fit cls = true) (hY : Bundle.fit Yn = true) (hnames : ∀ n ∈ names, Bundle.fit n = true)
    (b0 : decode bx 0 = .ok (.aload_n 0, 1)) (b1 : decode bx 1 = .ok (.aload_n 1, 1)) (b2 : decode bx 2 = .ok (.invokespecial jx, 3)) (b5 : decode bx 5 = .ok (.return_, 1))
    (hk : (Cond.classLink own ik cls).before args s = true) (hini : (Cond.initialized cls).before args s = true) (hstr : vk_R own is text sa s) (hat : ∀ w ∈ (ns_at own ic cls Yn names jx bx).filter vx_no, w.before args s = true)
    (hgood : ∀ w ∈ Cond.classLink own ik cls :: Cond.initialized cls :: (ns_at own ic cls Yn names jx bx).filter vx_no, vx_ot w = true)
    (hU : vx_Zq Bundle.tN "UNASSIGNED_STACK" Bundle.steD A s s.heap) (hN : vx_Zq Bundle.tN "SUPPRESSED_SENTINEL" Bundle.listD A s s.heap) (hS : va_S A s.heap H locs) (hsize : ls.size = c.maxLocals)
    (d0 : decode cc pc = .ok (.new ik, 3)) (d3 : decode cc (pc + 3) = .ok (.dup, 1)) (d4 : decode cc (pc + 4) = .ok (.ldc_w is, 3)) (d7 : decode cc (pc + 7) = .ok (.invokespecial ic, 3)) (d10 : decode cc (pc + 10) = .ok (.athrow, 1))
    (hout : ∀ x ∈ c.exceptionTable.toList, covers x (pc + 10) = false)
    (hRframes : names.length + 4 < R.frames) (hRlocals : (rest.map fun v => v.category).sum + (13 * (names.length + 2) + 43) ≤ R.locals) (hRcells : cells + 1 ≤ R.cells) (hRslots : slots + 6 ≤ R.slots) (hlocks : meth.locks = false)
    (hx : ∀ t : State, s.vm.Alike t.vm → t.heap.size = H.size + 1 → (∀ q : Nat, q < H.size → t.heap[q]? = H[q]?) → XC cls s t)
    (hf : ∀ z ∈ locs, free z.base) (hc : cells + 1 ≤ mc) (hs : slots + 6 ≤ ms) :
    W p l e R s m args below meth c H locs cells slots (vx_MQ below Qc XC args s mc ms free) (F0 m pc ls rest) := by
  intro T hT X
  have htr : e.platform.stackTraces = false := (show e.platform.stackTraces = l.stackTraces by rw [X.admits.platform]).trans hl
  have Y := vx_rebase X (R' := { frames := R.frames, locals := R.locals, cells := 1, slots := 6 }) (Nat.le_refl _) (Nat.le_refl _) hRcells hRslots
  obtain ⟨s', hA⟩ : ∃ z, z = (T.setVm s.vm).setFrames (.invoking m args :: below) := ⟨_, rfl⟩
  rw [← hA] at Y
  have hvm : s'.vm = s.vm := by rw [hA]; rfl
  have hhp : s'.heap = H := by rw [hA]; exact hT
  have hW0 : s.WarmedH s'.vm := by rw [hvm]; exact State.WarmedH.refl s
  have hat' : ∀ w ∈ (ns_at own ic cls Yn names jx bx).filter vx_no, w.before args s' = true := fun w hw => vx_ot_at hW0 hvm.symm (hgood w (List.mem_cons_of_mem _ (List.mem_cons_of_mem _ hw))) (hat w hw)
  have hk' : (Cond.classLink own ik cls).before args s' = true := vx_ot_at hW0 hvm.symm (hgood _ List.mem_cons_self) hk
  have hini' : (Cond.initialized cls).before args s' = true := vx_ot_at hW0 hvm.symm (hgood _ (List.mem_cons_of_mem _ List.mem_cons_self)) hini
  have hU' : vx_Zq Bundle.tN "UNASSIGNED_STACK" Bundle.steD A s' s'.heap := by rw [hhp]; exact vx_Zq.moved hW0.alike (hU.kept hS.2.1)
  have hN' : vx_Zq Bundle.tN "SUPPRESSED_SENTINEL" Bundle.listD A s' s'.heap := by rw [hhp]; exact vx_Zq.moved hW0.alike (hN.kept hS.2.1)
  have h : ∀ w ∈ ns_at own ic cls Yn names jx bx, w.before args s' = true := vx_own hat' (vx_isRefq hU'.1) (vx_isRefq hN'.1) hU'.2.word hN'.2.word
  have hown' : s'.vm.findClass own = some m.cls := by rw [hvm]; exact hown
  have hins : (Cond.instantiable cls 6).before args s' = true := h _ (by simp [ns_at, ns_ob])
  obtain ⟨vm₁, cX, kX, hfX, hkX, -, -, X₁, st1⟩ := Y.newCold hexec (own := own) (C := cls) (index := ik) (n := 6) hown' hk' hins hini'
    (g := F0 m pc ls rest) rfl (by rw [hb]; exact d0) (Nat.le_refl _) (Nat.le_refl _)
  generalize hT1 : (T.setVm vm₁).pushCell { cls := cX, slots := kX.instanceTypes.map defaultValue, vm := .none } = T1 at X₁ st1
  have hcellA : T1.heap[T.heap.size]? = some (freshCell cX kX) := by rw [← hT1]; exact State.heap_pushCell_size _ _
  have d3' : decode c.code (pc + 3) = .ok (.dup, 1) := by rw [hb]; exact d3
  have d4' : decode c.code (pc + 4) = .ok (.ldc_w is, 3) := by rw [hb]; exact d4
  have hstr' : vk_R own is text sa s' := vk_R.warm hW0 hstr
  obtain ⟨U, hsteps, hrun, hend, hW, hsame, ce, hce, hO⟩ := ns_ctor X₁ hexec htr (own := own) (cls := cls) (Yn := Yn) (names := names) (ic := ic) (jx := jx) (bx := bx) hown' hcls hY hnames b0 b1 b2 b5 h hfX hkX hcellA (by rw [hhp, hT]; exact Nat.le_refl _)
    (sa := sa) (pc := pc + 7) (ls := ls) (rest := rest) hsize (by rw [hb]; exact d7) (by rw [hb]; exact d10) hout hRframes hRlocals hlocks
  obtain ⟨f1, f2⟩ := vx_frame hsame
  have f0 : U.heap.size = H.size + 1 := by
    have g1 : U.heap.size ≤ s'.heap.size + (0 + 1) := hsame.2.2.1
    have g2 := (Array.getElem?_eq_some_iff.mp hce).1
    rw [hhp] at g1
    rw [hT] at g2
    omega
  rw [hhp] at f1 f2
  have hWs : s.WarmedH U.vm := State.WarmedH.trans hW0 hW
  have hcl : s.vm.findClass cls = some ce.cls := by
    have h9 := hO.1
    rw [hvm] at h9
    exact h9
  have hall : s.sameButNew ({ U with vm := s.vm } : State) locs mc ms := by
    subst hA
    obtain ⟨e1, e2⟩ := hsame
    rw [State.setFrames_setFrames] at e1
    have h2 : (T.setVm s.vm).sameButNew ({ U with vm := s.vm } : State) [] (0 + 1) (0 + 6) := ⟨e1, e2⟩
    have h3 := X.same.trans h2
    rw [List.append_nil] at h3
    exact h3.mono hc hs
  refine ⟨U, ?_, .threw T.heap.size, hrun, hend, Or.inr ⟨T.heap.size, rfl, cls, ce, locs, hx U hWs.alike f0 (fun q hq => f2 q hq (fun z hz => nomatch hz)), hce, hO.2, hcl, hWs, hall, hf⟩⟩
  refine st1 _ ?_
  show Steps p.tables e below (T1.setTop { method := m, pc := pc + 3, locals := ls, stack := .ref T.heap.size :: rest, locked := none }) _
  jvm_step X₁.here [X₁.here.top, hexec, d3', Value.category]
  exact X₁.ldcStringW hexec (own := own) (text := text) (index := is) (a := sa) hown' hstr'.1 hstr'.2
    (g := { method := m, pc := pc + 4, locals := ls, stack := .ref T.heap.size :: .ref T.heap.size :: rest, locked := none }) rfl d4' _ hsteps
end NS2
