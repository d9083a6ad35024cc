section
-- ===== PART A: goes FIRST, ahead of the names: the tables' words, and 'selects' of the private methods out of them =====
/-- a private method of a class that the tables say can be made, by its rows of tables_1 -/
def lw_okq (q : MethodName × Nat) : Prop := (q.1.cls ≠ "java/lang/invoke/MethodHandle" ∧ q.1.cls ≠ "java/lang/invoke/VarHandle") ∧ Cond.instantiable q.1.cls q.2 ∈ tables_1 ∧ Cond.privateMethod q.1 ∈ tables_1 ∧ Cond.instanceMethod q.1 ∈ tables_1
theorem lw_p0 : lw_okq (⟨"LowNumber", "refuse", "(I)I"⟩, 15) := ⟨⟨by decide +kernel, by decide +kernel⟩, List.mem_of_getElem? (i := 23) (by decide +kernel), List.mem_of_getElem? (i := 398) (by decide +kernel), List.mem_of_getElem? (i := 399) (by decide +kernel)⟩
theorem lw_p1 : lw_okq (⟨"LowNumber$Tape", "step", "()V"⟩, 12) := ⟨⟨by decide +kernel, by decide +kernel⟩, List.mem_of_getElem? (i := 31) (by decide +kernel), List.mem_of_getElem? (i := 413) (by decide +kernel), List.mem_of_getElem? (i := 414) (by decide +kernel)⟩
theorem lw_p2 : lw_okq (⟨"LowNumber$Tape", "runEnd", "(II)I"⟩, 12) := ⟨⟨by decide +kernel, by decide +kernel⟩, List.mem_of_getElem? (i := 31) (by decide +kernel), List.mem_of_getElem? (i := 420) (by decide +kernel), List.mem_of_getElem? (i := 421) (by decide +kernel)⟩
theorem lw_p3 : lw_okq (⟨"LowNumber$Tape", "readLine", "(LLowNumber$Draft;)Z"⟩, 12) := ⟨⟨by decide +kernel, by decide +kernel⟩, List.mem_of_getElem? (i := 31) (by decide +kernel), List.mem_of_getElem? (i := 424) (by decide +kernel), List.mem_of_getElem? (i := 425) (by decide +kernel)⟩
theorem lw_p4 : lw_okq (⟨"LowNumber$Tape", "lineKind", "()I"⟩, 12) := ⟨⟨by decide +kernel, by decide +kernel⟩, List.mem_of_getElem? (i := 31) (by decide +kernel), List.mem_of_getElem? (i := 428) (by decide +kernel), List.mem_of_getElem? (i := 429) (by decide +kernel)⟩
theorem lw_p5 : lw_okq (⟨"LowNumber$Tape", "isWord", "(Ljava/lang/String;)Z"⟩, 12) := ⟨⟨by decide +kernel, by decide +kernel⟩, List.mem_of_getElem? (i := 31) (by decide +kernel), List.mem_of_getElem? (i := 433) (by decide +kernel), List.mem_of_getElem? (i := 434) (by decide +kernel)⟩
theorem lw_p6 : lw_okq (⟨"LowNumber$Tape", "fail", "(I)Z"⟩, 12) := ⟨⟨by decide +kernel, by decide +kernel⟩, List.mem_of_getElem? (i := 31) (by decide +kernel), List.mem_of_getElem? (i := 490) (by decide +kernel), List.mem_of_getElem? (i := 491) (by decide +kernel)⟩
theorem lw_p7 : lw_okq (⟨"LowNumber$Tape", "readTakes", "(LLowNumber$Draft;)Z"⟩, 12) := ⟨⟨by decide +kernel, by decide +kernel⟩, List.mem_of_getElem? (i := 31) (by decide +kernel), List.mem_of_getElem? (i := 494) (by decide +kernel), List.mem_of_getElem? (i := 495) (by decide +kernel)⟩
theorem lw_p8 : lw_okq (⟨"LowNumber$Tape", "passWord", "(Ljava/lang/String;)Z"⟩, 12) := ⟨⟨by decide +kernel, by decide +kernel⟩, List.mem_of_getElem? (i := 31) (by decide +kernel), List.mem_of_getElem? (i := 499) (by decide +kernel), List.mem_of_getElem? (i := 500) (by decide +kernel)⟩
theorem lw_p9 : lw_okq (⟨"LowNumber$Tape", "passWhole", "(I)Z"⟩, 12) := ⟨⟨by decide +kernel, by decide +kernel⟩, List.mem_of_getElem? (i := 31) (by decide +kernel), List.mem_of_getElem? (i := 503) (by decide +kernel), List.mem_of_getElem? (i := 504) (by decide +kernel)⟩
theorem lw_p10 : lw_okq (⟨"LowNumber$Tape", "readMan", "(LLowNumber$Draft;)Z"⟩, 12) := ⟨⟨by decide +kernel, by decide +kernel⟩, List.mem_of_getElem? (i := 31) (by decide +kernel), List.mem_of_getElem? (i := 507) (by decide +kernel), List.mem_of_getElem? (i := 508) (by decide +kernel)⟩
theorem lw_p11 : lw_okq (⟨"LowNumber$Tape", "namedMan", "(LLowNumber$Draft;)I"⟩, 12) := ⟨⟨by decide +kernel, by decide +kernel⟩, List.mem_of_getElem? (i := 31) (by decide +kernel), List.mem_of_getElem? (i := 511) (by decide +kernel), List.mem_of_getElem? (i := 512) (by decide +kernel)⟩
theorem lw_p12 : lw_okq (⟨"LowNumber$Tape", "isNamed", "(I)Z"⟩, 12) := ⟨⟨by decide +kernel, by decide +kernel⟩, List.mem_of_getElem? (i := 31) (by decide +kernel), List.mem_of_getElem? (i := 515) (by decide +kernel), List.mem_of_getElem? (i := 516) (by decide +kernel)⟩
theorem lw_p13 : lw_okq (⟨"LowNumber$Tape", "namedSort", "()I"⟩, 12) := ⟨⟨by decide +kernel, by decide +kernel⟩, List.mem_of_getElem? (i := 31) (by decide +kernel), List.mem_of_getElem? (i := 519) (by decide +kernel), List.mem_of_getElem? (i := 520) (by decide +kernel)⟩
theorem lw_p14 : lw_okq (⟨"LowNumber$Tape", "readKin", "(LLowNumber$Draft;)Z"⟩, 12) := ⟨⟨by decide +kernel, by decide +kernel⟩, List.mem_of_getElem? (i := 31) (by decide +kernel), List.mem_of_getElem? (i := 530) (by decide +kernel), List.mem_of_getElem? (i := 531) (by decide +kernel)⟩
theorem lw_p15 : lw_okq (⟨"LowNumber$Tape", "isToldMan", "(LLowNumber$Draft;)Z"⟩, 12) := ⟨⟨by decide +kernel, by decide +kernel⟩, List.mem_of_getElem? (i := 31) (by decide +kernel), List.mem_of_getElem? (i := 534) (by decide +kernel), List.mem_of_getElem? (i := 535) (by decide +kernel)⟩
def lw_privs_1 : List (MethodName × Nat) := [(⟨"LowNumber", "refuse", "(I)I"⟩, 15), (⟨"LowNumber$Tape", "step", "()V"⟩, 12), (⟨"LowNumber$Tape", "runEnd", "(II)I"⟩, 12), (⟨"LowNumber$Tape", "readLine", "(LLowNumber$Draft;)Z"⟩, 12), (⟨"LowNumber$Tape", "lineKind", "()I"⟩, 12), (⟨"LowNumber$Tape", "isWord", "(Ljava/lang/String;)Z"⟩, 12), (⟨"LowNumber$Tape", "fail", "(I)Z"⟩, 12), (⟨"LowNumber$Tape", "readTakes", "(LLowNumber$Draft;)Z"⟩, 12), (⟨"LowNumber$Tape", "passWord", "(Ljava/lang/String;)Z"⟩, 12), (⟨"LowNumber$Tape", "passWhole", "(I)Z"⟩, 12), (⟨"LowNumber$Tape", "readMan", "(LLowNumber$Draft;)Z"⟩, 12), (⟨"LowNumber$Tape", "namedMan", "(LLowNumber$Draft;)I"⟩, 12), (⟨"LowNumber$Tape", "isNamed", "(I)Z"⟩, 12), (⟨"LowNumber$Tape", "namedSort", "()I"⟩, 12), (⟨"LowNumber$Tape", "readKin", "(LLowNumber$Draft;)Z"⟩, 12), (⟨"LowNumber$Tape", "isToldMan", "(LLowNumber$Draft;)Z"⟩, 12)]
theorem lw_r1 : ∀ q ∈ lw_privs_1, lw_okq q := List.forall_mem_cons.mpr ⟨lw_p0, List.forall_mem_cons.mpr ⟨lw_p1, List.forall_mem_cons.mpr ⟨lw_p2, List.forall_mem_cons.mpr ⟨lw_p3, List.forall_mem_cons.mpr ⟨lw_p4, List.forall_mem_cons.mpr ⟨lw_p5, List.forall_mem_cons.mpr ⟨lw_p6, List.forall_mem_cons.mpr ⟨lw_p7, List.forall_mem_cons.mpr ⟨lw_p8, List.forall_mem_cons.mpr ⟨lw_p9, List.forall_mem_cons.mpr ⟨lw_p10, List.forall_mem_cons.mpr ⟨lw_p11, List.forall_mem_cons.mpr ⟨lw_p12, List.forall_mem_cons.mpr ⟨lw_p13, List.forall_mem_cons.mpr ⟨lw_p14, List.forall_mem_cons.mpr ⟨lw_p15, fun _ h => absurd h List.not_mem_nil⟩⟩⟩⟩⟩⟩⟩⟩⟩⟩⟩⟩⟩⟩⟩⟩
theorem lw_p16 : lw_okq (⟨"LowNumber$Tape", "readSpares", "(LLowNumber$Draft;)Z"⟩, 12) := ⟨⟨by decide +kernel, by decide +kernel⟩, List.mem_of_getElem? (i := 31) (by decide +kernel), List.mem_of_getElem? (i := 538) (by decide +kernel), List.mem_of_getElem? (i := 539) (by decide +kernel)⟩
theorem lw_p17 : lw_okq (⟨"LowNumber$Tape", "readDoctor", "(LLowNumber$Draft;)Z"⟩, 12) := ⟨⟨by decide +kernel, by decide +kernel⟩, List.mem_of_getElem? (i := 31) (by decide +kernel), List.mem_of_getElem? (i := 542) (by decide +kernel), List.mem_of_getElem? (i := 543) (by decide +kernel)⟩
theorem lw_p18 : lw_okq (⟨"LowNumber$Tape", "readWent", "(LLowNumber$Draft;)Z"⟩, 12) := ⟨⟨by decide +kernel, by decide +kernel⟩, List.mem_of_getElem? (i := 31) (by decide +kernel), List.mem_of_getElem? (i := 549) (by decide +kernel), List.mem_of_getElem? (i := 550) (by decide +kernel)⟩
theorem lw_p19 : lw_okq (⟨"LowNumber", "changed", "()V"⟩, 15) := ⟨⟨by decide +kernel, by decide +kernel⟩, List.mem_of_getElem? (i := 23) (by decide +kernel), List.mem_of_getElem? (i := 561) (by decide +kernel), List.mem_of_getElem? (i := 562) (by decide +kernel)⟩
theorem lw_p20 : lw_okq (⟨"LowNumber", "answer", "(I)I"⟩, 15) := ⟨⟨by decide +kernel, by decide +kernel⟩, List.mem_of_getElem? (i := 23) (by decide +kernel), List.mem_of_getElem? (i := 569) (by decide +kernel), List.mem_of_getElem? (i := 570) (by decide +kernel)⟩
theorem lw_p21 : lw_okq (⟨"LowNumber", "isMan", "(I)Z"⟩, 15) := ⟨⟨by decide +kernel, by decide +kernel⟩, List.mem_of_getElem? (i := 23) (by decide +kernel), List.mem_of_getElem? (i := 585) (by decide +kernel), List.mem_of_getElem? (i := 586) (by decide +kernel)⟩
theorem lw_p22 : lw_okq (⟨"LowNumber", "levyBy", "(I)I"⟩, 15) := ⟨⟨by decide +kernel, by decide +kernel⟩, List.mem_of_getElem? (i := 23) (by decide +kernel), List.mem_of_getElem? (i := 613) (by decide +kernel), List.mem_of_getElem? (i := 614) (by decide +kernel)⟩
theorem lw_p23 : lw_okq (⟨"LowNumber", "readRow", "(I)Z"⟩, 15) := ⟨⟨by decide +kernel, by decide +kernel⟩, List.mem_of_getElem? (i := 23) (by decide +kernel), List.mem_of_getElem? (i := 617) (by decide +kernel), List.mem_of_getElem? (i := 618) (by decide +kernel)⟩
theorem lw_p24 : lw_okq (⟨"LowNumber$Levy", "callMen", "(LLowNumber$Draft;LLowNumber$Now;I[I)V"⟩, 4) := ⟨⟨by decide +kernel, by decide +kernel⟩, List.mem_of_getElem? (i := 237) (by decide +kernel), List.mem_of_getElem? (i := 625) (by decide +kernel), List.mem_of_getElem? (i := 626) (by decide +kernel)⟩
theorem lw_p25 : lw_okq (⟨"LowNumber", "table", "()LLowNumber$Cases;"⟩, 15) := ⟨⟨by decide +kernel, by decide +kernel⟩, List.mem_of_getElem? (i := 23) (by decide +kernel), List.mem_of_getElem? (i := 672) (by decide +kernel), List.mem_of_getElem? (i := 673) (by decide +kernel)⟩
theorem lw_p26 : lw_okq (⟨"LowNumber$Cases", "isTaken", "(II)Z"⟩, 7) := ⟨⟨by decide +kernel, by decide +kernel⟩, List.mem_of_getElem? (i := 263) (by decide +kernel), List.mem_of_getElem? (i := 692) (by decide +kernel), List.mem_of_getElem? (i := 693) (by decide +kernel)⟩
theorem lw_p27 : lw_okq (⟨"LowNumber", "odds", "(JZ)J"⟩, 15) := ⟨⟨by decide +kernel, by decide +kernel⟩, List.mem_of_getElem? (i := 23) (by decide +kernel), List.mem_of_getElem? (i := 696) (by decide +kernel), List.mem_of_getElem? (i := 697) (by decide +kernel)⟩
theorem lw_p28 : lw_okq (⟨"LowNumber", "part", "(JJZ)J"⟩, 15) := ⟨⟨by decide +kernel, by decide +kernel⟩, List.mem_of_getElem? (i := 23) (by decide +kernel), List.mem_of_getElem? (i := 701) (by decide +kernel), List.mem_of_getElem? (i := 702) (by decide +kernel)⟩
theorem lw_p29 : lw_okq (⟨"LowNumber$Cases", "sent", "(II)I"⟩, 7) := ⟨⟨by decide +kernel, by decide +kernel⟩, List.mem_of_getElem? (i := 263) (by decide +kernel), List.mem_of_getElem? (i := 716) (by decide +kernel), List.mem_of_getElem? (i := 717) (by decide +kernel)⟩
theorem lw_p30 : lw_okq (⟨"LowNumber$Cases", "sender", "(II)I"⟩, 7) := ⟨⟨by decide +kernel, by decide +kernel⟩, List.mem_of_getElem? (i := 263) (by decide +kernel), List.mem_of_getElem? (i := 720) (by decide +kernel), List.mem_of_getElem? (i := 721) (by decide +kernel)⟩
theorem lw_p31 : lw_okq (⟨"LowNumber$Cases", "lost", "(LLowNumber$Draft;II)I"⟩, 7) := ⟨⟨by decide +kernel, by decide +kernel⟩, List.mem_of_getElem? (i := 263) (by decide +kernel), List.mem_of_getElem? (i := 740) (by decide +kernel), List.mem_of_getElem? (i := 741) (by decide +kernel)⟩
def lw_privs_2 : List (MethodName × Nat) := [(⟨"LowNumber$Tape", "readSpares", "(LLowNumber$Draft;)Z"⟩, 12), (⟨"LowNumber$Tape", "readDoctor", "(LLowNumber$Draft;)Z"⟩, 12), (⟨"LowNumber$Tape", "readWent", "(LLowNumber$Draft;)Z"⟩, 12), (⟨"LowNumber", "changed", "()V"⟩, 15), (⟨"LowNumber", "answer", "(I)I"⟩, 15), (⟨"LowNumber", "isMan", "(I)Z"⟩, 15), (⟨"LowNumber", "levyBy", "(I)I"⟩, 15), (⟨"LowNumber", "readRow", "(I)Z"⟩, 15), (⟨"LowNumber$Levy", "callMen", "(LLowNumber$Draft;LLowNumber$Now;I[I)V"⟩, 4), (⟨"LowNumber", "table", "()LLowNumber$Cases;"⟩, 15), (⟨"LowNumber$Cases", "isTaken", "(II)Z"⟩, 7), (⟨"LowNumber", "odds", "(JZ)J"⟩, 15), (⟨"LowNumber", "part", "(JJZ)J"⟩, 15), (⟨"LowNumber$Cases", "sent", "(II)I"⟩, 7), (⟨"LowNumber$Cases", "sender", "(II)I"⟩, 7), (⟨"LowNumber$Cases", "lost", "(LLowNumber$Draft;II)I"⟩, 7)]
theorem lw_r2 : ∀ q ∈ lw_privs_2, lw_okq q := List.forall_mem_cons.mpr ⟨lw_p16, List.forall_mem_cons.mpr ⟨lw_p17, List.forall_mem_cons.mpr ⟨lw_p18, List.forall_mem_cons.mpr ⟨lw_p19, List.forall_mem_cons.mpr ⟨lw_p20, List.forall_mem_cons.mpr ⟨lw_p21, List.forall_mem_cons.mpr ⟨lw_p22, List.forall_mem_cons.mpr ⟨lw_p23, List.forall_mem_cons.mpr ⟨lw_p24, List.forall_mem_cons.mpr ⟨lw_p25, List.forall_mem_cons.mpr ⟨lw_p26, List.forall_mem_cons.mpr ⟨lw_p27, List.forall_mem_cons.mpr ⟨lw_p28, List.forall_mem_cons.mpr ⟨lw_p29, List.forall_mem_cons.mpr ⟨lw_p30, List.forall_mem_cons.mpr ⟨lw_p31, fun _ h => absurd h List.not_mem_nil⟩⟩⟩⟩⟩⟩⟩⟩⟩⟩⟩⟩⟩⟩⟩⟩
theorem lw_p32 : lw_okq (⟨"LowNumber", "isClub", "(I)Z"⟩, 15) := ⟨⟨by decide +kernel, by decide +kernel⟩, List.mem_of_getElem? (i := 23) (by decide +kernel), List.mem_of_getElem? (i := 748) (by decide +kernel), List.mem_of_getElem? (i := 749) (by decide +kernel)⟩
theorem lw_p33 : lw_okq (⟨"LowNumber", "allMen", "()I"⟩, 15) := ⟨⟨by decide +kernel, by decide +kernel⟩, List.mem_of_getElem? (i := 23) (by decide +kernel), List.mem_of_getElem? (i := 752) (by decide +kernel), List.mem_of_getElem? (i := 753) (by decide +kernel)⟩
theorem lw_p34 : lw_okq (⟨"LowNumber", "learn", "(I)V"⟩, 15) := ⟨⟨by decide +kernel, by decide +kernel⟩, List.mem_of_getElem? (i := 23) (by decide +kernel), List.mem_of_getElem? (i := 798) (by decide +kernel), List.mem_of_getElem? (i := 799) (by decide +kernel)⟩
theorem lw_p35 : lw_okq (⟨"LowNumber", "look", "()LLowNumber$Witness;"⟩, 15) := ⟨⟨by decide +kernel, by decide +kernel⟩, List.mem_of_getElem? (i := 23) (by decide +kernel), List.mem_of_getElem? (i := 822) (by decide +kernel), List.mem_of_getElem? (i := 823) (by decide +kernel)⟩
theorem lw_p36 : lw_okq (⟨"LowNumber$Witness", "clear", "()V"⟩, 3) := ⟨⟨by decide +kernel, by decide +kernel⟩, List.mem_of_getElem? (i := 316) (by decide +kernel), List.mem_of_getElem? (i := 830) (by decide +kernel), List.mem_of_getElem? (i := 831) (by decide +kernel)⟩
theorem lw_p37 : lw_okq (⟨"LowNumber", "isTold", "(I)Z"⟩, 15) := ⟨⟨by decide +kernel, by decide +kernel⟩, List.mem_of_getElem? (i := 23) (by decide +kernel), List.mem_of_getElem? (i := 842) (by decide +kernel), List.mem_of_getElem? (i := 843) (by decide +kernel)⟩
theorem lw_p38 : lw_okq (⟨"LowNumber", "countDraws", "(IIIZ)I"⟩, 15) := ⟨⟨by decide +kernel, by decide +kernel⟩, List.mem_of_getElem? (i := 23) (by decide +kernel), List.mem_of_getElem? (i := 920) (by decide +kernel), List.mem_of_getElem? (i := 921) (by decide +kernel)⟩
theorem lw_p39 : lw_okq (⟨"LowNumber", "levyByDraws", "(I)I"⟩, 15) := ⟨⟨by decide +kernel, by decide +kernel⟩, List.mem_of_getElem? (i := 23) (by decide +kernel), List.mem_of_getElem? (i := 931) (by decide +kernel), List.mem_of_getElem? (i := 932) (by decide +kernel)⟩
theorem lw_p40 : lw_okq (⟨"LowNumber", "deny", "(I)Z"⟩, 15) := ⟨⟨by decide +kernel, by decide +kernel⟩, List.mem_of_getElem? (i := 23) (by decide +kernel), List.mem_of_getElem? (i := 948) (by decide +kernel), List.mem_of_getElem? (i := 949) (by decide +kernel)⟩
theorem lw_p41 : lw_okq (⟨"LowNumber", "grant", "()Z"⟩, 15) := ⟨⟨by decide +kernel, by decide +kernel⟩, List.mem_of_getElem? (i := 23) (by decide +kernel), List.mem_of_getElem? (i := 958) (by decide +kernel), List.mem_of_getElem? (i := 959) (by decide +kernel)⟩
theorem lw_p42 : lw_okq (⟨"LowNumber", "senderOf", "(I)I"⟩, 15) := ⟨⟨by decide +kernel, by decide +kernel⟩, List.mem_of_getElem? (i := 23) (by decide +kernel), List.mem_of_getElem? (i := 974) (by decide +kernel), List.mem_of_getElem? (i := 975) (by decide +kernel)⟩
theorem lw_p43 : lw_okq (⟨"LowNumber", "sizeOfDraft", "(I)I"⟩, 15) := ⟨⟨by decide +kernel, by decide +kernel⟩, List.mem_of_getElem? (i := 23) (by decide +kernel), List.mem_of_getElem? (i := 1018) (by decide +kernel), List.mem_of_getElem? (i := 1019) (by decide +kernel)⟩
theorem lw_p44 : lw_okq (⟨"java/lang/Throwable", "fillInStackTrace", "(I)Ljava/lang/Throwable;"⟩, 6) := ⟨⟨by decide +kernel, by decide +kernel⟩, List.mem_of_getElem? (i := 1070) (by decide +kernel), List.mem_of_getElem? (i := 1068) (by decide +kernel), List.mem_of_getElem? (i := 1069) (by decide +kernel)⟩
theorem lw_p45 : lw_okq (⟨"LowNumberModel", "refused", "(I)I"⟩, 38) := ⟨⟨by decide +kernel, by decide +kernel⟩, List.mem_of_getElem? (i := 1099) (by decide +kernel), List.mem_of_getElem? (i := 1232) (by decide +kernel), List.mem_of_getElem? (i := 1233) (by decide +kernel)⟩
theorem lw_p46 : lw_okq (⟨"LowNumberModel", "goesOn", "()V"⟩, 38) := ⟨⟨by decide +kernel, by decide +kernel⟩, List.mem_of_getElem? (i := 1099) (by decide +kernel), List.mem_of_getElem? (i := 1299) (by decide +kernel), List.mem_of_getElem? (i := 1300) (by decide +kernel)⟩
theorem lw_p47 : lw_okq (⟨"LowNumberModel", "byteAt", "(I)I"⟩, 38) := ⟨⟨by decide +kernel, by decide +kernel⟩, List.mem_of_getElem? (i := 1099) (by decide +kernel), List.mem_of_getElem? (i := 1303) (by decide +kernel), List.mem_of_getElem? (i := 1304) (by decide +kernel)⟩
def lw_privs_3 : List (MethodName × Nat) := [(⟨"LowNumber", "isClub", "(I)Z"⟩, 15), (⟨"LowNumber", "allMen", "()I"⟩, 15), (⟨"LowNumber", "learn", "(I)V"⟩, 15), (⟨"LowNumber", "look", "()LLowNumber$Witness;"⟩, 15), (⟨"LowNumber$Witness", "clear", "()V"⟩, 3), (⟨"LowNumber", "isTold", "(I)Z"⟩, 15), (⟨"LowNumber", "countDraws", "(IIIZ)I"⟩, 15), (⟨"LowNumber", "levyByDraws", "(I)I"⟩, 15), (⟨"LowNumber", "deny", "(I)Z"⟩, 15), (⟨"LowNumber", "grant", "()Z"⟩, 15), (⟨"LowNumber", "senderOf", "(I)I"⟩, 15), (⟨"LowNumber", "sizeOfDraft", "(I)I"⟩, 15), (⟨"java/lang/Throwable", "fillInStackTrace", "(I)Ljava/lang/Throwable;"⟩, 6), (⟨"LowNumberModel", "refused", "(I)I"⟩, 38), (⟨"LowNumberModel", "goesOn", "()V"⟩, 38), (⟨"LowNumberModel", "byteAt", "(I)I"⟩, 38)]
theorem lw_r3 : ∀ q ∈ lw_privs_3, lw_okq q := List.forall_mem_cons.mpr ⟨lw_p32, List.forall_mem_cons.mpr ⟨lw_p33, List.forall_mem_cons.mpr ⟨lw_p34, List.forall_mem_cons.mpr ⟨lw_p35, List.forall_mem_cons.mpr ⟨lw_p36, List.forall_mem_cons.mpr ⟨lw_p37, List.forall_mem_cons.mpr ⟨lw_p38, List.forall_mem_cons.mpr ⟨lw_p39, List.forall_mem_cons.mpr ⟨lw_p40, List.forall_mem_cons.mpr ⟨lw_p41, List.forall_mem_cons.mpr ⟨lw_p42, List.forall_mem_cons.mpr ⟨lw_p43, List.forall_mem_cons.mpr ⟨lw_p44, List.forall_mem_cons.mpr ⟨lw_p45, List.forall_mem_cons.mpr ⟨lw_p46, List.forall_mem_cons.mpr ⟨lw_p47, fun _ h => absurd h List.not_mem_nil⟩⟩⟩⟩⟩⟩⟩⟩⟩⟩⟩⟩⟩⟩⟩⟩
theorem lw_p48 : lw_okq (⟨"LowNumberModel", "readAll", "()V"⟩, 38) := ⟨⟨by decide +kernel, by decide +kernel⟩, List.mem_of_getElem? (i := 1099) (by decide +kernel), List.mem_of_getElem? (i := 1314) (by decide +kernel), List.mem_of_getElem? (i := 1315) (by decide +kernel)⟩
theorem lw_p49 : lw_okq (⟨"LowNumberModel", "readLine", "()V"⟩, 38) := ⟨⟨by decide +kernel, by decide +kernel⟩, List.mem_of_getElem? (i := 1099) (by decide +kernel), List.mem_of_getElem? (i := 1318) (by decide +kernel), List.mem_of_getElem? (i := 1319) (by decide +kernel)⟩
theorem lw_p50 : lw_okq (⟨"LowNumberModel", "isWord", "(Ljava/lang/String;)Z"⟩, 38) := ⟨⟨by decide +kernel, by decide +kernel⟩, List.mem_of_getElem? (i := 1099) (by decide +kernel), List.mem_of_getElem? (i := 1323) (by decide +kernel), List.mem_of_getElem? (i := 1324) (by decide +kernel)⟩
theorem lw_p51 : lw_okq (⟨"LowNumberModel", "readDraft", "()V"⟩, 38) := ⟨⟨by decide +kernel, by decide +kernel⟩, List.mem_of_getElem? (i := 1099) (by decide +kernel), List.mem_of_getElem? (i := 1332) (by decide +kernel), List.mem_of_getElem? (i := 1333) (by decide +kernel)⟩
theorem lw_p52 : lw_okq (⟨"LowNumberModel", "flaw", "(I)V"⟩, 38) := ⟨⟨by decide +kernel, by decide +kernel⟩, List.mem_of_getElem? (i := 1099) (by decide +kernel), List.mem_of_getElem? (i := 1336) (by decide +kernel), List.mem_of_getElem? (i := 1337) (by decide +kernel)⟩
theorem lw_p53 : lw_okq (⟨"LowNumberModel", "readPart", "(Ljava/lang/String;II)I"⟩, 38) := ⟨⟨by decide +kernel, by decide +kernel⟩, List.mem_of_getElem? (i := 1099) (by decide +kernel), List.mem_of_getElem? (i := 1341) (by decide +kernel), List.mem_of_getElem? (i := 1342) (by decide +kernel)⟩
theorem lw_p54 : lw_okq (⟨"LowNumberModel", "needs", "(Ljava/lang/String;)V"⟩, 38) := ⟨⟨by decide +kernel, by decide +kernel⟩, List.mem_of_getElem? (i := 1099) (by decide +kernel), List.mem_of_getElem? (i := 1345) (by decide +kernel), List.mem_of_getElem? (i := 1346) (by decide +kernel)⟩
theorem lw_p55 : lw_okq (⟨"LowNumberModel", "readWhole", "(II)I"⟩, 38) := ⟨⟨by decide +kernel, by decide +kernel⟩, List.mem_of_getElem? (i := 1099) (by decide +kernel), List.mem_of_getElem? (i := 1349) (by decide +kernel), List.mem_of_getElem? (i := 1350) (by decide +kernel)⟩
theorem lw_p56 : lw_okq (⟨"LowNumberModel", "readMan", "()V"⟩, 38) := ⟨⟨by decide +kernel, by decide +kernel⟩, List.mem_of_getElem? (i := 1099) (by decide +kernel), List.mem_of_getElem? (i := 1357) (by decide +kernel), List.mem_of_getElem? (i := 1358) (by decide +kernel)⟩
theorem lw_p57 : lw_okq (⟨"LowNumberModel", "lineBegins", "(II)V"⟩, 38) := ⟨⟨by decide +kernel, by decide +kernel⟩, List.mem_of_getElem? (i := 1099) (by decide +kernel), List.mem_of_getElem? (i := 1361) (by decide +kernel), List.mem_of_getElem? (i := 1362) (by decide +kernel)⟩
theorem lw_p58 : lw_okq (⟨"LowNumberModel", "isName", "()Z"⟩, 38) := ⟨⟨by decide +kernel, by decide +kernel⟩, List.mem_of_getElem? (i := 1099) (by decide +kernel), List.mem_of_getElem? (i := 1365) (by decide +kernel), List.mem_of_getElem? (i := 1366) (by decide +kernel)⟩
theorem lw_p59 : lw_okq (⟨"LowNumberModel", "sortAtHand", "()I"⟩, 38) := ⟨⟨by decide +kernel, by decide +kernel⟩, List.mem_of_getElem? (i := 1099) (by decide +kernel), List.mem_of_getElem? (i := 1377) (by decide +kernel), List.mem_of_getElem? (i := 1378) (by decide +kernel)⟩
theorem lw_p60 : lw_okq (⟨"LowNumberModel", "readKin", "()V"⟩, 38) := ⟨⟨by decide +kernel, by decide +kernel⟩, List.mem_of_getElem? (i := 1099) (by decide +kernel), List.mem_of_getElem? (i := 1388) (by decide +kernel), List.mem_of_getElem? (i := 1389) (by decide +kernel)⟩
theorem lw_p61 : lw_okq (⟨"LowNumberModel", "knownMan", "()I"⟩, 38) := ⟨⟨by decide +kernel, by decide +kernel⟩, List.mem_of_getElem? (i := 1099) (by decide +kernel), List.mem_of_getElem? (i := 1392) (by decide +kernel), List.mem_of_getElem? (i := 1393) (by decide +kernel)⟩
theorem lw_p62 : lw_okq (⟨"LowNumberModel", "readSpares", "()V"⟩, 38) := ⟨⟨by decide +kernel, by decide +kernel⟩, List.mem_of_getElem? (i := 1099) (by decide +kernel), List.mem_of_getElem? (i := 1399) (by decide +kernel), List.mem_of_getElem? (i := 1400) (by decide +kernel)⟩
theorem lw_p63 : lw_okq (⟨"LowNumberModel", "readDoctor", "()V"⟩, 38) := ⟨⟨by decide +kernel, by decide +kernel⟩, List.mem_of_getElem? (i := 1099) (by decide +kernel), List.mem_of_getElem? (i := 1403) (by decide +kernel), List.mem_of_getElem? (i := 1404) (by decide +kernel)⟩
def lw_privs_4 : List (MethodName × Nat) := [(⟨"LowNumberModel", "readAll", "()V"⟩, 38), (⟨"LowNumberModel", "readLine", "()V"⟩, 38), (⟨"LowNumberModel", "isWord", "(Ljava/lang/String;)Z"⟩, 38), (⟨"LowNumberModel", "readDraft", "()V"⟩, 38), (⟨"LowNumberModel", "flaw", "(I)V"⟩, 38), (⟨"LowNumberModel", "readPart", "(Ljava/lang/String;II)I"⟩, 38), (⟨"LowNumberModel", "needs", "(Ljava/lang/String;)V"⟩, 38), (⟨"LowNumberModel", "readWhole", "(II)I"⟩, 38), (⟨"LowNumberModel", "readMan", "()V"⟩, 38), (⟨"LowNumberModel", "lineBegins", "(II)V"⟩, 38), (⟨"LowNumberModel", "isName", "()Z"⟩, 38), (⟨"LowNumberModel", "sortAtHand", "()I"⟩, 38), (⟨"LowNumberModel", "readKin", "()V"⟩, 38), (⟨"LowNumberModel", "knownMan", "()I"⟩, 38), (⟨"LowNumberModel", "readSpares", "()V"⟩, 38), (⟨"LowNumberModel", "readDoctor", "()V"⟩, 38)]
theorem lw_r4 : ∀ q ∈ lw_privs_4, lw_okq q := List.forall_mem_cons.mpr ⟨lw_p48, List.forall_mem_cons.mpr ⟨lw_p49, List.forall_mem_cons.mpr ⟨lw_p50, List.forall_mem_cons.mpr ⟨lw_p51, List.forall_mem_cons.mpr ⟨lw_p52, List.forall_mem_cons.mpr ⟨lw_p53, List.forall_mem_cons.mpr ⟨lw_p54, List.forall_mem_cons.mpr ⟨lw_p55, List.forall_mem_cons.mpr ⟨lw_p56, List.forall_mem_cons.mpr ⟨lw_p57, List.forall_mem_cons.mpr ⟨lw_p58, List.forall_mem_cons.mpr ⟨lw_p59, List.forall_mem_cons.mpr ⟨lw_p60, List.forall_mem_cons.mpr ⟨lw_p61, List.forall_mem_cons.mpr ⟨lw_p62, List.forall_mem_cons.mpr ⟨lw_p63, fun _ h => absurd h List.not_mem_nil⟩⟩⟩⟩⟩⟩⟩⟩⟩⟩⟩⟩⟩⟩⟩⟩
theorem lw_p64 : lw_okq (⟨"LowNumberModel", "readWent", "()V"⟩, 38) := ⟨⟨by decide +kernel, by decide +kernel⟩, List.mem_of_getElem? (i := 1099) (by decide +kernel), List.mem_of_getElem? (i := 1410) (by decide +kernel), List.mem_of_getElem? (i := 1411) (by decide +kernel)⟩
theorem lw_p65 : lw_okq (⟨"LowNumberModel", "eatsSemicolon", "()Z"⟩, 38) := ⟨⟨by decide +kernel, by decide +kernel⟩, List.mem_of_getElem? (i := 1099) (by decide +kernel), List.mem_of_getElem? (i := 1418) (by decide +kernel), List.mem_of_getElem? (i := 1419) (by decide +kernel)⟩
theorem lw_p66 : lw_okq (⟨"LowNumberModel", "good", "(I)I"⟩, 38) := ⟨⟨by decide +kernel, by decide +kernel⟩, List.mem_of_getElem? (i := 1099) (by decide +kernel), List.mem_of_getElem? (i := 1422) (by decide +kernel), List.mem_of_getElem? (i := 1423) (by decide +kernel)⟩
theorem lw_p67 : lw_okq (⟨"LowNumberModel", "isMan", "(I)Z"⟩, 38) := ⟨⟨by decide +kernel, by decide +kernel⟩, List.mem_of_getElem? (i := 1099) (by decide +kernel), List.mem_of_getElem? (i := 1438) (by decide +kernel), List.mem_of_getElem? (i := 1439) (by decide +kernel)⟩
theorem lw_p68 : lw_okq (⟨"LowNumberModel", "asNow", "()V"⟩, 38) := ⟨⟨by decide +kernel, by decide +kernel⟩, List.mem_of_getElem? (i := 1099) (by decide +kernel), List.mem_of_getElem? (i := 1454) (by decide +kernel), List.mem_of_getElem? (i := 1455) (by decide +kernel)⟩
theorem lw_p69 : lw_okq (⟨"LowNumberModel", "cheapest", "(II)I"⟩, 38) := ⟨⟨by decide +kernel, by decide +kernel⟩, List.mem_of_getElem? (i := 1099) (by decide +kernel), List.mem_of_getElem? (i := 1458) (by decide +kernel), List.mem_of_getElem? (i := 1459) (by decide +kernel)⟩
theorem lw_p70 : lw_okq (⟨"LowNumberModel", "refusesRow", "(ZI)I"⟩, 38) := ⟨⟨by decide +kernel, by decide +kernel⟩, List.mem_of_getElem? (i := 1099) (by decide +kernel), List.mem_of_getElem? (i := 1466) (by decide +kernel), List.mem_of_getElem? (i := 1467) (by decide +kernel)⟩
theorem lw_p71 : lw_okq (⟨"LowNumberModel", "lays", "(I)Z"⟩, 38) := ⟨⟨by decide +kernel, by decide +kernel⟩, List.mem_of_getElem? (i := 1099) (by decide +kernel), List.mem_of_getElem? (i := 1470) (by decide +kernel), List.mem_of_getElem? (i := 1471) (by decide +kernel)⟩
theorem lw_p72 : lw_okq (⟨"LowNumberModel", "everybody", "()I"⟩, 38) := ⟨⟨by decide +kernel, by decide +kernel⟩, List.mem_of_getElem? (i := 1099) (by decide +kernel), List.mem_of_getElem? (i := 1474) (by decide +kernel), List.mem_of_getElem? (i := 1475) (by decide +kernel)⟩
theorem lw_p73 : lw_okq (⟨"LowNumberModel", "playsNow", "()V"⟩, 38) := ⟨⟨by decide +kernel, by decide +kernel⟩, List.mem_of_getElem? (i := 1099) (by decide +kernel), List.mem_of_getElem? (i := 1478) (by decide +kernel), List.mem_of_getElem? (i := 1479) (by decide +kernel)⟩
theorem lw_p74 : lw_okq (⟨"LowNumberModel", "plays", "()V"⟩, 38) := ⟨⟨by decide +kernel, by decide +kernel⟩, List.mem_of_getElem? (i := 1099) (by decide +kernel), List.mem_of_getElem? (i := 1482) (by decide +kernel), List.mem_of_getElem? (i := 1483) (by decide +kernel)⟩
theorem lw_p75 : lw_okq (⟨"LowNumberModel", "going", "()I"⟩, 38) := ⟨⟨by decide +kernel, by decide +kernel⟩, List.mem_of_getElem? (i := 1099) (by decide +kernel), List.mem_of_getElem? (i := 1493) (by decide +kernel), List.mem_of_getElem? (i := 1494) (by decide +kernel)⟩
theorem lw_p76 : lw_okq (⟨"LowNumberModel", "lossOf", "(I)I"⟩, 38) := ⟨⟨by decide +kernel, by decide +kernel⟩, List.mem_of_getElem? (i := 1099) (by decide +kernel), List.mem_of_getElem? (i := 1505) (by decide +kernel), List.mem_of_getElem? (i := 1506) (by decide +kernel)⟩
theorem lw_p77 : lw_okq (⟨"LowNumberModel", "firstRow", "()V"⟩, 38) := ⟨⟨by decide +kernel, by decide +kernel⟩, List.mem_of_getElem? (i := 1099) (by decide +kernel), List.mem_of_getElem? (i := 1513) (by decide +kernel), List.mem_of_getElem? (i := 1514) (by decide +kernel)⟩
theorem lw_p78 : lw_okq (⟨"LowNumberModel", "codeOfRow", "()I"⟩, 38) := ⟨⟨by decide +kernel, by decide +kernel⟩, List.mem_of_getElem? (i := 1099) (by decide +kernel), List.mem_of_getElem? (i := 1517) (by decide +kernel), List.mem_of_getElem? (i := 1518) (by decide +kernel)⟩
theorem lw_p79 : lw_okq (⟨"LowNumberModel", "nextRow", "()Z"⟩, 38) := ⟨⟨by decide +kernel, by decide +kernel⟩, List.mem_of_getElem? (i := 1099) (by decide +kernel), List.mem_of_getElem? (i := 1521) (by decide +kernel), List.mem_of_getElem? (i := 1522) (by decide +kernel)⟩
def lw_privs_5 : List (MethodName × Nat) := [(⟨"LowNumberModel", "readWent", "()V"⟩, 38), (⟨"LowNumberModel", "eatsSemicolon", "()Z"⟩, 38), (⟨"LowNumberModel", "good", "(I)I"⟩, 38), (⟨"LowNumberModel", "isMan", "(I)Z"⟩, 38), (⟨"LowNumberModel", "asNow", "()V"⟩, 38), (⟨"LowNumberModel", "cheapest", "(II)I"⟩, 38), (⟨"LowNumberModel", "refusesRow", "(ZI)I"⟩, 38), (⟨"LowNumberModel", "lays", "(I)Z"⟩, 38), (⟨"LowNumberModel", "everybody", "()I"⟩, 38), (⟨"LowNumberModel", "playsNow", "()V"⟩, 38), (⟨"LowNumberModel", "plays", "()V"⟩, 38), (⟨"LowNumberModel", "going", "()I"⟩, 38), (⟨"LowNumberModel", "lossOf", "(I)I"⟩, 38), (⟨"LowNumberModel", "firstRow", "()V"⟩, 38), (⟨"LowNumberModel", "codeOfRow", "()I"⟩, 38), (⟨"LowNumberModel", "nextRow", "()Z"⟩, 38)]
theorem lw_r5 : ∀ q ∈ lw_privs_5, lw_okq q := List.forall_mem_cons.mpr ⟨lw_p64, List.forall_mem_cons.mpr ⟨lw_p65, List.forall_mem_cons.mpr ⟨lw_p66, List.forall_mem_cons.mpr ⟨lw_p67, List.forall_mem_cons.mpr ⟨lw_p68, List.forall_mem_cons.mpr ⟨lw_p69, List.forall_mem_cons.mpr ⟨lw_p70, List.forall_mem_cons.mpr ⟨lw_p71, List.forall_mem_cons.mpr ⟨lw_p72, List.forall_mem_cons.mpr ⟨lw_p73, List.forall_mem_cons.mpr ⟨lw_p74, List.forall_mem_cons.mpr ⟨lw_p75, List.forall_mem_cons.mpr ⟨lw_p76, List.forall_mem_cons.mpr ⟨lw_p77, List.forall_mem_cons.mpr ⟨lw_p78, List.forall_mem_cons.mpr ⟨lw_p79, fun _ h => absurd h List.not_mem_nil⟩⟩⟩⟩⟩⟩⟩⟩⟩⟩⟩⟩⟩⟩⟩⟩
theorem lw_p80 : lw_okq (⟨"LowNumberModel", "swaps", "(II)V"⟩, 38) := ⟨⟨by decide +kernel, by decide +kernel⟩, List.mem_of_getElem? (i := 1099) (by decide +kernel), List.mem_of_getElem? (i := 1525) (by decide +kernel), List.mem_of_getElem? (i := 1526) (by decide +kernel)⟩
theorem lw_p81 : lw_okq (⟨"LowNumberModel", "oddsNow", "()V"⟩, 38) := ⟨⟨by decide +kernel, by decide +kernel⟩, List.mem_of_getElem? (i := 1099) (by decide +kernel), List.mem_of_getElem? (i := 1533) (by decide +kernel), List.mem_of_getElem? (i := 1534) (by decide +kernel)⟩
theorem lw_p82 : lw_okq (⟨"LowNumberModel", "odds", "(II)V"⟩, 38) := ⟨⟨by decide +kernel, by decide +kernel⟩, List.mem_of_getElem? (i := 1099) (by decide +kernel), List.mem_of_getElem? (i := 1537) (by decide +kernel), List.mem_of_getElem? (i := 1538) (by decide +kernel)⟩
theorem lw_p83 : lw_okq (⟨"LowNumberModel", "lossOfAll", "(I)I"⟩, 38) := ⟨⟨by decide +kernel, by decide +kernel⟩, List.mem_of_getElem? (i := 1099) (by decide +kernel), List.mem_of_getElem? (i := 1541) (by decide +kernel), List.mem_of_getElem? (i := 1542) (by decide +kernel)⟩
theorem lw_p84 : lw_okq (⟨"LowNumberModel", "allRows", "()I"⟩, 38) := ⟨⟨by decide +kernel, by decide +kernel⟩, List.mem_of_getElem? (i := 1099) (by decide +kernel), List.mem_of_getElem? (i := 1545) (by decide +kernel), List.mem_of_getElem? (i := 1546) (by decide +kernel)⟩
theorem lw_p85 : lw_okq (⟨"LowNumberModel", "fraction", "(JJZ)J"⟩, 38) := ⟨⟨by decide +kernel, by decide +kernel⟩, List.mem_of_getElem? (i := 1099) (by decide +kernel), List.mem_of_getElem? (i := 1549) (by decide +kernel), List.mem_of_getElem? (i := 1550) (by decide +kernel)⟩
theorem lw_p86 : lw_okq (⟨"LowNumberModel", "isClub", "(II)Z"⟩, 38) := ⟨⟨by decide +kernel, by decide +kernel⟩, List.mem_of_getElem? (i := 1099) (by decide +kernel), List.mem_of_getElem? (i := 1572) (by decide +kernel), List.mem_of_getElem? (i := 1573) (by decide +kernel)⟩
theorem lw_p87 : lw_okq (⟨"LowNumberModel", "lossesOf", "(I)J"⟩, 38) := ⟨⟨by decide +kernel, by decide +kernel⟩, List.mem_of_getElem? (i := 1099) (by decide +kernel), List.mem_of_getElem? (i := 1576) (by decide +kernel), List.mem_of_getElem? (i := 1577) (by decide +kernel)⟩
theorem lw_p88 : lw_okq (⟨"LowNumberModel", "refusesLaw", "(I)I"⟩, 38) := ⟨⟨by decide +kernel, by decide +kernel⟩, List.mem_of_getElem? (i := 1099) (by decide +kernel), List.mem_of_getElem? (i := 1600) (by decide +kernel), List.mem_of_getElem? (i := 1601) (by decide +kernel)⟩
theorem lw_p89 : lw_okq (⟨"LowNumberModel", "byLaw", "(I)V"⟩, 38) := ⟨⟨by decide +kernel, by decide +kernel⟩, List.mem_of_getElem? (i := 1099) (by decide +kernel), List.mem_of_getElem? (i := 1604) (by decide +kernel), List.mem_of_getElem? (i := 1605) (by decide +kernel)⟩
theorem lw_p90 : lw_okq (⟨"LowNumberModel", "fitting", "()V"⟩, 38) := ⟨⟨by decide +kernel, by decide +kernel⟩, List.mem_of_getElem? (i := 1099) (by decide +kernel), List.mem_of_getElem? (i := 1624) (by decide +kernel), List.mem_of_getElem? (i := 1625) (by decide +kernel)⟩
theorem lw_p91 : lw_okq (⟨"LowNumberModel", "isTold", "(I)Z"⟩, 38) := ⟨⟨by decide +kernel, by decide +kernel⟩, List.mem_of_getElem? (i := 1099) (by decide +kernel), List.mem_of_getElem? (i := 1632) (by decide +kernel), List.mem_of_getElem? (i := 1633) (by decide +kernel)⟩
theorem lw_p92 : lw_okq (⟨"LowNumberModel", "couldBe", "(I)I"⟩, 38) := ⟨⟨by decide +kernel, by decide +kernel⟩, List.mem_of_getElem? (i := 1099) (by decide +kernel), List.mem_of_getElem? (i := 1636) (by decide +kernel), List.mem_of_getElem? (i := 1637) (by decide +kernel)⟩
theorem lw_p93 : lw_okq (⟨"LowNumberModel", "toAsk", "()I"⟩, 38) := ⟨⟨by decide +kernel, by decide +kernel⟩, List.mem_of_getElem? (i := 1099) (by decide +kernel), List.mem_of_getElem? (i := 1648) (by decide +kernel), List.mem_of_getElem? (i := 1649) (by decide +kernel)⟩
theorem lw_p94 : lw_okq (⟨"LowNumberModel", "refusesDoctor", "()I"⟩, 38) := ⟨⟨by decide +kernel, by decide +kernel⟩, List.mem_of_getElem? (i := 1099) (by decide +kernel), List.mem_of_getElem? (i := 1664) (by decide +kernel), List.mem_of_getElem? (i := 1665) (by decide +kernel)⟩
theorem lw_p95 : lw_okq (⟨"LowNumberModel", "refusesMany", "(I)I"⟩, 38) := ⟨⟨by decide +kernel, by decide +kernel⟩, List.mem_of_getElem? (i := 1099) (by decide +kernel), List.mem_of_getElem? (i := 1677) (by decide +kernel), List.mem_of_getElem? (i := 1678) (by decide +kernel)⟩
def lw_privs_6 : List (MethodName × Nat) := [(⟨"LowNumberModel", "swaps", "(II)V"⟩, 38), (⟨"LowNumberModel", "oddsNow", "()V"⟩, 38), (⟨"LowNumberModel", "odds", "(II)V"⟩, 38), (⟨"LowNumberModel", "lossOfAll", "(I)I"⟩, 38), (⟨"LowNumberModel", "allRows", "()I"⟩, 38), (⟨"LowNumberModel", "fraction", "(JJZ)J"⟩, 38), (⟨"LowNumberModel", "isClub", "(II)Z"⟩, 38), (⟨"LowNumberModel", "lossesOf", "(I)J"⟩, 38), (⟨"LowNumberModel", "refusesLaw", "(I)I"⟩, 38), (⟨"LowNumberModel", "byLaw", "(I)V"⟩, 38), (⟨"LowNumberModel", "fitting", "()V"⟩, 38), (⟨"LowNumberModel", "isTold", "(I)Z"⟩, 38), (⟨"LowNumberModel", "couldBe", "(I)I"⟩, 38), (⟨"LowNumberModel", "toAsk", "()I"⟩, 38), (⟨"LowNumberModel", "refusesDoctor", "()I"⟩, 38), (⟨"LowNumberModel", "refusesMany", "(I)I"⟩, 38)]
theorem lw_r6 : ∀ q ∈ lw_privs_6, lw_okq q := List.forall_mem_cons.mpr ⟨lw_p80, List.forall_mem_cons.mpr ⟨lw_p81, List.forall_mem_cons.mpr ⟨lw_p82, List.forall_mem_cons.mpr ⟨lw_p83, List.forall_mem_cons.mpr ⟨lw_p84, List.forall_mem_cons.mpr ⟨lw_p85, List.forall_mem_cons.mpr ⟨lw_p86, List.forall_mem_cons.mpr ⟨lw_p87, List.forall_mem_cons.mpr ⟨lw_p88, List.forall_mem_cons.mpr ⟨lw_p89, List.forall_mem_cons.mpr ⟨lw_p90, List.forall_mem_cons.mpr ⟨lw_p91, List.forall_mem_cons.mpr ⟨lw_p92, List.forall_mem_cons.mpr ⟨lw_p93, List.forall_mem_cons.mpr ⟨lw_p94, List.forall_mem_cons.mpr ⟨lw_p95, fun _ h => absurd h List.not_mem_nil⟩⟩⟩⟩⟩⟩⟩⟩⟩⟩⟩⟩⟩⟩⟩⟩
theorem lw_p96 : lw_okq (⟨"LowNumberModel", "lost", "(I)I"⟩, 38) := ⟨⟨by decide +kernel, by decide +kernel⟩, List.mem_of_getElem? (i := 1099) (by decide +kernel), List.mem_of_getElem? (i := 1681) (by decide +kernel), List.mem_of_getElem? (i := 1682) (by decide +kernel)⟩
theorem lw_p97 : lw_okq (⟨"LowNumberModel", "refusesDrafts", "(ZII)I"⟩, 38) := ⟨⟨by decide +kernel, by decide +kernel⟩, List.mem_of_getElem? (i := 1099) (by decide +kernel), List.mem_of_getElem? (i := 1706) (by decide +kernel), List.mem_of_getElem? (i := 1707) (by decide +kernel)⟩
theorem lw_p98 : lw_okq (⟨"LowNumberModel", "drawsRow", "()V"⟩, 38) := ⟨⟨by decide +kernel, by decide +kernel⟩, List.mem_of_getElem? (i := 1099) (by decide +kernel), List.mem_of_getElem? (i := 1711) (by decide +kernel), List.mem_of_getElem? (i := 1712) (by decide +kernel)⟩
theorem lw_p99 : lw_okq (⟨"LowNumberModel", "denied", "(I)Z"⟩, 38) := ⟨⟨by decide +kernel, by decide +kernel⟩, List.mem_of_getElem? (i := 1099) (by decide +kernel), List.mem_of_getElem? (i := 1730) (by decide +kernel), List.mem_of_getElem? (i := 1731) (by decide +kernel)⟩
theorem lw_p100 : lw_okq (⟨"LowNumberModel", "remembers", "()V"⟩, 38) := ⟨⟨by decide +kernel, by decide +kernel⟩, List.mem_of_getElem? (i := 1099) (by decide +kernel), List.mem_of_getElem? (i := 1734) (by decide +kernel), List.mem_of_getElem? (i := 1735) (by decide +kernel)⟩
theorem lw_p101 : lw_okq (⟨"LowNumberModel", "granted", "()Z"⟩, 38) := ⟨⟨by decide +kernel, by decide +kernel⟩, List.mem_of_getElem? (i := 1099) (by decide +kernel), List.mem_of_getElem? (i := 1738) (by decide +kernel), List.mem_of_getElem? (i := 1739) (by decide +kernel)⟩
theorem lw_p102 : lw_okq (⟨"LowNumberModel", "fateOf", "(I)I"⟩, 38) := ⟨⟨by decide +kernel, by decide +kernel⟩, List.mem_of_getElem? (i := 1099) (by decide +kernel), List.mem_of_getElem? (i := 1758) (by decide +kernel), List.mem_of_getElem? (i := 1759) (by decide +kernel)⟩
def lw_privs_7 : List (MethodName × Nat) := [(⟨"LowNumberModel", "lost", "(I)I"⟩, 38), (⟨"LowNumberModel", "refusesDrafts", "(ZII)I"⟩, 38), (⟨"LowNumberModel", "drawsRow", "()V"⟩, 38), (⟨"LowNumberModel", "denied", "(I)Z"⟩, 38), (⟨"LowNumberModel", "remembers", "()V"⟩, 38), (⟨"LowNumberModel", "granted", "()Z"⟩, 38), (⟨"LowNumberModel", "fateOf", "(I)I"⟩, 38)]
theorem lw_r7 : ∀ q ∈ lw_privs_7, lw_okq q := List.forall_mem_cons.mpr ⟨lw_p96, List.forall_mem_cons.mpr ⟨lw_p97, List.forall_mem_cons.mpr ⟨lw_p98, List.forall_mem_cons.mpr ⟨lw_p99, List.forall_mem_cons.mpr ⟨lw_p100, List.forall_mem_cons.mpr ⟨lw_p101, List.forall_mem_cons.mpr ⟨lw_p102, fun _ h => absurd h List.not_mem_nil⟩⟩⟩⟩⟩⟩⟩
def lw_privs : List (MethodName × Nat) := lw_privs_1 ++ (lw_privs_2 ++ (lw_privs_3 ++ (lw_privs_4 ++ (lw_privs_5 ++ (lw_privs_6 ++ (lw_privs_7))))))
def lw_tbl : List Cond := k2_sels lw_privs ++ tables_1
theorem lw_privs_ok : ∀ q ∈ lw_privs, lw_okq q := by
  show ∀ q ∈ lw_privs_1 ++ (lw_privs_2 ++ (lw_privs_3 ++ (lw_privs_4 ++ (lw_privs_5 ++ (lw_privs_6 ++ (lw_privs_7)))))), lw_okq q
  exact List.forall_mem_append.mpr ⟨lw_r1, List.forall_mem_append.mpr ⟨lw_r2, List.forall_mem_append.mpr ⟨lw_r3, List.forall_mem_append.mpr ⟨lw_r4, List.forall_mem_append.mpr ⟨lw_r5, List.forall_mem_append.mpr ⟨lw_r6, lw_r7⟩⟩⟩⟩⟩⟩
end
section
def RX0 : String := "LowNumber$Cases"
def TX0 : u_T := fun k => match k with
  | 0 => ("LowNumber$Cases", "levy", "LLowNumber$Levy;", true)
  | 1 => ("LowNumber$Cases", "row", "[I", true)
  | 2 => ("LowNumber$Cases", "count", "I", false)
  | 3 => ("LowNumber$Cases", "men", "I", false)
  | 4 => ("LowNumber$Cases", "takens", "[I", true)
  | 5 => ("LowNumber$Cases", "sendings", "[I", true)
  | _ => ("LowNumber$Cases", "weights", "[I", true)
def tyX0 : Nat → FieldType := fun k => match k with
  | 0 => .object "LowNumber$Levy"
  | 1 => .array .int
  | 2 => .int
  | 3 => .int
  | 4 => .array .int
  | 5 => .array .int
  | _ => .array .int
abbrev wsX00 : List Cond := u_ws RX0 TX0 7
theorem nmX0 : ∀ a, a < 7 → ∀ b, b < 7 → a ≠ b → (TX0 a).2.1 ≠ (TX0 b).2.1 := by decide +kernel
theorem tyX0_ok : ∀ k, k < 7 → parseFieldDescriptor (TX0 k).2.2.1 = some (tyX0 k) := by decide +kernel
abbrev cX0_init : ByteArray := prog_2_method_1_code
def yX0_init : MethodName := ⟨RX0, "<init>", "()V"⟩
abbrev cX0_fill : ByteArray := prog_2_method_2_code
def yX0_fill : MethodName := ⟨RX0, "fill", "(LLowNumber$Draft;LLowNumber$Now;I)V"⟩
abbrev cX0_packed : ByteArray := prog_2_method_3_code
def yX0_packed : MethodName := ⟨RX0, "packed", "([I)I"⟩
abbrev cX0_sent : ByteArray := prog_2_method_4_code
def yX0_sent : MethodName := ⟨RX0, "sent", "(II)I"⟩
abbrev cX0_isTaken : ByteArray := prog_2_method_5_code
def yX0_isTaken : MethodName := ⟨RX0, "isTaken", "(II)Z"⟩
abbrev cX0_sender : ByteArray := prog_2_method_6_code
def yX0_sender : MethodName := ⟨RX0, "sender", "(II)I"⟩
abbrev cX0_lost : ByteArray := prog_2_method_7_code
def yX0_lost : MethodName := ⟨RX0, "lost", "(LLowNumber$Draft;II)I"⟩
abbrev cX0_weightTaken : ByteArray := prog_2_method_8_code
def yX0_weightTaken : MethodName := ⟨RX0, "weightTaken", "(I)J"⟩
abbrev cX0_weightGoing : ByteArray := prog_2_method_9_code
def yX0_weightGoing : MethodName := ⟨RX0, "weightGoing", "(I)J"⟩
abbrev cX0_weightSent : ByteArray := prog_2_method_10_code
def yX0_weightSent : MethodName := ⟨RX0, "weightSent", "(II)J"⟩
abbrev cX0_weightLosing : ByteArray := prog_2_method_11_code
def yX0_weightLosing : MethodName := ⟨RX0, "weightLosing", "(LLowNumber$Draft;II)J"⟩
abbrev cX0_weightUnfilled : ByteArray := prog_2_method_12_code
def yX0_weightUnfilled : MethodName := ⟨RX0, "weightUnfilled", "(LLowNumber$Draft;)J"⟩
abbrev cX0_lossOf : ByteArray := prog_2_method_13_code
def yX0_lossOf : MethodName := ⟨RX0, "lossOf", "(LLowNumber$Draft;I)J"⟩
def RX1 : String := "LowNumber$Draft"
def TX1 : u_T := fun k => match k with
  | 0 => ("LowNumber$Draft", "takes", "I", false)
  | 1 => ("LowNumber$Draft", "men", "I", false)
  | 2 => ("LowNumber$Draft", "sorts", "[I", true)
  | 3 => ("LowNumber$Draft", "worth", "[I", true)
  | 4 => ("LowNumber$Draft", "coins", "[I", true)
  | 5 => ("LowNumber$Draft", "asks", "[I", true)
  | 6 => ("LowNumber$Draft", "kin", "[I", true)
  | 7 => ("LowNumber$Draft", "kins", "I", false)
  | 8 => ("LowNumber$Draft", "spared", "I", false)
  | 9 => ("LowNumber$Draft", "hasDoctor", "Z", false)
  | 10 => ("LowNumber$Draft", "hits", "I", false)
  | 11 => ("LowNumber$Draft", "errs", "I", false)
  | 12 => ("LowNumber$Draft", "share", "I", false)
  | 13 => ("LowNumber$Draft", "went", "[I", true)
  | _ => ("LowNumber$Draft", "wents", "I", false)
def tyX1 : Nat → FieldType := fun k => match k with
  | 0 => .int
  | 1 => .int
  | 2 => .array .int
  | 3 => .array .int
  | 4 => .array .int
  | 5 => .array .int
  | 6 => .array .int
  | 7 => .int
  | 8 => .int
  | 9 => .boolean
  | 10 => .int
  | 11 => .int
  | 12 => .int
  | 13 => .array .int
  | _ => .int
abbrev wsX10 : List Cond := u_ws RX1 TX1 15
theorem nmX1 : ∀ a, a < 15 → ∀ b, b < 15 → a ≠ b → (TX1 a).2.1 ≠ (TX1 b).2.1 := by decide +kernel
theorem tyX1_ok : ∀ k, k < 15 → parseFieldDescriptor (TX1 k).2.2.1 = some (tyX1 k) := by decide +kernel
abbrev cX1_init : ByteArray := prog_3_method_1_code
def yX1_init : MethodName := ⟨RX1, "<init>", "()V"⟩
abbrev cX1_clear : ByteArray := prog_3_method_2_code
def yX1_clear : MethodName := ⟨RX1, "clear", "()V"⟩
def RX2 : String := "LowNumber$Kept"
def TX2 : u_T := fun k => match k with
  | 0 => ("LowNumber$Kept", "ring", "[LLowNumber$Now;", true)
  | 1 => ("LowNumber$Kept", "painted", "[LLowNumber$Now;", true)
  | 2 => ("LowNumber$Kept", "next", "I", false)
  | 3 => ("LowNumber$Kept", "acts", "I", false)
  | _ => ("LowNumber$Kept", "images", "I", false)
def tyX2 : Nat → FieldType := fun k => match k with
  | 0 => .array (.object "LowNumber$Now")
  | 1 => .array (.object "LowNumber$Now")
  | 2 => .int
  | 3 => .int
  | _ => .int
abbrev wsX20 : List Cond := u_ws RX2 TX2 5
theorem nmX2 : ∀ a, a < 5 → ∀ b, b < 5 → a ≠ b → (TX2 a).2.1 ≠ (TX2 b).2.1 := by decide +kernel
theorem tyX2_ok : ∀ k, k < 5 → parseFieldDescriptor (TX2 k).2.2.1 = some (tyX2 k) := by decide +kernel
abbrev cX2_init : ByteArray := prog_4_method_1_code
def yX2_init : MethodName := ⟨RX2, "<init>", "()V"⟩
abbrev cX2_clear : ByteArray := prog_4_method_2_code
def yX2_clear : MethodName := ⟨RX2, "clear", "()V"⟩
abbrev cX2_keep : ByteArray := prog_4_method_3_code
def yX2_keep : MethodName := ⟨RX2, "keep", "(LLowNumber$Now;)V"⟩
abbrev cX2_takeBack : ByteArray := prog_4_method_4_code
def yX2_takeBack : MethodName := ⟨RX2, "takeBack", "(LLowNumber$Now;)Z"⟩
abbrev cX2_paint : ByteArray := prog_4_method_5_code
def yX2_paint : MethodName := ⟨RX2, "paint", "(LLowNumber$Now;)I"⟩
abbrev cX2_goBack : ByteArray := prog_4_method_6_code
def yX2_goBack : MethodName := ⟨RX2, "goBack", "(ILLowNumber$Now;)Z"⟩
def RX3 : String := "LowNumber$Laws"
def TX3 : u_T := fun k => match k with
  | 0 => ("LowNumber$Laws", "known", "I", false)
  | 1 => ("LowNumber$Laws", "filled", "I", false)
  | _ => ("LowNumber$Laws", "harms", "[J", true)
def tyX3 : Nat → FieldType := fun k => match k with
  | 0 => .int
  | 1 => .int
  | _ => .array .long
abbrev wsX30 : List Cond := u_ws RX3 TX3 3
theorem nmX3 : ∀ a, a < 3 → ∀ b, b < 3 → a ≠ b → (TX3 a).2.1 ≠ (TX3 b).2.1 := by decide +kernel
theorem tyX3_ok : ∀ k, k < 3 → parseFieldDescriptor (TX3 k).2.2.1 = some (tyX3 k) := by decide +kernel
abbrev cX3_init : ByteArray := prog_5_method_1_code
def yX3_init : MethodName := ⟨RX3, "<init>", "()V"⟩
abbrev cX3_forget : ByteArray := prog_5_method_2_code
def yX3_forget : MethodName := ⟨RX3, "forget", "()V"⟩
abbrev cX3_put : ByteArray := prog_5_method_3_code
def yX3_put : MethodName := ⟨RX3, "put", "(IJZ)V"⟩
def RX4 : String := "LowNumber$Levy"
def TX4 : u_T := fun k => match k with
  | 0 => ("LowNumber$Levy", "takenBits", "I", false)
  | 1 => ("LowNumber$Levy", "sentBits", "I", false)
  | 2 => ("LowNumber$Levy", "called", "I", false)
  | _ => ("LowNumber$Levy", "sends", "[I", true)
def tyX4 : Nat → FieldType := fun k => match k with
  | 0 => .int
  | 1 => .int
  | 2 => .int
  | _ => .array .int
abbrev wsX40 : List Cond := u_ws RX4 TX4 4
theorem nmX4 : ∀ a, a < 4 → ∀ b, b < 4 → a ≠ b → (TX4 a).2.1 ≠ (TX4 b).2.1 := by decide +kernel
theorem tyX4_ok : ∀ k, k < 4 → parseFieldDescriptor (TX4 k).2.2.1 = some (tyX4 k) := by decide +kernel
abbrev cX4_init : ByteArray := prog_6_method_1_code
def yX4_init : MethodName := ⟨RX4, "<init>", "()V"⟩
abbrev cX4_run : ByteArray := prog_6_method_2_code
def yX4_run : MethodName := ⟨RX4, "run", "(LLowNumber$Draft;LLowNumber$Now;I[I)V"⟩
abbrev cX4_callMen : ByteArray := prog_6_method_3_code
def yX4_callMen : MethodName := ⟨RX4, "callMen", "(LLowNumber$Draft;LLowNumber$Now;I[I)V"⟩
abbrev cX4_cheapest : ByteArray := prog_6_method_4_code
def yX4_cheapest : MethodName := ⟨RX4, "cheapest", "(LLowNumber$Draft;LLowNumber$Now;II)I"⟩
abbrev cX4_lost : ByteArray := prog_6_method_5_code
def yX4_lost : MethodName := ⟨RX4, "lost", "(LLowNumber$Draft;I)I"⟩
def RX5 : String := "LowNumber$Now"
def TX5 : u_T := fun k => match k with
  | 0 => ("LowNumber$Now", "sorts", "[I", true)
  | 1 => ("LowNumber$Now", "coins", "[I", true)
  | 2 => ("LowNumber$Now", "row", "[I", true)
  | 3 => ("LowNumber$Now", "sends", "[I", true)
  | 4 => ("LowNumber$Now", "spared", "I", false)
  | 5 => ("LowNumber$Now", "seed", "I", false)
  | 6 => ("LowNumber$Now", "held", "I", false)
  | _ => ("LowNumber$Now", "takenBits", "I", false)
def tyX5 : Nat → FieldType := fun k => match k with
  | 0 => .array .int
  | 1 => .array .int
  | 2 => .array .int
  | 3 => .array .int
  | 4 => .int
  | 5 => .int
  | 6 => .int
  | _ => .int
abbrev wsX50 : List Cond := u_ws RX5 TX5 8
theorem nmX5 : ∀ a, a < 8 → ∀ b, b < 8 → a ≠ b → (TX5 a).2.1 ≠ (TX5 b).2.1 := by decide +kernel
theorem tyX5_ok : ∀ k, k < 8 → parseFieldDescriptor (TX5 k).2.2.1 = some (tyX5 k) := by decide +kernel
abbrev cX5_init : ByteArray := prog_7_method_1_code
def yX5_init : MethodName := ⟨RX5, "<init>", "()V"⟩
abbrev cX5_begin : ByteArray := prog_7_method_2_code
def yX5_begin : MethodName := ⟨RX5, "begin", "(LLowNumber$Draft;)V"⟩
abbrev cX5_take : ByteArray := prog_7_method_3_code
def yX5_take : MethodName := ⟨RX5, "take", "(LLowNumber$Now;)V"⟩
def RX6 : String := "LowNumber$Tape"
def TX6 : u_T := fun k => match k with
  | 0 => ("LowNumber$Tape", "bytes", "[B", true)
  | 1 => ("LowNumber$Tape", "length", "I", false)
  | 2 => ("LowNumber$Tape", "fault", "I", false)
  | 3 => ("LowNumber$Tape", "place", "I", false)
  | 4 => ("LowNumber$Tape", "end", "I", false)
  | 5 => ("LowNumber$Tape", "at", "I", false)
  | 6 => ("LowNumber$Tape", "behind", "I", false)
  | 7 => ("LowNumber$Tape", "kind", "I", false)
  | 8 => ("LowNumber$Tape", "told", "Z", false)
  | 9 => ("LowNumber$Tape", "value", "I", false)
  | 10 => ("LowNumber$Tape", "nameAt", "[I", true)
  | _ => ("LowNumber$Tape", "nameLength", "[I", true)
def tyX6 : Nat → FieldType := fun k => match k with
  | 0 => .array .byte
  | 1 => .int
  | 2 => .int
  | 3 => .int
  | 4 => .int
  | 5 => .int
  | 6 => .int
  | 7 => .int
  | 8 => .boolean
  | 9 => .int
  | 10 => .array .int
  | _ => .array .int
abbrev wsX60 : List Cond := u_ws RX6 TX6 12
theorem nmX6 : ∀ a, a < 12 → ∀ b, b < 12 → a ≠ b → (TX6 a).2.1 ≠ (TX6 b).2.1 := by decide +kernel
theorem tyX6_ok : ∀ k, k < 12 → parseFieldDescriptor (TX6 k).2.2.1 = some (tyX6 k) := by decide +kernel
abbrev cX6_init : ByteArray := prog_8_method_1_code
def yX6_init : MethodName := ⟨RX6, "<init>", "()V"⟩
abbrev cX6_hasRoom : ByteArray := prog_8_method_2_code
def yX6_hasRoom : MethodName := ⟨RX6, "hasRoom", "(I)Z"⟩
abbrev cX6_put : ByteArray := prog_8_method_3_code
def yX6_put : MethodName := ⟨RX6, "put", "(I)V"⟩
abbrev cX6_read : ByteArray := prog_8_method_4_code
def yX6_read : MethodName := ⟨RX6, "read", "(ILLowNumber$Draft;)Z"⟩
abbrev cX6_fail : ByteArray := prog_8_method_5_code
def yX6_fail : MethodName := ⟨RX6, "fail", "(I)Z"⟩
abbrev cX6_step : ByteArray := prog_8_method_6_code
def yX6_step : MethodName := ⟨RX6, "step", "()V"⟩
abbrev cX6_isBetween : ByteArray := prog_8_method_7_code
def yX6_isBetween : MethodName := ⟨RX6, "isBetween", "(III)Z"⟩
abbrev cX6_runEnd : ByteArray := prog_8_method_8_code
def yX6_runEnd : MethodName := ⟨RX6, "runEnd", "(II)I"⟩
abbrev cX6_readLine : ByteArray := prog_8_method_9_code
def yX6_readLine : MethodName := ⟨RX6, "readLine", "(LLowNumber$Draft;)Z"⟩
abbrev cX6_lineKind : ByteArray := prog_8_method_10_code
def yX6_lineKind : MethodName := ⟨RX6, "lineKind", "()I"⟩
abbrev cX6_readTakes : ByteArray := prog_8_method_11_code
def yX6_readTakes : MethodName := ⟨RX6, "readTakes", "(LLowNumber$Draft;)Z"⟩
abbrev cX6_readMan : ByteArray := prog_8_method_12_code
def yX6_readMan : MethodName := ⟨RX6, "readMan", "(LLowNumber$Draft;)Z"⟩
abbrev cX6_readKin : ByteArray := prog_8_method_13_code
def yX6_readKin : MethodName := ⟨RX6, "readKin", "(LLowNumber$Draft;)Z"⟩
abbrev cX6_readSpares : ByteArray := prog_8_method_14_code
def yX6_readSpares : MethodName := ⟨RX6, "readSpares", "(LLowNumber$Draft;)Z"⟩
abbrev cX6_readDoctor : ByteArray := prog_8_method_15_code
def yX6_readDoctor : MethodName := ⟨RX6, "readDoctor", "(LLowNumber$Draft;)Z"⟩
abbrev cX6_readWent : ByteArray := prog_8_method_16_code
def yX6_readWent : MethodName := ⟨RX6, "readWent", "(LLowNumber$Draft;)Z"⟩
abbrev cX6_isWord : ByteArray := prog_8_method_17_code
def yX6_isWord : MethodName := ⟨RX6, "isWord", "(Ljava/lang/String;)Z"⟩
abbrev cX6_passWord : ByteArray := prog_8_method_18_code
def yX6_passWord : MethodName := ⟨RX6, "passWord", "(Ljava/lang/String;)Z"⟩
abbrev cX6_passWhole : ByteArray := prog_8_method_19_code
def yX6_passWhole : MethodName := ⟨RX6, "passWhole", "(I)Z"⟩
abbrev cX6_isToldMan : ByteArray := prog_8_method_20_code
def yX6_isToldMan : MethodName := ⟨RX6, "isToldMan", "(LLowNumber$Draft;)Z"⟩
abbrev cX6_namedMan : ByteArray := prog_8_method_21_code
def yX6_namedMan : MethodName := ⟨RX6, "namedMan", "(LLowNumber$Draft;)I"⟩
abbrev cX6_isNamed : ByteArray := prog_8_method_22_code
def yX6_isNamed : MethodName := ⟨RX6, "isNamed", "(I)Z"⟩
abbrev cX6_namedSort : ByteArray := prog_8_method_23_code
def yX6_namedSort : MethodName := ⟨RX6, "namedSort", "()I"⟩
def RX7 : String := "LowNumber$Witness"
def TX7 : u_T := fun k => match k with
  | 0 => ("LowNumber$Witness", "fitting", "I", false)
  | 1 => ("LowNumber$Witness", "takenInAll", "I", false)
  | _ => ("LowNumber$Witness", "counts", "[[I", true)
def tyX7 : Nat → FieldType := fun k => match k with
  | 0 => .int
  | 1 => .int
  | _ => .array (.array .int)
abbrev wsX70 : List Cond := u_ws RX7 TX7 3
theorem nmX7 : ∀ a, a < 3 → ∀ b, b < 3 → a ≠ b → (TX7 a).2.1 ≠ (TX7 b).2.1 := by decide +kernel
theorem tyX7_ok : ∀ k, k < 3 → parseFieldDescriptor (TX7 k).2.2.1 = some (tyX7 k) := by decide +kernel
abbrev cX7_init : ByteArray := prog_9_method_1_code
def yX7_init : MethodName := ⟨RX7, "<init>", "()V"⟩
abbrev cX7_look : ByteArray := prog_9_method_2_code
def yX7_look : MethodName := ⟨RX7, "look", "(LLowNumber$Draft;LLowNumber$Cases;)V"⟩
abbrev cX7_clear : ByteArray := prog_9_method_3_code
def yX7_clear : MethodName := ⟨RX7, "clear", "()V"⟩
abbrev cX7_fits : ByteArray := prog_9_method_4_code
def yX7_fits : MethodName := ⟨RX7, "fits", "(LLowNumber$Draft;LLowNumber$Cases;I)Z"⟩
abbrev cX7_couldBe : ByteArray := prog_9_method_5_code
def yX7_couldBe : MethodName := ⟨RX7, "couldBe", "(II)I"⟩
abbrev cX7_mustBe : ByteArray := prog_9_method_6_code
def yX7_mustBe : MethodName := ⟨RX7, "mustBe", "(II)I"⟩
abbrev cX7_mostLeft : ByteArray := prog_9_method_7_code
def yX7_mostLeft : MethodName := ⟨RX7, "mostLeft", "(II)I"⟩
abbrev cX7_best : ByteArray := prog_9_method_8_code
def yX7_best : MethodName := ⟨RX7, "best", "(LLowNumber$Draft;)I"⟩
def RX8 : String := "LowNumber"
def TX8 : u_T := fun k => match k with
  | 0 => ("LowNumber", "tape", "LLowNumber$Tape;", true)
  | 1 => ("LowNumber", "trouble", "I", false)
  | 2 => ("LowNumber", "drafted", "Z", false)
  | 3 => ("LowNumber", "draft", "LLowNumber$Draft;", false)
  | 4 => ("LowNumber", "unread", "LLowNumber$Draft;", false)
  | 5 => ("LowNumber", "now", "LLowNumber$Now;", true)
  | 6 => ("LowNumber", "trialNow", "LLowNumber$Now;", true)
  | 7 => ("LowNumber", "kept", "LLowNumber$Kept;", true)
  | 8 => ("LowNumber", "levy", "LLowNumber$Levy;", true)
  | 9 => ("LowNumber", "lots", "[I", true)
  | 10 => ("LowNumber", "cases", "LLowNumber$Cases;", true)
  | 11 => ("LowNumber", "trial", "LLowNumber$Cases;", true)
  | 12 => ("LowNumber", "stale", "Z", false)
  | 13 => ("LowNumber", "laws", "LLowNumber$Laws;", true)
  | _ => ("LowNumber", "witness", "LLowNumber$Witness;", true)
def tyX8 : Nat → FieldType := fun k => match k with
  | 0 => .object "LowNumber$Tape"
  | 1 => .int
  | 2 => .boolean
  | 3 => .object "LowNumber$Draft"
  | 4 => .object "LowNumber$Draft"
  | 5 => .object "LowNumber$Now"
  | 6 => .object "LowNumber$Now"
  | 7 => .object "LowNumber$Kept"
  | 8 => .object "LowNumber$Levy"
  | 9 => .array .int
  | 10 => .object "LowNumber$Cases"
  | 11 => .object "LowNumber$Cases"
  | 12 => .boolean
  | 13 => .object "LowNumber$Laws"
  | _ => .object "LowNumber$Witness"
abbrev wsX80 : List Cond := u_ws RX8 TX8 15
theorem nmX8 : ∀ a, a < 15 → ∀ b, b < 15 → a ≠ b → (TX8 a).2.1 ≠ (TX8 b).2.1 := by decide +kernel
theorem tyX8_ok : ∀ k, k < 15 → parseFieldDescriptor (TX8 k).2.2.1 = some (tyX8 k) := by decide +kernel
abbrev cX8_init : ByteArray := prog_1_method_1_code
def yX8_init : MethodName := ⟨RX8, "<init>", "()V"⟩
abbrev cX8_feed : ByteArray := prog_1_method_2_code
def yX8_feed : MethodName := ⟨RX8, "feed", "(IIIII)I"⟩
abbrev cX8_draft : ByteArray := prog_1_method_3_code
def yX8_draft : MethodName := ⟨RX8, "draft", "(I)I"⟩
abbrev cX8_fault : ByteArray := prog_1_method_4_code
def yX8_fault : MethodName := ⟨RX8, "fault", "()I"⟩
abbrev cX8_where : ByteArray := prog_1_method_5_code
def yX8_where : MethodName := ⟨RX8, "where", "()I"⟩
abbrev cX8_man : ByteArray := prog_1_method_6_code
def yX8_man : MethodName := ⟨RX8, "man", "(II)I"⟩
abbrev cX8_spared : ByteArray := prog_1_method_7_code
def yX8_spared : MethodName := ⟨RX8, "spared", "()I"⟩
abbrev cX8_many : ByteArray := prog_1_method_8_code
def yX8_many : MethodName := ⟨RX8, "many", "(I)I"⟩
abbrev cX8_wouldGo : ByteArray := prog_1_method_9_code
def yX8_wouldGo : MethodName := ⟨RX8, "wouldGo", "(I)I"⟩
abbrev cX8_takenBy : ByteArray := prog_1_method_10_code
def yX8_takenBy : MethodName := ⟨RX8, "takenBy", "(I)I"⟩
abbrev cX8_goesBy : ByteArray := prog_1_method_11_code
def yX8_goesBy : MethodName := ⟨RX8, "goesBy", "(I)I"⟩
abbrev cX8_sendsBy : ByteArray := prog_1_method_12_code
def yX8_sendsBy : MethodName := ⟨RX8, "sendsBy", "(II)I"⟩
abbrev cX8_lossBy : ByteArray := prog_1_method_13_code
def yX8_lossBy : MethodName := ⟨RX8, "lossBy", "(II)I"⟩
abbrev cX8_firstTaken : ByteArray := prog_1_method_14_code
def yX8_firstTaken : MethodName := ⟨RX8, "firstTaken", "(I)I"⟩
abbrev cX8_levyBy : ByteArray := prog_1_method_15_code
def yX8_levyBy : MethodName := ⟨RX8, "levyBy", "(I)I"⟩
abbrev cX8_readRow : ByteArray := prog_1_method_16_code
def yX8_readRow : MethodName := ⟨RX8, "readRow", "(I)Z"⟩
abbrev cX8_taken : ByteArray := prog_1_method_17_code
def yX8_taken : MethodName := ⟨RX8, "taken", "(IZ)J"⟩
abbrev cX8_goes : ByteArray := prog_1_method_18_code
def yX8_goes : MethodName := ⟨RX8, "goes", "(IZ)J"⟩
abbrev cX8_goesFor : ByteArray := prog_1_method_19_code
def yX8_goesFor : MethodName := ⟨RX8, "goesFor", "(IIZ)J"⟩
abbrev cX8_loss : ByteArray := prog_1_method_20_code
def yX8_loss : MethodName := ⟨RX8, "loss", "(IZ)J"⟩
abbrev cX8_club : ByteArray := prog_1_method_21_code
def yX8_club : MethodName := ⟨RX8, "club", "(IZ)J"⟩
abbrev cX8_ruin : ByteArray := prog_1_method_22_code
def yX8_ruin : MethodName := ⟨RX8, "ruin", "(IIZ)J"⟩
abbrev cX8_toJoin : ByteArray := prog_1_method_23_code
def yX8_toJoin : MethodName := ⟨RX8, "toJoin", "(I)I"⟩
abbrev cX8_shortOf : ByteArray := prog_1_method_24_code
def yX8_shortOf : MethodName := ⟨RX8, "shortOf", "(Z)J"⟩
abbrev cX8_ifMarried : ByteArray := prog_1_method_25_code
def yX8_ifMarried : MethodName := ⟨RX8, "ifMarried", "(IZ)J"⟩
abbrev cX8_harm : ByteArray := prog_1_method_26_code
def yX8_harm : MethodName := ⟨RX8, "harm", "(IZ)J"⟩
abbrev cX8_fills : ByteArray := prog_1_method_27_code
def yX8_fills : MethodName := ⟨RX8, "fills", "(I)I"⟩
abbrev cX8_bestLaw : ByteArray := prog_1_method_28_code
def yX8_bestLaw : MethodName := ⟨RX8, "bestLaw", "()I"⟩
abbrev cX8_toSpare : ByteArray := prog_1_method_29_code
def yX8_toSpare : MethodName := ⟨RX8, "toSpare", "()I"⟩
abbrev cX8_learn : ByteArray := prog_1_method_30_code
def yX8_learn : MethodName := ⟨RX8, "learn", "(I)V"⟩
abbrev cX8_rows : ByteArray := prog_1_method_31_code
def yX8_rows : MethodName := ⟨RX8, "rows", "()I"⟩
abbrev cX8_could : ByteArray := prog_1_method_32_code
def yX8_could : MethodName := ⟨RX8, "could", "(I)I"⟩
abbrev cX8_surely : ByteArray := prog_1_method_33_code
def yX8_surely : MethodName := ⟨RX8, "surely", "(I)I"⟩
abbrev cX8_ask : ByteArray := prog_1_method_34_code
def yX8_ask : MethodName := ⟨RX8, "ask", "()I"⟩
abbrev cX8_askLeaves : ByteArray := prog_1_method_35_code
def yX8_askLeaves : MethodName := ⟨RX8, "askLeaves", "()I"⟩
abbrev cX8_surelyTaken : ByteArray := prog_1_method_36_code
def yX8_surelyTaken : MethodName := ⟨RX8, "surelyTaken", "()I"⟩
abbrev cX8_look : ByteArray := prog_1_method_37_code
def yX8_look : MethodName := ⟨RX8, "look", "()LLowNumber$Witness;"⟩
abbrev cX8_believed : ByteArray := prog_1_method_38_code
def yX8_believed : MethodName := ⟨RX8, "believed", "(ZZ)J"⟩
abbrev cX8_wrong : ByteArray := prog_1_method_39_code
def yX8_wrong : MethodName := ⟨RX8, "wrong", "(Z)J"⟩
abbrev cX8_agent : ByteArray := prog_1_method_40_code
def yX8_agent : MethodName := ⟨RX8, "agent", "(IIIZ)I"⟩
abbrev cX8_rests : ByteArray := prog_1_method_41_code
def yX8_rests : MethodName := ⟨RX8, "rests", "(I)I"⟩
abbrev cX8_rest : ByteArray := prog_1_method_42_code
def yX8_rest : MethodName := ⟨RX8, "rest", "(I)I"⟩
abbrev cX8_isRest : ByteArray := prog_1_method_43_code
def yX8_isRest : MethodName := ⟨RX8, "isRest", "(III)Z"⟩
abbrev cX8_isBestReply : ByteArray := prog_1_method_44_code
def yX8_isBestReply : MethodName := ⟨RX8, "isBestReply", "(III)Z"⟩
abbrev cX8_gain : ByteArray := prog_1_method_45_code
def yX8_gain : MethodName := ⟨RX8, "gain", "(III)I"⟩
abbrev cX8_drafts : ByteArray := prog_1_method_46_code
def yX8_drafts : MethodName := ⟨RX8, "drafts", "(III)I"⟩
abbrev cX8_sentIn : ByteArray := prog_1_method_47_code
def yX8_sentIn : MethodName := ⟨RX8, "sentIn", "(III)I"⟩
abbrev cX8_countDraws : ByteArray := prog_1_method_48_code
def yX8_countDraws : MethodName := ⟨RX8, "countDraws", "(IIIZ)I"⟩
abbrev cX8_lossIn : ByteArray := prog_1_method_49_code
def yX8_lossIn : MethodName := ⟨RX8, "lossIn", "(II)I"⟩
abbrev cX8_levyByDraws : ByteArray := prog_1_method_50_code
def yX8_levyByDraws : MethodName := ⟨RX8, "levyByDraws", "(I)I"⟩
abbrev cX8_marry : ByteArray := prog_1_method_51_code
def yX8_marry : MethodName := ⟨RX8, "marry", "(I)Z"⟩
abbrev cX8_spare : ByteArray := prog_1_method_52_code
def yX8_spare : MethodName := ⟨RX8, "spare", "(IZ)Z"⟩
abbrev cX8_hold : ByteArray := prog_1_method_53_code
def yX8_hold : MethodName := ⟨RX8, "hold", "()I"⟩
abbrev cX8_desert : ByteArray := prog_1_method_54_code
def yX8_desert : MethodName := ⟨RX8, "desert", "(I)I"⟩
abbrev cX8_fate : ByteArray := prog_1_method_55_code
def yX8_fate : MethodName := ⟨RX8, "fate", "(I)I"⟩
abbrev cX8_senderOf : ByteArray := prog_1_method_56_code
def yX8_senderOf : MethodName := ⟨RX8, "senderOf", "(I)I"⟩
abbrev cX8_lot : ByteArray := prog_1_method_57_code
def yX8_lot : MethodName := ⟨RX8, "lot", "(I)I"⟩
abbrev cX8_seed : ByteArray := prog_1_method_58_code
def yX8_seed : MethodName := ⟨RX8, "seed", "(I)Z"⟩
abbrev cX8_undo : ByteArray := prog_1_method_59_code
def yX8_undo : MethodName := ⟨RX8, "undo", "()Z"⟩
abbrev cX8_image : ByteArray := prog_1_method_60_code
def yX8_image : MethodName := ⟨RX8, "image", "()I"⟩
abbrev cX8_back : ByteArray := prog_1_method_61_code
def yX8_back : MethodName := ⟨RX8, "back", "(I)Z"⟩
abbrev cX8_led : ByteArray := prog_1_method_62_code
def yX8_led : MethodName := ⟨RX8, "led", "(I)I"⟩
abbrev cX8_size : ByteArray := prog_1_method_63_code
def yX8_size : MethodName := ⟨RX8, "size", "(I)I"⟩
abbrev cX8_sizeOfDraft : ByteArray := prog_1_method_64_code
def yX8_sizeOfDraft : MethodName := ⟨RX8, "sizeOfDraft", "(I)I"⟩
abbrev cX8_trouble : ByteArray := prog_1_method_65_code
def yX8_trouble : MethodName := ⟨RX8, "trouble", "()I"⟩
abbrev cX8_refuse : ByteArray := prog_1_method_66_code
def yX8_refuse : MethodName := ⟨RX8, "refuse", "(I)I"⟩
abbrev cX8_answer : ByteArray := prog_1_method_67_code
def yX8_answer : MethodName := ⟨RX8, "answer", "(I)I"⟩
abbrev cX8_deny : ByteArray := prog_1_method_68_code
def yX8_deny : MethodName := ⟨RX8, "deny", "(I)Z"⟩
abbrev cX8_grant : ByteArray := prog_1_method_69_code
def yX8_grant : MethodName := ⟨RX8, "grant", "()Z"⟩
abbrev cX8_isMan : ByteArray := prog_1_method_70_code
def yX8_isMan : MethodName := ⟨RX8, "isMan", "(I)Z"⟩
abbrev cX8_isClub : ByteArray := prog_1_method_71_code
def yX8_isClub : MethodName := ⟨RX8, "isClub", "(I)Z"⟩
abbrev cX8_isTold : ByteArray := prog_1_method_72_code
def yX8_isTold : MethodName := ⟨RX8, "isTold", "(I)Z"⟩
abbrev cX8_allMen : ByteArray := prog_1_method_73_code
def yX8_allMen : MethodName := ⟨RX8, "allMen", "()I"⟩
abbrev cX8_isSort : ByteArray := prog_1_method_74_code
def yX8_isSort : MethodName := ⟨RX8, "isSort", "(I)Z"⟩
abbrev cX8_isLaw : ByteArray := prog_1_method_75_code
def yX8_isLaw : MethodName := ⟨RX8, "isLaw", "(I)Z"⟩
abbrev cX8_isBuyers : ByteArray := prog_1_method_76_code
def yX8_isBuyers : MethodName := ⟨RX8, "isBuyers", "(I)Z"⟩
abbrev cX8_isSeed : ByteArray := prog_1_method_77_code
def yX8_isSeed : MethodName := ⟨RX8, "isSeed", "(I)Z"⟩
abbrev cX8_isDrafts : ByteArray := prog_1_method_78_code
def yX8_isDrafts : MethodName := ⟨RX8, "isDrafts", "(I)Z"⟩
abbrev cX8_changed : ByteArray := prog_1_method_79_code
def yX8_changed : MethodName := ⟨RX8, "changed", "()V"⟩
abbrev cX8_table : ByteArray := prog_1_method_80_code
def yX8_table : MethodName := ⟨RX8, "table", "()LLowNumber$Cases;"⟩
abbrev cX8_odds : ByteArray := prog_1_method_81_code
def yX8_odds : MethodName := ⟨RX8, "odds", "(JZ)J"⟩
abbrev cX8_part : ByteArray := prog_1_method_82_code
def yX8_part : MethodName := ⟨RX8, "part", "(JJZ)J"⟩
abbrev cX8_commonDivisor : ByteArray := prog_1_method_83_code
def yX8_commonDivisor : MethodName := ⟨RX8, "commonDivisor", "(JJ)J"⟩
abbrev cX8_goers : ByteArray := prog_1_method_84_code
def yX8_goers : MethodName := ⟨RX8, "goers", "(I[I)I"⟩
abbrev cX8_byNumbers : ByteArray := prog_1_method_85_code
def yX8_byNumbers : MethodName := ⟨RX8, "byNumbers", "([II)V"⟩
abbrev cX8_numberOf : ByteArray := prog_1_method_86_code
def yX8_numberOf : MethodName := ⟨RX8, "numberOf", "([II)I"⟩
abbrev cX8_swap : ByteArray := prog_1_method_87_code
def yX8_swap : MethodName := ⟨RX8, "swap", "([III)V"⟩
abbrev cX8_turn : ByteArray := prog_1_method_88_code
def yX8_turn : MethodName := ⟨RX8, "turn", "([III)V"⟩
abbrev cX8_nextRow : ByteArray := prog_1_method_89_code
def yX8_nextRow : MethodName := ⟨RX8, "nextRow", "([III)Z"⟩
def RX9 : String := "LowNumberModel$Draft"
def TX9 : u_T := fun k => match k with
  | 0 => ("LowNumberModel$Draft", "takes", "I", false)
  | 1 => ("LowNumberModel$Draft", "men", "I", false)
  | 2 => ("LowNumberModel$Draft", "kins", "I", false)
  | 3 => ("LowNumberModel$Draft", "went", "I", false)
  | 4 => ("LowNumberModel$Draft", "spares", "I", false)
  | 5 => ("LowNumberModel$Draft", "hits", "I", false)
  | 6 => ("LowNumberModel$Draft", "errs", "I", false)
  | 7 => ("LowNumberModel$Draft", "share", "I", false)
  | 8 => ("LowNumberModel$Draft", "sort", "[I", true)
  | 9 => ("LowNumberModel$Draft", "worth", "[I", true)
  | 10 => ("LowNumberModel$Draft", "coins", "[I", true)
  | 11 => ("LowNumberModel$Draft", "asks", "[I", true)
  | 12 => ("LowNumberModel$Draft", "kin", "[I", true)
  | 13 => ("LowNumberModel$Draft", "name", "[J", true)
  | _ => ("LowNumberModel$Draft", "gone", "[I", true)
def tyX9 : Nat → FieldType := fun k => match k with
  | 0 => .int
  | 1 => .int
  | 2 => .int
  | 3 => .int
  | 4 => .int
  | 5 => .int
  | 6 => .int
  | 7 => .int
  | 8 => .array .int
  | 9 => .array .int
  | 10 => .array .int
  | 11 => .array .int
  | 12 => .array .int
  | 13 => .array .long
  | _ => .array .int
abbrev wsX90 : List Cond := u_ws RX9 TX9 15
theorem nmX9 : ∀ a, a < 15 → ∀ b, b < 15 → a ≠ b → (TX9 a).2.1 ≠ (TX9 b).2.1 := by decide +kernel
theorem tyX9_ok : ∀ k, k < 15 → parseFieldDescriptor (TX9 k).2.2.1 = some (tyX9 k) := by decide +kernel
abbrev cX9_init : ByteArray := prog_12_method_1_code
def yX9_init : MethodName := ⟨RX9, "<init>", "()V"⟩
abbrev cX9_find : ByteArray := prog_12_method_2_code
def yX9_find : MethodName := ⟨RX9, "find", "(J)I"⟩
abbrev cX9_hasGone : ByteArray := prog_12_method_3_code
def yX9_hasGone : MethodName := ⟨RX9, "hasGone", "(I)Z"⟩
def RX10 : String := "LowNumberModel"
def TX10 : u_T := fun k => match k with
  | 0 => ("LowNumberModel", "thrown", "I", false)
  | 1 => ("LowNumberModel", "trouble", "I", false)
  | 2 => ("LowNumberModel", "where", "I", false)
  | 3 => ("LowNumberModel", "draft", "LLowNumberModel$Draft;", false)
  | 4 => ("LowNumberModel", "read", "LLowNumberModel$Draft;", false)
  | 5 => ("LowNumberModel", "tape", "[B", true)
  | 6 => ("LowNumberModel", "taped", "I", false)
  | 7 => ("LowNumberModel", "size", "I", false)
  | 8 => ("LowNumberModel", "spot", "I", false)
  | 9 => ("LowNumberModel", "sort", "I", false)
  | 10 => ("LowNumberModel", "place", "I", false)
  | 11 => ("LowNumberModel", "number", "I", false)
  | 12 => ("LowNumberModel", "fault", "I", false)
  | 13 => ("LowNumberModel", "wrongAt", "I", false)
  | 14 => ("LowNumberModel", "word", "J", false)
  | 15 => ("LowNumberModel", "v", "[I", true)
  | 16 => ("LowNumberModel", "past", "[I", true)
  | 17 => ("LowNumberModel", "kept", "[I", true)
  | 18 => ("LowNumberModel", "acts", "I", false)
  | 19 => ("LowNumberModel", "images", "I", false)
  | 20 => ("LowNumberModel", "row", "[I", true)
  | 21 => ("LowNumberModel", "sorts", "[I", true)
  | 22 => ("LowNumberModel", "sends", "[I", true)
  | 23 => ("LowNumberModel", "sentFor", "[I", true)
  | 24 => ("LowNumberModel", "lawNow", "I", false)
  | 25 => ("LowNumberModel", "takenNow", "I", false)
  | 26 => ("LowNumberModel", "sentNow", "I", false)
  | 27 => ("LowNumberModel", "takes", "[J", true)
  | 28 => ("LowNumberModel", "goes", "[J", true)
  | 29 => ("LowNumberModel", "loses", "[J", true)
  | 30 => ("LowNumberModel", "goesFor", "[J", true)
  | 31 => ("LowNumberModel", "shorts", "J", false)
  | 32 => ("LowNumberModel", "ruins", "J", false)
  | 33 => ("LowNumberModel", "counts", "[I", true)
  | 34 => ("LowNumberModel", "rowsNow", "I", false)
  | 35 => ("LowNumberModel", "alwaysTaken", "I", false)
  | 36 => ("LowNumberModel", "askLeft", "I", false)
  | _ => ("LowNumberModel", "seedThen", "I", false)
def tyX10 : Nat → FieldType := fun k => match k with
  | 0 => .int
  | 1 => .int
  | 2 => .int
  | 3 => .object "LowNumberModel$Draft"
  | 4 => .object "LowNumberModel$Draft"
  | 5 => .array .byte
  | 6 => .int
  | 7 => .int
  | 8 => .int
  | 9 => .int
  | 10 => .int
  | 11 => .int
  | 12 => .int
  | 13 => .int
  | 14 => .long
  | 15 => .array .int
  | 16 => .array .int
  | 17 => .array .int
  | 18 => .int
  | 19 => .int
  | 20 => .array .int
  | 21 => .array .int
  | 22 => .array .int
  | 23 => .array .int
  | 24 => .int
  | 25 => .int
  | 26 => .int
  | 27 => .array .long
  | 28 => .array .long
  | 29 => .array .long
  | 30 => .array .long
  | 31 => .long
  | 32 => .long
  | 33 => .array .int
  | 34 => .int
  | 35 => .int
  | 36 => .int
  | _ => .int
abbrev wsX100 : List Cond := u_ws RX10 TX10 38
theorem nmX10 : ∀ a, a < 38 → ∀ b, b < 38 → a ≠ b → (TX10 a).2.1 ≠ (TX10 b).2.1 := by decide +kernel
theorem tyX10_ok : ∀ k, k < 38 → parseFieldDescriptor (TX10 k).2.2.1 = some (tyX10 k) := by decide +kernel
abbrev cX10_init : ByteArray := prog_11_method_1_code
def yX10_init : MethodName := ⟨RX10, "<init>", "()V"⟩
abbrev cX10_thrown : ByteArray := prog_11_method_2_code
def yX10_thrown : MethodName := ⟨RX10, "thrown", "()I"⟩
abbrev cX10_refused : ByteArray := prog_11_method_3_code
def yX10_refused : MethodName := ⟨RX10, "refused", "(I)I"⟩
abbrev cX10_lost : ByteArray := prog_11_method_4_code
def yX10_lost : MethodName := ⟨RX10, "lost", "(I)I"⟩
abbrev cX10_denied : ByteArray := prog_11_method_5_code
def yX10_denied : MethodName := ⟨RX10, "denied", "(I)Z"⟩
abbrev cX10_good : ByteArray := prog_11_method_6_code
def yX10_good : MethodName := ⟨RX10, "good", "(I)I"⟩
abbrev cX10_granted : ByteArray := prog_11_method_7_code
def yX10_granted : MethodName := ⟨RX10, "granted", "()Z"⟩
abbrev cX10_in : ByteArray := prog_11_method_8_code
def yX10_in : MethodName := ⟨RX10, "in", "(III)Z"⟩
abbrev cX10_bit : ByteArray := prog_11_method_9_code
def yX10_bit : MethodName := ⟨RX10, "bit", "(II)Z"⟩
abbrev cX10_bits : ByteArray := prog_11_method_10_code
def yX10_bits : MethodName := ⟨RX10, "bits", "(I)I"⟩
abbrev cX10_common : ByteArray := prog_11_method_11_code
def yX10_common : MethodName := ⟨RX10, "common", "(JJ)J"⟩
abbrev cX10_fraction : ByteArray := prog_11_method_12_code
def yX10_fraction : MethodName := ⟨RX10, "fraction", "(JJZ)J"⟩
abbrev cX10_byteAt : ByteArray := prog_11_method_13_code
def yX10_byteAt : MethodName := ⟨RX10, "byteAt", "(I)I"⟩
abbrev cX10_isLetter : ByteArray := prog_11_method_14_code
def yX10_isLetter : MethodName := ⟨RX10, "isLetter", "(I)Z"⟩
abbrev cX10_isDigit : ByteArray := prog_11_method_15_code
def yX10_isDigit : MethodName := ⟨RX10, "isDigit", "(I)Z"⟩
abbrev cX10_packed : ByteArray := prog_11_method_16_code
def yX10_packed : MethodName := ⟨RX10, "packed", "(Ljava/lang/String;)J"⟩
abbrev cX10_goesOn : ByteArray := prog_11_method_17_code
def yX10_goesOn : MethodName := ⟨RX10, "goesOn", "()V"⟩
abbrev cX10_flaw : ByteArray := prog_11_method_18_code
def yX10_flaw : MethodName := ⟨RX10, "flaw", "(I)V"⟩
abbrev cX10_isWord : ByteArray := prog_11_method_19_code
def yX10_isWord : MethodName := ⟨RX10, "isWord", "(Ljava/lang/String;)Z"⟩
abbrev cX10_eatsSemicolon : ByteArray := prog_11_method_20_code
def yX10_eatsSemicolon : MethodName := ⟨RX10, "eatsSemicolon", "()Z"⟩
abbrev cX10_needs : ByteArray := prog_11_method_21_code
def yX10_needs : MethodName := ⟨RX10, "needs", "(Ljava/lang/String;)V"⟩
abbrev cX10_readWhole : ByteArray := prog_11_method_22_code
def yX10_readWhole : MethodName := ⟨RX10, "readWhole", "(II)I"⟩
abbrev cX10_readPart : ByteArray := prog_11_method_23_code
def yX10_readPart : MethodName := ⟨RX10, "readPart", "(Ljava/lang/String;II)I"⟩
abbrev cX10_isName : ByteArray := prog_11_method_24_code
def yX10_isName : MethodName := ⟨RX10, "isName", "()Z"⟩
abbrev cX10_lineBegins : ByteArray := prog_11_method_25_code
def yX10_lineBegins : MethodName := ⟨RX10, "lineBegins", "(II)V"⟩
abbrev cX10_knownMan : ByteArray := prog_11_method_26_code
def yX10_knownMan : MethodName := ⟨RX10, "knownMan", "()I"⟩
abbrev cX10_sortAtHand : ByteArray := prog_11_method_27_code
def yX10_sortAtHand : MethodName := ⟨RX10, "sortAtHand", "()I"⟩
abbrev cX10_readAll : ByteArray := prog_11_method_28_code
def yX10_readAll : MethodName := ⟨RX10, "readAll", "()V"⟩
abbrev cX10_readLine : ByteArray := prog_11_method_29_code
def yX10_readLine : MethodName := ⟨RX10, "readLine", "()V"⟩
abbrev cX10_readDraft : ByteArray := prog_11_method_30_code
def yX10_readDraft : MethodName := ⟨RX10, "readDraft", "()V"⟩
abbrev cX10_readMan : ByteArray := prog_11_method_31_code
def yX10_readMan : MethodName := ⟨RX10, "readMan", "()V"⟩
abbrev cX10_readKin : ByteArray := prog_11_method_32_code
def yX10_readKin : MethodName := ⟨RX10, "readKin", "()V"⟩
abbrev cX10_readSpares : ByteArray := prog_11_method_33_code
def yX10_readSpares : MethodName := ⟨RX10, "readSpares", "()V"⟩
abbrev cX10_readDoctor : ByteArray := prog_11_method_34_code
def yX10_readDoctor : MethodName := ⟨RX10, "readDoctor", "()V"⟩
abbrev cX10_readWent : ByteArray := prog_11_method_35_code
def yX10_readWent : MethodName := ⟨RX10, "readWent", "()V"⟩
abbrev cX10_feed : ByteArray := prog_11_method_36_code
def yX10_feed : MethodName := ⟨RX10, "feed", "(IIIII)I"⟩
abbrev cX10_draft : ByteArray := prog_11_method_37_code
def yX10_draft : MethodName := ⟨RX10, "draft", "(I)I"⟩
abbrev cX10_fault : ByteArray := prog_11_method_38_code
def yX10_fault : MethodName := ⟨RX10, "fault", "()I"⟩
abbrev cX10_where : ByteArray := prog_11_method_39_code
def yX10_where : MethodName := ⟨RX10, "where", "()I"⟩
abbrev cX10_isMan : ByteArray := prog_11_method_40_code
def yX10_isMan : MethodName := ⟨RX10, "isMan", "(I)Z"⟩
abbrev cX10_everybody : ByteArray := prog_11_method_41_code
def yX10_everybody : MethodName := ⟨RX10, "everybody", "()I"⟩
abbrev cX10_asNow : ByteArray := prog_11_method_42_code
def yX10_asNow : MethodName := ⟨RX10, "asNow", "()V"⟩
abbrev cX10_cheapest : ByteArray := prog_11_method_43_code
def yX10_cheapest : MethodName := ⟨RX10, "cheapest", "(II)I"⟩
abbrev cX10_plays : ByteArray := prog_11_method_44_code
def yX10_plays : MethodName := ⟨RX10, "plays", "()V"⟩
abbrev cX10_lossOf : ByteArray := prog_11_method_45_code
def yX10_lossOf : MethodName := ⟨RX10, "lossOf", "(I)I"⟩
abbrev cX10_going : ByteArray := prog_11_method_46_code
def yX10_going : MethodName := ⟨RX10, "going", "()I"⟩
abbrev cX10_lossOfAll : ByteArray := prog_11_method_47_code
def yX10_lossOfAll : MethodName := ⟨RX10, "lossOfAll", "(I)I"⟩
abbrev cX10_firstRow : ByteArray := prog_11_method_48_code
def yX10_firstRow : MethodName := ⟨RX10, "firstRow", "()V"⟩
abbrev cX10_nextRow : ByteArray := prog_11_method_49_code
def yX10_nextRow : MethodName := ⟨RX10, "nextRow", "()Z"⟩
abbrev cX10_swaps : ByteArray := prog_11_method_50_code
def yX10_swaps : MethodName := ⟨RX10, "swaps", "(II)V"⟩
abbrev cX10_allRows : ByteArray := prog_11_method_51_code
def yX10_allRows : MethodName := ⟨RX10, "allRows", "()I"⟩
abbrev cX10_codeOfRow : ByteArray := prog_11_method_52_code
def yX10_codeOfRow : MethodName := ⟨RX10, "codeOfRow", "()I"⟩
abbrev cX10_lays : ByteArray := prog_11_method_53_code
def yX10_lays : MethodName := ⟨RX10, "lays", "(I)Z"⟩
abbrev cX10_odds : ByteArray := prog_11_method_54_code
def yX10_odds : MethodName := ⟨RX10, "odds", "(II)V"⟩
abbrev cX10_lossesOf : ByteArray := prog_11_method_55_code
def yX10_lossesOf : MethodName := ⟨RX10, "lossesOf", "(I)J"⟩
abbrev cX10_man : ByteArray := prog_11_method_56_code
def yX10_man : MethodName := ⟨RX10, "man", "(II)I"⟩
abbrev cX10_spared : ByteArray := prog_11_method_57_code
def yX10_spared : MethodName := ⟨RX10, "spared", "()I"⟩
abbrev cX10_many : ByteArray := prog_11_method_58_code
def yX10_many : MethodName := ⟨RX10, "many", "(I)I"⟩
abbrev cX10_wouldGo : ByteArray := prog_11_method_59_code
def yX10_wouldGo : MethodName := ⟨RX10, "wouldGo", "(I)I"⟩
abbrev cX10_refusesRow : ByteArray := prog_11_method_60_code
def yX10_refusesRow : MethodName := ⟨RX10, "refusesRow", "(ZI)I"⟩
abbrev cX10_playsNow : ByteArray := prog_11_method_61_code
def yX10_playsNow : MethodName := ⟨RX10, "playsNow", "()V"⟩
abbrev cX10_takenBy : ByteArray := prog_11_method_62_code
def yX10_takenBy : MethodName := ⟨RX10, "takenBy", "(I)I"⟩
abbrev cX10_goesBy : ByteArray := prog_11_method_63_code
def yX10_goesBy : MethodName := ⟨RX10, "goesBy", "(I)I"⟩
abbrev cX10_sendsBy : ByteArray := prog_11_method_64_code
def yX10_sendsBy : MethodName := ⟨RX10, "sendsBy", "(II)I"⟩
abbrev cX10_lossBy : ByteArray := prog_11_method_65_code
def yX10_lossBy : MethodName := ⟨RX10, "lossBy", "(II)I"⟩
abbrev cX10_firstTaken : ByteArray := prog_11_method_66_code
def yX10_firstTaken : MethodName := ⟨RX10, "firstTaken", "(I)I"⟩
abbrev cX10_oddsNow : ByteArray := prog_11_method_67_code
def yX10_oddsNow : MethodName := ⟨RX10, "oddsNow", "()V"⟩
abbrev cX10_taken : ByteArray := prog_11_method_68_code
def yX10_taken : MethodName := ⟨RX10, "taken", "(IZ)J"⟩
abbrev cX10_goes : ByteArray := prog_11_method_69_code
def yX10_goes : MethodName := ⟨RX10, "goes", "(IZ)J"⟩
abbrev cX10_goesFor : ByteArray := prog_11_method_70_code
def yX10_goesFor : MethodName := ⟨RX10, "goesFor", "(IIZ)J"⟩
abbrev cX10_loss : ByteArray := prog_11_method_71_code
def yX10_loss : MethodName := ⟨RX10, "loss", "(IZ)J"⟩
abbrev cX10_isClub : ByteArray := prog_11_method_72_code
def yX10_isClub : MethodName := ⟨RX10, "isClub", "(II)Z"⟩
abbrev cX10_club : ByteArray := prog_11_method_73_code
def yX10_club : MethodName := ⟨RX10, "club", "(IZ)J"⟩
abbrev cX10_ruin : ByteArray := prog_11_method_74_code
def yX10_ruin : MethodName := ⟨RX10, "ruin", "(IIZ)J"⟩
abbrev cX10_toJoin : ByteArray := prog_11_method_75_code
def yX10_toJoin : MethodName := ⟨RX10, "toJoin", "(I)I"⟩
abbrev cX10_shortOf : ByteArray := prog_11_method_76_code
def yX10_shortOf : MethodName := ⟨RX10, "shortOf", "(Z)J"⟩
abbrev cX10_ifMarried : ByteArray := prog_11_method_77_code
def yX10_ifMarried : MethodName := ⟨RX10, "ifMarried", "(IZ)J"⟩
abbrev cX10_byLaw : ByteArray := prog_11_method_78_code
def yX10_byLaw : MethodName := ⟨RX10, "byLaw", "(I)V"⟩
abbrev cX10_refusesLaw : ByteArray := prog_11_method_79_code
def yX10_refusesLaw : MethodName := ⟨RX10, "refusesLaw", "(I)I"⟩
abbrev cX10_harm : ByteArray := prog_11_method_80_code
def yX10_harm : MethodName := ⟨RX10, "harm", "(IZ)J"⟩
abbrev cX10_fills : ByteArray := prog_11_method_81_code
def yX10_fills : MethodName := ⟨RX10, "fills", "(I)I"⟩
abbrev cX10_bestLaw : ByteArray := prog_11_method_82_code
def yX10_bestLaw : MethodName := ⟨RX10, "bestLaw", "()I"⟩
abbrev cX10_toSpare : ByteArray := prog_11_method_83_code
def yX10_toSpare : MethodName := ⟨RX10, "toSpare", "()I"⟩
abbrev cX10_fitting : ByteArray := prog_11_method_84_code
def yX10_fitting : MethodName := ⟨RX10, "fitting", "()V"⟩
abbrev cX10_rows : ByteArray := prog_11_method_85_code
def yX10_rows : MethodName := ⟨RX10, "rows", "()I"⟩
abbrev cX10_isTold : ByteArray := prog_11_method_86_code
def yX10_isTold : MethodName := ⟨RX10, "isTold", "(I)Z"⟩
abbrev cX10_couldBe : ByteArray := prog_11_method_87_code
def yX10_couldBe : MethodName := ⟨RX10, "couldBe", "(I)I"⟩
abbrev cX10_could : ByteArray := prog_11_method_88_code
def yX10_could : MethodName := ⟨RX10, "could", "(I)I"⟩
abbrev cX10_surely : ByteArray := prog_11_method_89_code
def yX10_surely : MethodName := ⟨RX10, "surely", "(I)I"⟩
abbrev cX10_toAsk : ByteArray := prog_11_method_90_code
def yX10_toAsk : MethodName := ⟨RX10, "toAsk", "()I"⟩
abbrev cX10_ask : ByteArray := prog_11_method_91_code
def yX10_ask : MethodName := ⟨RX10, "ask", "()I"⟩
abbrev cX10_askLeaves : ByteArray := prog_11_method_92_code
def yX10_askLeaves : MethodName := ⟨RX10, "askLeaves", "()I"⟩
abbrev cX10_surelyTaken : ByteArray := prog_11_method_93_code
def yX10_surelyTaken : MethodName := ⟨RX10, "surelyTaken", "()I"⟩
abbrev cX10_refusesDoctor : ByteArray := prog_11_method_94_code
def yX10_refusesDoctor : MethodName := ⟨RX10, "refusesDoctor", "()I"⟩
abbrev cX10_believed : ByteArray := prog_11_method_95_code
def yX10_believed : MethodName := ⟨RX10, "believed", "(ZZ)J"⟩
abbrev cX10_wrong : ByteArray := prog_11_method_96_code
def yX10_wrong : MethodName := ⟨RX10, "wrong", "(Z)J"⟩
abbrev cX10_least : ByteArray := prog_11_method_97_code
def yX10_least : MethodName := ⟨RX10, "least", "(II)I"⟩
abbrev cX10_gets : ByteArray := prog_11_method_98_code
def yX10_gets : MethodName := ⟨RX10, "gets", "(III)I"⟩
abbrev cX10_refusesMany : ByteArray := prog_11_method_99_code
def yX10_refusesMany : MethodName := ⟨RX10, "refusesMany", "(I)I"⟩
abbrev cX10_agent : ByteArray := prog_11_method_100_code
def yX10_agent : MethodName := ⟨RX10, "agent", "(IIIZ)I"⟩
abbrev cX10_isRest : ByteArray := prog_11_method_101_code
def yX10_isRest : MethodName := ⟨RX10, "isRest", "(III)Z"⟩
abbrev cX10_rests : ByteArray := prog_11_method_102_code
def yX10_rests : MethodName := ⟨RX10, "rests", "(I)I"⟩
abbrev cX10_rest : ByteArray := prog_11_method_103_code
def yX10_rest : MethodName := ⟨RX10, "rest", "(I)I"⟩
abbrev cX10_drawsRow : ByteArray := prog_11_method_104_code
def yX10_drawsRow : MethodName := ⟨RX10, "drawsRow", "()V"⟩
abbrev cX10_refusesDrafts : ByteArray := prog_11_method_105_code
def yX10_refusesDrafts : MethodName := ⟨RX10, "refusesDrafts", "(ZII)I"⟩
abbrev cX10_drafts : ByteArray := prog_11_method_106_code
def yX10_drafts : MethodName := ⟨RX10, "drafts", "(III)I"⟩
abbrev cX10_sentIn : ByteArray := prog_11_method_107_code
def yX10_sentIn : MethodName := ⟨RX10, "sentIn", "(III)I"⟩
abbrev cX10_lossIn : ByteArray := prog_11_method_108_code
def yX10_lossIn : MethodName := ⟨RX10, "lossIn", "(II)I"⟩
abbrev cX10_remembers : ByteArray := prog_11_method_109_code
def yX10_remembers : MethodName := ⟨RX10, "remembers", "()V"⟩
abbrev cX10_marry : ByteArray := prog_11_method_110_code
def yX10_marry : MethodName := ⟨RX10, "marry", "(I)Z"⟩
abbrev cX10_spare : ByteArray := prog_11_method_111_code
def yX10_spare : MethodName := ⟨RX10, "spare", "(IZ)Z"⟩
abbrev cX10_hold : ByteArray := prog_11_method_112_code
def yX10_hold : MethodName := ⟨RX10, "hold", "()I"⟩
abbrev cX10_desert : ByteArray := prog_11_method_113_code
def yX10_desert : MethodName := ⟨RX10, "desert", "(I)I"⟩
abbrev cX10_fateOf : ByteArray := prog_11_method_114_code
def yX10_fateOf : MethodName := ⟨RX10, "fateOf", "(I)I"⟩
abbrev cX10_fate : ByteArray := prog_11_method_115_code
def yX10_fate : MethodName := ⟨RX10, "fate", "(I)I"⟩
abbrev cX10_lot : ByteArray := prog_11_method_116_code
def yX10_lot : MethodName := ⟨RX10, "lot", "(I)I"⟩
abbrev cX10_seed : ByteArray := prog_11_method_117_code
def yX10_seed : MethodName := ⟨RX10, "seed", "(I)Z"⟩
abbrev cX10_undo : ByteArray := prog_11_method_118_code
def yX10_undo : MethodName := ⟨RX10, "undo", "()Z"⟩
abbrev cX10_image : ByteArray := prog_11_method_119_code
def yX10_image : MethodName := ⟨RX10, "image", "()I"⟩
abbrev cX10_back : ByteArray := prog_11_method_120_code
def yX10_back : MethodName := ⟨RX10, "back", "(I)Z"⟩
abbrev cX10_led : ByteArray := prog_11_method_121_code
def yX10_led : MethodName := ⟨RX10, "led", "(I)I"⟩
abbrev cX10_size : ByteArray := prog_11_method_122_code
def yX10_size : MethodName := ⟨RX10, "size", "(I)I"⟩
abbrev cX10_trouble : ByteArray := prog_11_method_123_code
def yX10_trouble : MethodName := ⟨RX10, "trouble", "()I"⟩
def RJ6 : String := "java/lang/Integer"
abbrev cJ6_bitCount_0f7a4 : ByteArray := prog_17_method_49_code
def yJ6_bitCount_0f7a4 : MethodName := ⟨RJ6, "bitCount", "(I)I"⟩
def RJ9 : String := "java/lang/Math"
abbrev cJ9_max_7cf53 : ByteArray := prog_18_method_65_code
def yJ9_max_7cf53 : MethodName := ⟨RJ9, "max", "(II)I"⟩
abbrev cJ9_min_7cf53 : ByteArray := prog_18_method_69_code
def yJ9_min_7cf53 : MethodName := ⟨RJ9, "min", "(II)I"⟩
def RJ0 : String := "java/lang/String"
abbrev cJ0_length_8abf5 : ByteArray := prog_20_method_54_code
def yJ0_length_8abf5 : MethodName := ⟨RJ0, "length", "()I"⟩
abbrev cJ0_charAt_5068e : ByteArray := prog_20_method_56_code
def yJ0_charAt_5068e : MethodName := ⟨RJ0, "charAt", "(I)C"⟩
abbrev cJ0_coder_7d493 : ByteArray := prog_20_method_152_code
def yJ0_coder_7d493 : MethodName := ⟨RJ0, "coder", "()B"⟩
abbrev cJ0_isLatin1_aae02 : ByteArray := prog_20_method_154_code
def yJ0_isLatin1_aae02 : MethodName := ⟨RJ0, "isLatin1", "()Z"⟩
abbrev cJ0_checkIndex_df160 : ByteArray := prog_20_method_155_code
def yJ0_checkIndex_df160 : MethodName := ⟨RJ0, "checkIndex", "(II)V"⟩
def RJ1 : String := "java/lang/StringLatin1"
abbrev cJ1_charAt_3b067 : ByteArray := prog_21_method_2_code
def yJ1_charAt_3b067 : MethodName := ⟨RJ1, "charAt", "([BI)C"⟩
def RJ2 : String := "java/lang/StringUTF16"
abbrev cJ2_getChar_3b067 : ByteArray := prog_22_method_5_code
def yJ2_getChar_3b067 : MethodName := ⟨RJ2, "getChar", "([BI)C"⟩
abbrev cJ2_length_9d52b : ByteArray := prog_22_method_6_code
def yJ2_length_9d52b : MethodName := ⟨RJ2, "length", "([B)I"⟩
abbrev cJ2_charAt_3b067 : ByteArray := prog_22_method_83_code
def yJ2_charAt_3b067 : MethodName := ⟨RJ2, "charAt", "([BI)C"⟩
abbrev cJ2_checkIndex_2214a : ByteArray := prog_22_method_91_code
def yJ2_checkIndex_2214a : MethodName := ⟨RJ2, "checkIndex", "(I[B)V"⟩
def RJ3 : String := "jdk/internal/util/Preconditions"
abbrev cJ3_checkIndex_8e157 : ByteArray := prog_27_method_11_code
def yJ3_checkIndex_8e157 : MethodName := ⟨RJ3, "checkIndex", "(IILjava/util/function/BiFunction;)I"⟩
def RL : String := "LowNumberLaw"
abbrev cL_led : ByteArray := method_3_code
def yL_led : MethodName := ⟨RL, "led", "(LLowNumber;I[J)I"⟩
abbrev cL_law : ByteArray := code
def yL_law : MethodName := ⟨RL, "law", "([I)Z"⟩
abbrev vwCl : List vw_C := [(RX0, TX0, 7), (RX1, TX1, 15), (RX2, TX2, 5), (RX3, TX3, 3), (RX4, TX4, 4), (RX5, TX5, 8), (RX6, TX6, 12), (RX7, TX7, 3), (RX8, TX8, 15), (RX9, TX9, 15), (RX10, TX10, 38)]
theorem inX0 : ∀ w ∈ wsX00, w ∈ lw_tbl := by decide +kernel
theorem inX1 : ∀ w ∈ wsX10, w ∈ lw_tbl := by decide +kernel
theorem inX2 : ∀ w ∈ wsX20, w ∈ lw_tbl := by decide +kernel
theorem inX3 : ∀ w ∈ wsX30, w ∈ lw_tbl := by decide +kernel
theorem inX4 : ∀ w ∈ wsX40, w ∈ lw_tbl := by decide +kernel
theorem inX5 : ∀ w ∈ wsX50, w ∈ lw_tbl := by decide +kernel
theorem inX6 : ∀ w ∈ wsX60, w ∈ lw_tbl := by decide +kernel
theorem inX7 : ∀ w ∈ wsX70, w ∈ lw_tbl := by decide +kernel
theorem inX8 : ∀ w ∈ wsX80, w ∈ lw_tbl := by decide +kernel
theorem inX9 : ∀ w ∈ wsX90, w ∈ lw_tbl := by decide +kernel
theorem inX10 : ∀ w ∈ wsX100, w ∈ lw_tbl := by decide +kernel
end
section
/-! A SMALL MACHINE: frames of resolved instructions over cells by place; what it does the Jvm does (parts 05 ..). -/
/-- cells by place; how many slots were made -/
abbrev mj_H : Type := List va_E × Nat
abbrev mj_L : Type := List (Option Value)
/-- an instruction's row: its pc, as resolved, its length, as it stands in the bytes, the place of its word in lw_tbl -/
abbrev mj_I : Type := Nat × Instr × Nat × Instr × Nat
/-- a method: name, bytes, locals, answer, its instructions in rows of 32 pcs -/
abbrev mj_M : Type := MethodName × ByteArray × Nat × Option FieldType × List (List mj_I)
abbrev mj_nm (M : mj_M) : MethodName := M.1
abbrev mj_bt (M : mj_M) : ByteArray := M.2.1
abbrev mj_mx (M : mj_M) : Nat := M.2.2.1
abbrev mj_rt (M : mj_M) : Option FieldType := M.2.2.2.1
abbrev mj_cd (M : mj_M) : List (List mj_I) := M.2.2.2.2
def mj_nth {α : Type} : List α → Nat → Option α
  | [], _ => none
  | a :: _, 0 => some a
  | _ :: t, n + 1 => mj_nth t n
def mj_find : List mj_I → Nat → Option mj_I
  | [], _ => none
  | e :: t, pc => bif Nat.beq e.1 pc then some e else mj_find t pc
def mj_ent (E : List (List mj_I)) (pc : Nat) : Option mj_I := match mj_nth E (pc / 32) with
  | some r => mj_find r pc
  | none => none
/-- the static cells' places begin here -/
def mj_SB : Nat := 1000000000
/-- locals -/
def mj_ld (lv : mj_L) (i : Nat) : Option Value := match mj_nth lv i with
  | some (some v) => some v
  | _ => none
def mj_kl (lv : mj_L) (i : Nat) : mj_L := match i with
  | 0 => lv
  | j + 1 => match mj_nth lv j with
    | some (some (.long _)) => lv.set j none
    | some (some (.double _)) => lv.set j none
    | _ => lv
def mj_s1 (lv : mj_L) (i : Nat) (v : Value) : mj_L := (mj_kl lv i).set i (some v)
def mj_s2 (lv : mj_L) (i : Nat) (v : Value) : mj_L := ((mj_kl lv i).set i (some v)).set (i + 1) none
def mj_el : List Value → mj_L
  | [] => []
  | .long x :: t => some (.long x) :: none :: mj_el t
  | .double x :: t => some (.double x) :: none :: mj_el t
  | v :: t => some v :: mj_el t
def mj_e0 (n : Nat) (as : List Value) : mj_L := mj_el as ++ List.replicate (n - (mj_el as).length) none
/-- types of fields: class, slot; as one number 64 * class + slot -/
def mj_tyc (ci k : Nat) : FieldType := match ci with
  | 0 => tyX0 k | 1 => tyX1 k | 2 => tyX2 k | 3 => tyX3 k | 4 => tyX4 k | 5 => tyX5 k | 6 => tyX6 k | 7 => tyX7 k | 8 => tyX8 k | 9 => tyX9 k | _ => tyX10 k
def mj_ty (c : Nat) : FieldType := mj_tyc (c / 64) (c % 64)
def mj_sz (ci : Nat) : Nat := match mj_nth vwCl ci with
  | some q => q.2.2
  | none => 0
/-- a new object's fields -/
def mj_new (ci : Nat) : List Value := (List.range (mj_sz ci)).map fun k => defaultValue (mj_tyc ci k)
/-- static rows of ints: the places from mj_SB on -/
abbrev mj_S : Type := Nat → Option (Nat × (Nat → Int32))
def mj_ints (sta : mj_S) (h : mj_H) (k : Nat) : Option (Nat × (Nat → Int32)) := match mj_nth h.1 k with
  | some (.inl (0, n, .inl f)) => some (n, f)
  | some _ => none
  | none => sta k
def mj_tg (pc : Nat) (off : Int) : Nat := ((pc : Int) + off).toNat
def mj_cmp (c : ClassFile.Cond) (x y : Int32) : Bool := match c with
  | .eq => decide (x = y) | .ne => !decide (x = y) | .lt => decide (x < y) | .ge => decide (y ≤ x) | .gt => decide (y < x) | .le => decide (x ≤ y)
abbrev mj_C : Type := Nat × mj_L × List Value × mj_H
/-- one instruction that isn't a call -/
def mj_nx (sta : mj_S) (i : Instr) (len pc : Nat) (lv : mj_L) (st : List Value) (h : mj_H) : Option mj_C := match i with
  | .iconst n => some (pc + len, lv, .int (Int32.ofInt n) :: st, h)
  | .bipush n => some (pc + len, lv, .int (Int8.ofInt n).toInt32 :: st, h)
  | .sipush n => some (pc + len, lv, .int (Int16.ofInt n).toInt32 :: st, h)
  | .lconst n => some (pc + len, lv, .long (Int64.ofNat (n : Nat)) :: st, h)
  | .ldc2_w n => some (pc + len, lv, .long (Int64.ofNat n) :: st, h)
  | .ldc j => some (pc + len, lv, .ref (mj_SB + j) :: st, h)
  | .getstatic j => some (pc + len, lv, .ref (mj_SB + j) :: st, h)
  | .iload_n k => match mj_ld lv k with | some (.int x) => some (pc + len, lv, .int x :: st, h) | _ => none
  | .iload k => match mj_ld lv k with | some (.int x) => some (pc + len, lv, .int x :: st, h) | _ => none
  | .lload_n k => match mj_ld lv k with | some (.long x) => some (pc + len, lv, .long x :: st, h) | _ => none
  | .lload k => match mj_ld lv k with | some (.long x) => some (pc + len, lv, .long x :: st, h) | _ => none
  | .aload_n k => match mj_ld lv k with | some (.ref x) => some (pc + len, lv, .ref x :: st, h) | _ => none
  | .aload k => match mj_ld lv k with | some (.ref x) => some (pc + len, lv, .ref x :: st, h) | _ => none
  | .istore_n k => match st with | .int x :: r => some (pc + len, mj_s1 lv k (.int x), r, h) | _ => none
  | .istore k => match st with | .int x :: r => some (pc + len, mj_s1 lv k (.int x), r, h) | _ => none
  | .lstore_n k => match st with | .long x :: r => some (pc + len, mj_s2 lv k (.long x), r, h) | _ => none
  | .lstore k => match st with | .long x :: r => some (pc + len, mj_s2 lv k (.long x), r, h) | _ => none
  | .astore_n k => match st with | .ref x :: r => some (pc + len, mj_s1 lv k (.ref x), r, h) | _ => none
  | .astore k => match st with | .ref x :: r => some (pc + len, mj_s1 lv k (.ref x), r, h) | _ => none
  | .iinc k n => match mj_ld lv k with | some (.int x) => some (pc + len, mj_s1 lv k (.int (x + Int32.ofInt n)), st, h) | _ => none
  | .iadd => match st with | .int y :: .int x :: r => some (pc + len, lv, .int (x + y) :: r, h) | _ => none
  | .isub => match st with | .int y :: .int x :: r => some (pc + len, lv, .int (x - y) :: r, h) | _ => none
  | .imul => match st with | .int y :: .int x :: r => some (pc + len, lv, .int (x * y) :: r, h) | _ => none
  | .iand => match st with | .int y :: .int x :: r => some (pc + len, lv, .int (x &&& y) :: r, h) | _ => none
  | .ior => match st with | .int y :: .int x :: r => some (pc + len, lv, .int (x ||| y) :: r, h) | _ => none
  | .ixor => match st with | .int y :: .int x :: r => some (pc + len, lv, .int (x ^^^ y) :: r, h) | _ => none
  | .ishl => match st with | .int y :: .int x :: r => some (pc + len, lv, .int (x <<< (y &&& 31)) :: r, h) | _ => none
  | .ishr => match st with | .int y :: .int x :: r => some (pc + len, lv, .int (x >>> (y &&& 31)) :: r, h) | _ => none
  | .iushr => match st with | .int y :: .int x :: r => some (pc + len, lv, .int (x.toUInt32 >>> (y.toUInt32 &&& Int32.toUInt32 31)).toInt32 :: r, h) | _ => none
  | .idiv => match st with | .int y :: .int x :: r => if y = 0 then none else some (pc + len, lv, .int (x / y) :: r, h) | _ => none
  | .irem => match st with | .int y :: .int x :: r => if y = 0 then none else some (pc + len, lv, .int (x - x / y * y) :: r, h) | _ => none
  | .ladd => match st with | .long y :: .long x :: r => some (pc + len, lv, .long (x + y) :: r, h) | _ => none
  | .lmul => match st with | .long y :: .long x :: r => some (pc + len, lv, .long (x * y) :: r, h) | _ => none
  | .ldiv => match st with | .long y :: .long x :: r => if y = 0 then none else some (pc + len, lv, .long (x / y) :: r, h) | _ => none
  | .lrem => match st with | .long y :: .long x :: r => if y = 0 then none else some (pc + len, lv, .long (x - x / y * y) :: r, h) | _ => none
  | .lcmp => match st with | .long y :: .long x :: r => some (pc + len, lv, .int (lg_cmp x y) :: r, h) | _ => none
  | .i2l => match st with | .int x :: r => some (pc + len, lv, .long x.toInt64 :: r, h) | _ => none
  | .l2i => match st with | .long x :: r => some (pc + len, lv, .int x.toInt32 :: r, h) | _ => none
  | .i2b => match st with | .int x :: r => some (pc + len, lv, .int x.toInt8.toInt32 :: r, h) | _ => none
  | .dup => match st with | .int x :: r => some (pc + len, lv, .int x :: .int x :: r, h) | .ref x :: r => some (pc + len, lv, .ref x :: .ref x :: r, h) | _ => none
  | .dup2 => match st with | .int x :: .ref a :: r => some (pc + len, lv, .int x :: .ref a :: .int x :: .ref a :: r, h) | .long x :: r => some (pc + len, lv, .long x :: .long x :: r, h) | _ => none
  | .pop => match st with | .int _ :: r => some (pc + len, lv, r, h) | .ref _ :: r => some (pc + len, lv, r, h) | _ => none
  | .goto off => some (mj_tg pc off, lv, st, h)
  | .ifCond c off => match st with | .int x :: r => some (bif mj_cmp c x 0 then mj_tg pc off else pc + len, lv, r, h) | _ => none
  | .if_icmp c off => match st with | .int y :: .int x :: r => some (bif mj_cmp c x y then mj_tg pc off else pc + len, lv, r, h) | _ => none
  | .ifnull off => match st with | .ref _ :: r => some (pc + len, lv, r, h) | .null :: r => some (mj_tg pc off, lv, r, h) | _ => none
  | .ifnonnull off => match st with | .ref _ :: r => some (mj_tg pc off, lv, r, h) | .null :: r => some (pc + len, lv, r, h) | _ => none
  | .tableswitch dflt lo hi offs => match st with
    | .int x :: r => if x.toInt < lo ∨ hi < x.toInt then some (mj_tg pc dflt, lv, r, h) else match offs[(x.toInt - lo).toNat]? with
      | some off => some (mj_tg pc off, lv, r, h)
      | none => none
    | _ => none
  | .getfield c => match st with
    | .ref k :: r => match mj_nth h.1 k with
      | some (.inr (ci, fs)) => bif Nat.beq ci (c / 64) then match mj_nth fs (c % 64) with
          | some v => some (pc + len, lv, v :: r, h)
          | none => none
        else none
      | _ => none
    | _ => none
  | .putfield c => match st with
    | v :: .ref k :: r => match mj_nth h.1 k with
      | some (.inr (ci, fs)) => bif Nat.beq ci (c / 64) then
          if c % 64 < fs.length ∧ narrow (mj_ty c) v = v ∧ fits (mj_ty c) v = true then some (pc + len, lv, r, (h.1.set k (.inr (ci, fs.set (c % 64) v)), h.2)) else none
        else none
      | _ => none
    | _ => none
  | .iaload => match st with
    | .int i :: .ref k :: r => match mj_ints sta h k with
      | some (n, f) => if i < 0 ∨ n ≤ i.toNatClampNeg then none else some (pc + len, lv, .int (f i.toNatClampNeg) :: r, h)
      | none => none
    | _ => none
  | .arraylength => match st with
    | .ref k :: r => match mj_ints sta h k with
      | some (n, _) => some (pc + len, lv, .int (Int32.ofNat n) :: r, h)
      | none => none
    | _ => none
  | .baload => match st with
    | .int i :: .ref k :: r => match mj_nth h.1 k with
      | some (.inl (2, n, .inl f)) => if i < 0 ∨ n ≤ i.toNatClampNeg then none else some (pc + len, lv, .int (f i.toNatClampNeg) :: r, h)
      | _ => none
    | _ => none
  | .laload => match st with
    | .int i :: .ref k :: r => match mj_nth h.1 k with
      | some (.inl (1, n, .inr (.inl f))) => if i < 0 ∨ n ≤ i.toNatClampNeg then none else some (pc + len, lv, .long (f i.toNatClampNeg) :: r, h)
      | _ => none
    | _ => none
  | .aaload => match st with
    | .int i :: .ref k :: r => match mj_nth h.1 k with
      | some (.inl (3, n, .inr (.inr (.inr (.inr f))))) => if i < 0 ∨ n ≤ i.toNatClampNeg then none else some (pc + len, lv, va_rf (f i.toNatClampNeg) :: r, h)
      | some (.inl (4, n, .inr (.inr (.inr (.inr f))))) => if i < 0 ∨ n ≤ i.toNatClampNeg then none else some (pc + len, lv, va_rf (f i.toNatClampNeg) :: r, h)
      | _ => none
    | _ => none
  | .iastore => match st with
    | .int x :: .int i :: .ref k :: r => match mj_nth h.1 k with
      | some (.inl (0, n, .inl f)) => if i < 0 ∨ n ≤ i.toNatClampNeg then none else some (pc + len, lv, r, (h.1.set k (.inl (0, n, .inl (upd f i.toNatClampNeg x))), h.2))
      | _ => none
    | _ => none
  | .bastore => match st with
    | .int x :: .int i :: .ref k :: r => match mj_nth h.1 k with
      | some (.inl (2, n, .inl f)) => if i < 0 ∨ n ≤ i.toNatClampNeg then none else some (pc + len, lv, r, (h.1.set k (.inl (2, n, .inl (upd f i.toNatClampNeg (vp_nar .byte x)))), h.2))
      | _ => none
    | _ => none
  | .lastore => match st with
    | .long x :: .int i :: .ref k :: r => match mj_nth h.1 k with
      | some (.inl (1, n, .inr (.inl f))) => if i < 0 ∨ n ≤ i.toNatClampNeg then none else some (pc + len, lv, r, (h.1.set k (.inl (1, n, .inr (.inl (vp_updL f i.toNatClampNeg x)))), h.2))
      | _ => none
    | _ => none
  | .aastore => match st with
    | .ref v :: .int i :: .ref k :: r => match mj_nth h.1 k, mj_nth h.1 v with
      | some (.inl (3, n, .inr (.inr (.inr (.inr f))))), some (.inr (5, _)) => if i < 0 ∨ n ≤ i.toNatClampNeg then none else some (pc + len, lv, r, (h.1.set k (.inl (3, n, .inr (.inr (.inr (.inr (va_up f i.toNatClampNeg (some v))))))), h.2))
      | _, _ => none
    | _ => none
  | .new ci => some (pc + len, lv, .ref h.1.length :: st, (h.1 ++ [.inr (ci, mj_new ci)], h.2 + mj_sz ci))
  | .newarray ty => match st with
    | .int n :: r => if n < 0 ∨ 65536 < n.toNatClampNeg then none else match ty with
      | .int => some (pc + len, lv, .ref h.1.length :: r, (h.1 ++ [.inl (0, n.toNatClampNeg, .inl (fun _ => 0))], h.2 + n.toNatClampNeg))
      | .long => some (pc + len, lv, .ref h.1.length :: r, (h.1 ++ [.inl (1, n.toNatClampNeg, .inr (.inl (fun _ => 0)))], h.2 + n.toNatClampNeg))
      | .byte => some (pc + len, lv, .ref h.1.length :: r, (h.1 ++ [.inl (2, n.toNatClampNeg, .inl (fun _ => 0))], h.2 + n.toNatClampNeg))
      | _ => none
    | _ => none
  | .anewarray 3 => match st with
    | .int n :: r => if n < 0 ∨ 65536 < n.toNatClampNeg then none else some (pc + len, lv, .ref h.1.length :: r, (h.1 ++ [.inl (3, n.toNatClampNeg, .inr (.inr (.inr (.inr (fun _ => none)))))], h.2 + n.toNatClampNeg))
    | _ => none
  | .multianewarray 4 2 => match st with
    | .int 6 :: .int 3 :: r => some (pc + len, lv, .ref h.1.length :: r, (h.1 ++ [.inl (4, 3, .inr (.inr (.inr (.inr (fun i => if i < 3 then some (h.1.length + 1 + i) else none))))), .inl (0, 6, .inl (fun _ => 0)), .inl (0, 6, .inl (fun _ => 0)), .inl (0, 6, .inl (fun _ => 0))], h.2 + 21))
    | _ => none
  | _ => none
/-- a call's number: 256 * method + 16 * arguments + class of the receiver -/
def mj_isCall (i : Instr) : Option Nat := match i with
  | .invokevirtual c => some c
  | .invokestatic c => some c
  | .invokespecial c => some c
  | _ => none
/-- whom an invokevirtual finds -/
def mj_recv (i : Instr) (as : List Value) (h : mj_H) : Prop := match i with
  | .invokevirtual c => (c / 256 < 4) ∨ ∃ (k : Nat) (r : List Value) (fs : List Value), as = .ref k :: r ∧ mj_nth h.1 k = some (.inr (c % 16, fs))
  | .invokespecial _ => ∃ (k : Nat) (r : List Value), as = .ref k :: r
  | _ => True
abbrev mj_R : Type := Nat → List Value → mj_H → Option Value → mj_H → Prop
/-- the machine comes from here to a place with T, calls by Cl -/
def mj_go (sta : mj_S) (Cl : mj_R) (M : mj_M) (T : Nat → mj_L → List Value → mj_H → Prop) (pc : Nat) (lv : mj_L) (st : List Value) (h : mj_H) : Prop :=
  ∀ P : Nat → mj_L → List Value → mj_H → Prop, (∀ pc lv st h, T pc lv st h → P pc lv st h) →
    (∀ pc lv st h e pc' lv' st' h', mj_ent (mj_cd M) pc = some e → mj_nx sta e.2.1 e.2.2.1 pc lv st h = some (pc', lv', st', h') → P pc' lv' st' h' → P pc lv st h) →
    (∀ pc lv st h e c v h', mj_ent (mj_cd M) pc = some e → mj_isCall e.2.1 = some c → c / 16 % 16 ≤ st.length → mj_recv e.2.1 (st.take (c / 16 % 16)).reverse h → ((st.drop (c / 16 % 16)).map Value.category).sum ≤ 8 → Cl (c / 256) (st.take (c / 16 % 16)).reverse h v h' → P (pc + 3) lv (v.toList ++ st.drop (c / 16 % 16)) h' → P pc lv st h) →
    P pc lv st h
/-- at a return, with v -/
def mj_ret (M : mj_M) (v : Option Value) (h' : mj_H) (pc : Nat) (lv : mj_L) (st : List Value) (h : mj_H) : Prop :=
  h = h' ∧ ∃ e, mj_ent (mj_cd M) pc = some e ∧ match e.2.1 with
    | .return_ => st = [] ∧ v = none ∧ mj_rt M = none
    | .ireturn => ∃ (x : Int32) (ty : FieldType), st = [.int x] ∧ v = some (.int x) ∧ mj_rt M = some ty ∧ narrow ty (.int x) = .int x
    | .lreturn => ∃ x : Int64, st = [.long x] ∧ v = some (.long x) ∧ mj_rt M = some .long
    | .areturn => ∃ (a : Nat) (C : String), st = [.ref a] ∧ v = some (.ref a) ∧ mj_rt M = some (.object C)
    | _ => False
section MJgo
variable {sta : mj_S} {Cl : mj_R} {M : mj_M} {T T' : Nat → mj_L → List Value → mj_H → Prop} {pc pc' : Nat} {lv lv' : mj_L} {st st' : List Value} {h h' : mj_H} {e : mj_I}
theorem mj_go.here (ht : T pc lv st h) : mj_go sta Cl M T pc lv st h := fun _ hT _ _ => hT _ _ _ _ ht
theorem mj_go.nx (he : mj_ent (mj_cd M) pc = some e) (hn : mj_nx sta e.2.1 e.2.2.1 pc lv st h = some (pc', lv', st', h')) (k : mj_go sta Cl M T pc' lv' st' h') : mj_go sta Cl M T pc lv st h :=
  fun P hT h1 h2 => h1 _ _ _ _ _ _ _ _ _ he hn (k P hT h1 h2)
theorem mj_go.call {c : Nat} {v : Option Value} (he : mj_ent (mj_cd M) pc = some e) (hc : mj_isCall e.2.1 = some c) (hl : c / 16 % 16 ≤ st.length) (hr : mj_recv e.2.1 (st.take (c / 16 % 16)).reverse h) (hs : ((st.drop (c / 16 % 16)).map Value.category).sum ≤ 8)
    (hC : Cl (c / 256) (st.take (c / 16 % 16)).reverse h v h') (k : mj_go sta Cl M T (pc + 3) lv (v.toList ++ st.drop (c / 16 % 16)) h') : mj_go sta Cl M T pc lv st h :=
  fun P hT h1 h2 => h2 _ _ _ _ _ _ _ _ he hc hl hr hs hC (k P hT h1 h2)
theorem mj_go.trans (k : mj_go sta Cl M T' pc lv st h) (hk : ∀ pc lv st h, T' pc lv st h → mj_go sta Cl M T pc lv st h) : mj_go sta Cl M T pc lv st h :=
  fun P hT h1 h2 => k P (fun pc lv st h ht => hk pc lv st h ht P hT h1 h2) h1 h2
end MJgo
end
section
def m_X0_init_r0 : List mj_I := [(0, .aload_n 0, 1, .aload_n 0, 0), (1, .invokespecial 31, 3, .invokespecial 3, 370), (4, .aload_n 0, 1, .aload_n 0, 0), (5, .new 4, 3, .new 9, 371), (8, .dup, 1, .dup, 0), (9, .invokespecial 7188, 3, .invokespecial 11, 372), (12, .putfield 0, 3, .putfield 12, 373), (15, .aload_n 0, 1, .aload_n 0, 0), (16, .bipush 6, 2, .bipush 6, 0), (18, .newarray .int, 2, .newarray .int, 0), (20, .putfield 1, 3, .putfield 18, 374), (23, .aload_n 0, 1, .aload_n 0, 0), (24, .sipush 720, 3, .sipush 720, 0), (27, .newarray .int, 2, .newarray .int, 0), (29, .putfield 4, 3, .putfield 22, 378)]
def m_X0_init_r1 : List mj_I := [(32, .aload_n 0, 1, .aload_n 0, 0), (33, .sipush 720, 3, .sipush 720, 0), (36, .newarray .int, 2, .newarray .int, 0), (38, .putfield 5, 3, .putfield 25, 380), (41, .aload_n 0, 1, .aload_n 0, 0), (42, .sipush 720, 3, .sipush 720, 0), (45, .newarray .int, 2, .newarray .int, 0), (47, .putfield 6, 3, .putfield 28, 381), (50, .return_, 1, .return_, 0)]
def m_X0_init_E : List (List mj_I) := [m_X0_init_r0, m_X0_init_r1]
def m_X0_init : mj_M := (yX0_init, cX0_init, 1, none, m_X0_init_E)
def m_X0_fill_r0 : List mj_I := [(0, .aload_n 0, 1, .aload_n 0, 0), (1, .aload_n 1, 1, .aload_n 1, 0), (2, .getfield 65, 3, .getfield 31, 192), (5, .putfield 3, 3, .putfield 37, 377), (8, .aload_n 0, 1, .aload_n 0, 0), (9, .iconst 0, 1, .iconst 0, 0), (10, .putfield 2, 3, .putfield 38, 375), (13, .aload_n 0, 1, .aload_n 0, 0), (14, .getfield 1, 3, .getfield 18, 374), (17, .aload_n 0, 1, .aload_n 0, 0), (18, .getfield 3, 3, .getfield 37, 377), (21, .invokestatic 38696, 3, .invokestatic 41, 782), (24, .iconst 1, 1, .iconst 1, 0), (25, .istore 4, 2, .istore 4, 0), (27, .iload 4, 2, .iload 4, 0), (29, .ifCond .eq 120, 3, .ifCond .eq 120, 0)]
def m_X0_fill_r1 : List mj_I := [(32, .aload_n 0, 1, .aload_n 0, 0), (33, .getfield 2, 3, .getfield 38, 375), (36, .sipush 720, 3, .sipush 720, 0), (39, .if_icmp .ge 110, 3, .if_icmp .ge 110, 0), (42, .aload_n 0, 1, .aload_n 0, 0), (43, .getfield 0, 3, .getfield 12, 373), (46, .aload_n 1, 1, .aload_n 1, 0), (47, .aload_n 2, 1, .aload_n 2, 0), (48, .iload_n 3, 1, .iload_n 3, 0), (49, .aload_n 0, 1, .aload_n 0, 0), (50, .getfield 1, 3, .getfield 18, 374), (53, .invokevirtual 7508, 3, .invokevirtual 45, 783), (56, .aload_n 0, 1, .aload_n 0, 0), (57, .getfield 4, 3, .getfield 22, 378), (60, .aload_n 0, 1, .aload_n 0, 0), (61, .getfield 2, 3, .getfield 38, 375)]
def m_X0_fill_r2 : List mj_I := [(64, .aload_n 0, 1, .aload_n 0, 0), (65, .getfield 0, 3, .getfield 12, 373), (68, .getfield 256, 3, .getfield 49, 346), (71, .iastore, 1, .iastore, 0), (72, .aload_n 0, 1, .aload_n 0, 0), (73, .getfield 5, 3, .getfield 25, 380), (76, .aload_n 0, 1, .aload_n 0, 0), (77, .getfield 2, 3, .getfield 38, 375), (80, .aload_n 0, 1, .aload_n 0, 0), (81, .getfield 0, 3, .getfield 12, 373), (84, .getfield 259, 3, .getfield 52, 354), (87, .invokestatic 1552, 3, .invokestatic 55, 784), (90, .iastore, 1, .iastore, 0), (91, .aload_n 0, 1, .aload_n 0, 0), (92, .getfield 6, 3, .getfield 28, 381), (95, .aload_n 0, 1, .aload_n 0, 0)]
def m_X0_fill_r3 : List mj_I := [(96, .getfield 2, 3, .getfield 38, 375), (99, .getstatic 100, 3, .getstatic 59, 787), (102, .aload_n 0, 1, .aload_n 0, 0), (103, .getfield 3, 3, .getfield 37, 377), (106, .aload_n 0, 1, .aload_n 0, 0), (107, .getfield 0, 3, .getfield 12, 373), (110, .getfield 258, 3, .getfield 62, 351), (113, .isub, 1, .isub, 0), (114, .iaload, 1, .iaload, 0), (115, .iastore, 1, .iastore, 0), (116, .aload_n 0, 1, .aload_n 0, 0), (117, .dup, 1, .dup, 0), (118, .getfield 2, 3, .getfield 38, 375), (121, .iconst 1, 1, .iconst 1, 0), (122, .iadd, 1, .iadd, 0), (123, .putfield 2, 3, .putfield 38, 375), (126, .aload_n 0, 1, .aload_n 0, 0), (127, .getfield 1, 3, .getfield 18, 374)]
def m_X0_fill_r4 : List mj_I := [(130, .aload_n 0, 1, .aload_n 0, 0), (131, .getfield 3, 3, .getfield 37, 377), (134, .aload_n 0, 1, .aload_n 0, 0), (135, .getfield 0, 3, .getfield 12, 373), (138, .getfield 258, 3, .getfield 62, 351), (141, .invokestatic 39736, 3, .invokestatic 65, 789), (144, .istore 4, 2, .istore 4, 0), (146, .goto (-119), 3, .goto (-119), 0), (149, .return_, 1, .return_, 0)]
def m_X0_fill_E : List (List mj_I) := [m_X0_fill_r0, m_X0_fill_r1, m_X0_fill_r2, m_X0_fill_r3, m_X0_fill_r4]
def m_X0_fill : mj_M := (yX0_fill, cX0_fill, 5, none, m_X0_fill_E)
def m_X0_packed_r0 : List mj_I := [(0, .iconst 0, 1, .iconst 0, 0), (1, .istore_n 1, 1, .istore_n 1, 0), (2, .iconst 0, 1, .iconst 0, 0), (3, .istore_n 2, 1, .istore_n 2, 0), (4, .iload_n 2, 1, .iload_n 2, 0), (5, .bipush 6, 2, .bipush 6, 0), (7, .if_icmp .ge 27, 3, .if_icmp .ge 27, 0), (10, .aload_n 0, 1, .aload_n 0, 0), (11, .iload_n 2, 1, .iload_n 2, 0), (12, .iaload, 1, .iaload, 0), (13, .ifCond .lt 15, 3, .ifCond .lt 15, 0), (16, .iload_n 1, 1, .iload_n 1, 0), (17, .aload_n 0, 1, .aload_n 0, 0), (18, .iload_n 2, 1, .iload_n 2, 0), (19, .iaload, 1, .iaload, 0), (20, .iconst 1, 1, .iconst 1, 0), (21, .iadd, 1, .iadd, 0), (22, .iconst 3, 1, .iconst 3, 0), (23, .iload_n 2, 1, .iload_n 2, 0), (24, .imul, 1, .imul, 0), (25, .ishl, 1, .ishl, 0), (26, .ior, 1, .ior, 0), (27, .istore_n 1, 1, .istore_n 1, 0), (28, .iinc 2 1, 3, .iinc 2 1, 0), (31, .goto (-27), 3, .goto (-27), 0)]
def m_X0_packed_r1 : List mj_I := [(34, .iload_n 1, 1, .iload_n 1, 0), (35, .ireturn, 1, .ireturn, 0)]
def m_X0_packed_E : List (List mj_I) := [m_X0_packed_r0, m_X0_packed_r1]
def m_X0_packed : mj_M := (yX0_packed, cX0_packed, 3, (some .int), m_X0_packed_E)
def m_X0_sent_r0 : List mj_I := [(0, .aload_n 0, 1, .aload_n 0, 0), (1, .getfield 5, 3, .getfield 25, 380), (4, .iload_n 1, 1, .iload_n 1, 0), (5, .iaload, 1, .iaload, 0), (6, .iconst 3, 1, .iconst 3, 0), (7, .iload_n 2, 1, .iload_n 2, 0), (8, .imul, 1, .imul, 0), (9, .ishr, 1, .ishr, 0), (10, .bipush 7, 2, .bipush 7, 0), (12, .iand, 1, .iand, 0), (13, .iconst 1, 1, .iconst 1, 0), (14, .isub, 1, .isub, 0), (15, .ireturn, 1, .ireturn, 0)]
def m_X0_sent_E : List (List mj_I) := [m_X0_sent_r0]
def m_X0_sent : mj_M := (yX0_sent, cX0_sent, 3, (some .int), m_X0_sent_E)
def m_X0_isTaken_r0 : List mj_I := [(0, .aload_n 0, 1, .aload_n 0, 0), (1, .getfield 4, 3, .getfield 22, 378), (4, .iload_n 1, 1, .iload_n 1, 0), (5, .iaload, 1, .iaload, 0), (6, .iload_n 2, 1, .iload_n 2, 0), (7, .ishr, 1, .ishr, 0), (8, .iconst 1, 1, .iconst 1, 0), (9, .iand, 1, .iand, 0), (10, .iconst 1, 1, .iconst 1, 0), (11, .if_icmp .ne 7, 3, .if_icmp .ne 7, 0), (14, .iconst 1, 1, .iconst 1, 0), (15, .goto 4, 3, .goto 4, 0), (18, .iconst 0, 1, .iconst 0, 0), (19, .ireturn, 1, .ireturn, 0)]
def m_X0_isTaken_E : List (List mj_I) := [m_X0_isTaken_r0]
def m_X0_isTaken : mj_M := (yX0_isTaken, cX0_isTaken, 3, (some .boolean), m_X0_isTaken_E)
def m_X0_sender_r0 : List mj_I := [(0, .iconst 0, 1, .iconst 0, 0), (1, .istore_n 3, 1, .istore_n 3, 0), (2, .iload_n 3, 1, .iload_n 3, 0), (3, .aload_n 0, 1, .aload_n 0, 0), (4, .getfield 3, 3, .getfield 37, 377), (7, .if_icmp .ge 21, 3, .if_icmp .ge 21, 0), (10, .aload_n 0, 1, .aload_n 0, 0), (11, .iload_n 1, 1, .iload_n 1, 0), (12, .iload_n 3, 1, .iload_n 3, 0), (13, .invokevirtual 1840, 3, .invokevirtual 69, 818), (16, .iload_n 2, 1, .iload_n 2, 0), (17, .if_icmp .ne 5, 3, .if_icmp .ne 5, 0), (20, .iload_n 3, 1, .iload_n 3, 0), (21, .ireturn, 1, .ireturn, 0), (22, .iinc 3 1, 3, .iinc 3 1, 0), (25, .goto (-23), 3, .goto (-23), 0), (28, .bipush (-2), 2, .bipush (-2), 0), (30, .ireturn, 1, .ireturn, 0)]
def m_X0_sender_E : List (List mj_I) := [m_X0_sender_r0]
def m_X0_sender : mj_M := (yX0_sender, cX0_sender, 4, (some .int), m_X0_sender_E)
def m_X0_lost_r0 : List mj_I := [(0, .iconst 0, 1, .iconst 0, 0), (1, .istore 4, 2, .istore 4, 0), (3, .iconst 0, 1, .iconst 0, 0), (4, .istore 5, 2, .istore 5, 0), (6, .iload 5, 2, .iload 5, 0), (8, .aload_n 0, 1, .aload_n 0, 0), (9, .getfield 3, 3, .getfield 37, 377), (12, .if_icmp .ge 61, 3, .if_icmp .ge 61, 0), (15, .iload_n 3, 1, .iload_n 3, 0), (16, .aload_n 0, 1, .aload_n 0, 0), (17, .getfield 4, 3, .getfield 22, 378), (20, .iload_n 2, 1, .iload_n 2, 0), (21, .iaload, 1, .iaload, 0), (22, .iand, 1, .iand, 0), (23, .iconst 1, 1, .iconst 1, 0), (24, .iload 5, 2, .iload 5, 0), (26, .ishl, 1, .ishl, 0), (27, .iand, 1, .iand, 0), (28, .ifCond .eq 39, 3, .ifCond .eq 39, 0), (31, .aload_n 0, 1, .aload_n 0, 0)]
def m_X0_lost_r1 : List mj_I := [(32, .iload_n 2, 1, .iload_n 2, 0), (33, .iload 5, 2, .iload 5, 0), (35, .invokevirtual 1840, 3, .invokevirtual 69, 818), (38, .istore 6, 2, .istore 6, 0), (40, .iload 4, 2, .iload 4, 0), (42, .iload 6, 2, .iload 6, 0), (44, .ifCond .ge 13, 3, .ifCond .ge 13, 0), (47, .aload_n 1, 1, .aload_n 1, 0), (48, .getfield 67, 3, .getfield 73, 204), (51, .iload 5, 2, .iload 5, 0), (53, .iaload, 1, .iaload, 0), (54, .goto 10, 3, .goto 10, 0), (57, .aload_n 1, 1, .aload_n 1, 0), (58, .getfield 69, 3, .getfield 76, 212), (61, .iload 6, 2, .iload 6, 0), (63, .iaload, 1, .iaload, 0)]
def m_X0_lost_r2 : List mj_I := [(64, .iadd, 1, .iadd, 0), (65, .istore 4, 2, .istore 4, 0), (67, .iinc 5 1, 3, .iinc 5 1, 0), (70, .goto (-64), 3, .goto (-64), 0), (73, .iload 4, 2, .iload 4, 0), (75, .ireturn, 1, .ireturn, 0)]
def m_X0_lost_E : List (List mj_I) := [m_X0_lost_r0, m_X0_lost_r1, m_X0_lost_r2]
def m_X0_lost : mj_M := (yX0_lost, cX0_lost, 7, (some .int), m_X0_lost_E)
def m_X0_weightTaken_r0 : List mj_I := [(0, .lconst 0, 1, .lconst 0, 0), (1, .lstore_n 2, 1, .lstore_n 2, 0), (2, .iconst 0, 1, .iconst 0, 0), (3, .istore 4, 2, .istore 4, 0), (5, .iload 4, 2, .iload 4, 0), (7, .aload_n 0, 1, .aload_n 0, 0), (8, .getfield 2, 3, .getfield 38, 375), (11, .if_icmp .ge 30, 3, .if_icmp .ge 30, 0), (14, .aload_n 0, 1, .aload_n 0, 0), (15, .iload 4, 2, .iload 4, 0), (17, .iload_n 1, 1, .iload_n 1, 0), (18, .invokevirtual 2096, 3, .invokevirtual 79, 794), (21, .ifCond .eq 14, 3, .ifCond .eq 14, 0), (24, .lload_n 2, 1, .lload_n 2, 0), (25, .aload_n 0, 1, .aload_n 0, 0), (26, .getfield 6, 3, .getfield 28, 381), (29, .iload 4, 2, .iload 4, 0), (31, .iaload, 1, .iaload, 0)]
def m_X0_weightTaken_r1 : List mj_I := [(32, .i2l, 1, .i2l, 0), (33, .ladd, 1, .ladd, 0), (34, .lstore_n 2, 1, .lstore_n 2, 0), (35, .iinc 4 1, 3, .iinc 4 1, 0), (38, .goto (-33), 3, .goto (-33), 0), (41, .lload_n 2, 1, .lload_n 2, 0), (42, .lreturn, 1, .lreturn, 0)]
def m_X0_weightTaken_E : List (List mj_I) := [m_X0_weightTaken_r0, m_X0_weightTaken_r1]
def m_X0_weightTaken : mj_M := (yX0_weightTaken, cX0_weightTaken, 5, (some .long), m_X0_weightTaken_E)
def m_X0_weightGoing_r0 : List mj_I := [(0, .lconst 0, 1, .lconst 0, 0), (1, .lstore_n 2, 1, .lstore_n 2, 0), (2, .iconst 0, 1, .iconst 0, 0), (3, .istore 4, 2, .istore 4, 0), (5, .iload 4, 2, .iload 4, 0), (7, .aload_n 0, 1, .aload_n 0, 0), (8, .getfield 2, 3, .getfield 38, 375), (11, .if_icmp .ge 53, 3, .if_icmp .ge 53, 0), (14, .aload_n 0, 1, .aload_n 0, 0), (15, .iload 4, 2, .iload 4, 0), (17, .iload_n 1, 1, .iload_n 1, 0), (18, .invokevirtual 2096, 3, .invokevirtual 79, 794), (21, .ifCond .eq 16, 3, .ifCond .eq 16, 0), (24, .aload_n 0, 1, .aload_n 0, 0), (25, .iload 4, 2, .iload 4, 0), (27, .iload_n 1, 1, .iload_n 1, 0), (28, .invokevirtual 1840, 3, .invokevirtual 69, 818), (31, .ifCond .ge 27, 3, .ifCond .ge 27, 0)]
def m_X0_weightGoing_r1 : List mj_I := [(34, .goto 13, 3, .goto 13, 0), (37, .aload_n 0, 1, .aload_n 0, 0), (38, .iload 4, 2, .iload 4, 0), (40, .iload_n 1, 1, .iload_n 1, 0), (41, .invokevirtual 2352, 3, .invokevirtual 83, 822), (44, .ifCond .lt 14, 3, .ifCond .lt 14, 0), (47, .lload_n 2, 1, .lload_n 2, 0), (48, .aload_n 0, 1, .aload_n 0, 0), (49, .getfield 6, 3, .getfield 28, 381), (52, .iload 4, 2, .iload 4, 0), (54, .iaload, 1, .iaload, 0), (55, .i2l, 1, .i2l, 0), (56, .ladd, 1, .ladd, 0), (57, .lstore_n 2, 1, .lstore_n 2, 0), (58, .iinc 4 1, 3, .iinc 4 1, 0), (61, .goto (-56), 3, .goto (-56), 0)]
def m_X0_weightGoing_r2 : List mj_I := [(64, .lload_n 2, 1, .lload_n 2, 0), (65, .lreturn, 1, .lreturn, 0)]
def m_X0_weightGoing_E : List (List mj_I) := [m_X0_weightGoing_r0, m_X0_weightGoing_r1, m_X0_weightGoing_r2]
def m_X0_weightGoing : mj_M := (yX0_weightGoing, cX0_weightGoing, 5, (some .long), m_X0_weightGoing_E)
def m_X0_weightSent_r0 : List mj_I := [(0, .lconst 0, 1, .lconst 0, 0), (1, .lstore_n 3, 1, .lstore_n 3, 0), (2, .iconst 0, 1, .iconst 0, 0), (3, .istore 5, 2, .istore 5, 0), (5, .iload 5, 2, .iload 5, 0), (7, .aload_n 0, 1, .aload_n 0, 0), (8, .getfield 2, 3, .getfield 38, 375), (11, .if_icmp .ge 31, 3, .if_icmp .ge 31, 0), (14, .aload_n 0, 1, .aload_n 0, 0), (15, .iload 5, 2, .iload 5, 0), (17, .iload_n 2, 1, .iload_n 2, 0), (18, .invokevirtual 1840, 3, .invokevirtual 69, 818), (21, .iload_n 1, 1, .iload_n 1, 0), (22, .if_icmp .ne 14, 3, .if_icmp .ne 14, 0), (25, .lload_n 3, 1, .lload_n 3, 0), (26, .aload_n 0, 1, .aload_n 0, 0), (27, .getfield 6, 3, .getfield 28, 381), (30, .iload 5, 2, .iload 5, 0)]
def m_X0_weightSent_r1 : List mj_I := [(32, .iaload, 1, .iaload, 0), (33, .i2l, 1, .i2l, 0), (34, .ladd, 1, .ladd, 0), (35, .lstore_n 3, 1, .lstore_n 3, 0), (36, .iinc 5 1, 3, .iinc 5 1, 0), (39, .goto (-34), 3, .goto (-34), 0), (42, .lload_n 3, 1, .lload_n 3, 0), (43, .lreturn, 1, .lreturn, 0)]
def m_X0_weightSent_E : List (List mj_I) := [m_X0_weightSent_r0, m_X0_weightSent_r1]
def m_X0_weightSent : mj_M := (yX0_weightSent, cX0_weightSent, 6, (some .long), m_X0_weightSent_E)
def m_X0_weightLosing_r0 : List mj_I := [(0, .lconst 0, 1, .lconst 0, 0), (1, .lstore 4, 2, .lstore 4, 0), (3, .iconst 0, 1, .iconst 0, 0), (4, .istore 6, 2, .istore 6, 0), (6, .iload 6, 2, .iload 6, 0), (8, .aload_n 0, 1, .aload_n 0, 0), (9, .getfield 2, 3, .getfield 38, 375), (12, .if_icmp .ge 34, 3, .if_icmp .ge 34, 0), (15, .aload_n 0, 1, .aload_n 0, 0), (16, .aload_n 1, 1, .aload_n 1, 0), (17, .iload 6, 2, .iload 6, 0), (19, .iload_n 2, 1, .iload_n 2, 0), (20, .invokevirtual 2624, 3, .invokevirtual 86, 842), (23, .iload_n 3, 1, .iload_n 3, 0), (24, .if_icmp .le 16, 3, .if_icmp .le 16, 0), (27, .lload 4, 2, .lload 4, 0), (29, .aload_n 0, 1, .aload_n 0, 0), (30, .getfield 6, 3, .getfield 28, 381)]
def m_X0_weightLosing_r1 : List mj_I := [(33, .iload 6, 2, .iload 6, 0), (35, .iaload, 1, .iaload, 0), (36, .i2l, 1, .i2l, 0), (37, .ladd, 1, .ladd, 0), (38, .lstore 4, 2, .lstore 4, 0), (40, .iinc 6 1, 3, .iinc 6 1, 0), (43, .goto (-37), 3, .goto (-37), 0), (46, .lload 4, 2, .lload 4, 0), (48, .lreturn, 1, .lreturn, 0)]
def m_X0_weightLosing_E : List (List mj_I) := [m_X0_weightLosing_r0, m_X0_weightLosing_r1]
def m_X0_weightLosing : mj_M := (yX0_weightLosing, cX0_weightLosing, 7, (some .long), m_X0_weightLosing_E)
def m_X0_weightUnfilled_r0 : List mj_I := [(0, .lconst 0, 1, .lconst 0, 0), (1, .lstore_n 2, 1, .lstore_n 2, 0), (2, .iconst 0, 1, .iconst 0, 0), (3, .istore 4, 2, .istore 4, 0), (5, .iload 4, 2, .iload 4, 0), (7, .aload_n 0, 1, .aload_n 0, 0), (8, .getfield 2, 3, .getfield 38, 375), (11, .if_icmp .ge 37, 3, .if_icmp .ge 37, 0), (14, .aload_n 0, 1, .aload_n 0, 0), (15, .getfield 4, 3, .getfield 22, 378), (18, .iload 4, 2, .iload 4, 0), (20, .iaload, 1, .iaload, 0), (21, .invokestatic 72735, 3, .invokestatic 90, 884), (24, .aload_n 1, 1, .aload_n 1, 0), (25, .getfield 64, 3, .getfield 96, 190), (28, .if_icmp .ge 14, 3, .if_icmp .ge 14, 0), (31, .lload_n 2, 1, .lload_n 2, 0)]
def m_X0_weightUnfilled_r1 : List mj_I := [(32, .aload_n 0, 1, .aload_n 0, 0), (33, .getfield 6, 3, .getfield 28, 381), (36, .iload 4, 2, .iload 4, 0), (38, .iaload, 1, .iaload, 0), (39, .i2l, 1, .i2l, 0), (40, .ladd, 1, .ladd, 0), (41, .lstore_n 2, 1, .lstore_n 2, 0), (42, .iinc 4 1, 3, .iinc 4 1, 0), (45, .goto (-40), 3, .goto (-40), 0), (48, .lload_n 2, 1, .lload_n 2, 0), (49, .lreturn, 1, .lreturn, 0)]
def m_X0_weightUnfilled_E : List (List mj_I) := [m_X0_weightUnfilled_r0, m_X0_weightUnfilled_r1]
def m_X0_weightUnfilled : mj_M := (yX0_weightUnfilled, cX0_weightUnfilled, 5, (some .long), m_X0_weightUnfilled_E)
def m_X0_lossOf_r0 : List mj_I := [(0, .lconst 0, 1, .lconst 0, 0), (1, .lstore_n 3, 1, .lstore_n 3, 0), (2, .iconst 0, 1, .iconst 0, 0), (3, .istore 5, 2, .istore 5, 0), (5, .iload 5, 2, .iload 5, 0), (7, .aload_n 0, 1, .aload_n 0, 0), (8, .getfield 2, 3, .getfield 38, 375), (11, .if_icmp .ge 30, 3, .if_icmp .ge 30, 0), (14, .lload_n 3, 1, .lload_n 3, 0), (15, .aload_n 0, 1, .aload_n 0, 0), (16, .getfield 6, 3, .getfield 28, 381), (19, .iload 5, 2, .iload 5, 0), (21, .iaload, 1, .iaload, 0), (22, .i2l, 1, .i2l, 0), (23, .aload_n 0, 1, .aload_n 0, 0), (24, .aload_n 1, 1, .aload_n 1, 0), (25, .iload 5, 2, .iload 5, 0), (27, .iload_n 2, 1, .iload_n 2, 0), (28, .invokevirtual 2624, 3, .invokevirtual 86, 842), (31, .i2l, 1, .i2l, 0)]
def m_X0_lossOf_r1 : List mj_I := [(32, .lmul, 1, .lmul, 0), (33, .ladd, 1, .ladd, 0), (34, .lstore_n 3, 1, .lstore_n 3, 0), (35, .iinc 5 1, 3, .iinc 5 1, 0), (38, .goto (-33), 3, .goto (-33), 0), (41, .lload_n 3, 1, .lload_n 3, 0), (42, .lreturn, 1, .lreturn, 0)]
def m_X0_lossOf_E : List (List mj_I) := [m_X0_lossOf_r0, m_X0_lossOf_r1]
def m_X0_lossOf : mj_M := (yX0_lossOf, cX0_lossOf, 6, (some .long), m_X0_lossOf_E)
def m_X1_init_r0 : List mj_I := [(0, .aload_n 0, 1, .aload_n 0, 0), (1, .invokespecial 31, 3, .invokespecial 3, 186), (4, .aload_n 0, 1, .aload_n 0, 0), (5, .bipush 6, 2, .bipush 6, 0), (7, .newarray .int, 2, .newarray .int, 0), (9, .putfield 66, 3, .putfield 9, 198), (12, .aload_n 0, 1, .aload_n 0, 0), (13, .bipush 6, 2, .bipush 6, 0), (15, .newarray .int, 2, .newarray .int, 0), (17, .putfield 67, 3, .putfield 15, 201), (20, .aload_n 0, 1, .aload_n 0, 0), (21, .bipush 6, 2, .bipush 6, 0), (23, .newarray .int, 2, .newarray .int, 0), (25, .putfield 68, 3, .putfield 18, 206), (28, .aload_n 0, 1, .aload_n 0, 0), (29, .bipush 6, 2, .bipush 6, 0), (31, .newarray .int, 2, .newarray .int, 0)]
def m_X1_init_r1 : List mj_I := [(33, .putfield 69, 3, .putfield 21, 209), (36, .aload_n 0, 1, .aload_n 0, 0), (37, .bipush 6, 2, .bipush 6, 0), (39, .newarray .int, 2, .newarray .int, 0), (41, .putfield 70, 3, .putfield 24, 214), (44, .aload_n 0, 1, .aload_n 0, 0), (45, .iconst 3, 1, .iconst 3, 0), (46, .newarray .int, 2, .newarray .int, 0), (48, .putfield 77, 3, .putfield 27, 233), (51, .return_, 1, .return_, 0)]
def m_X1_init_E : List (List mj_I) := [m_X1_init_r0, m_X1_init_r1]
def m_X1_init : mj_M := (yX1_init, cX1_init, 1, none, m_X1_init_E)
def m_X1_clear_r0 : List mj_I := [(0, .aload_n 0, 1, .aload_n 0, 0), (1, .iconst 0, 1, .iconst 0, 0), (2, .putfield 64, 3, .putfield 30, 187), (5, .aload_n 0, 1, .aload_n 0, 0), (6, .iconst 0, 1, .iconst 0, 0), (7, .putfield 65, 3, .putfield 34, 194), (10, .aload_n 0, 1, .aload_n 0, 0), (11, .iconst 0, 1, .iconst 0, 0), (12, .putfield 71, 3, .putfield 37, 218), (15, .aload_n 0, 1, .aload_n 0, 0), (16, .iconst 0, 1, .iconst 0, 0), (17, .putfield 72, 3, .putfield 40, 222), (20, .aload_n 0, 1, .aload_n 0, 0), (21, .iconst 0, 1, .iconst 0, 0), (22, .putfield 73, 3, .putfield 43, 224), (25, .aload_n 0, 1, .aload_n 0, 0), (26, .iconst 0, 1, .iconst 0, 0), (27, .putfield 78, 3, .putfield 47, 236), (30, .iconst 0, 1, .iconst 0, 0), (31, .istore_n 1, 1, .istore_n 1, 0)]
def m_X1_clear_r1 : List mj_I := [(32, .iload_n 1, 1, .iload_n 1, 0), (33, .bipush 6, 2, .bipush 6, 0), (35, .if_icmp .ge 16, 3, .if_icmp .ge 16, 0), (38, .aload_n 0, 1, .aload_n 0, 0), (39, .getfield 70, 3, .getfield 24, 214), (42, .iload_n 1, 1, .iload_n 1, 0), (43, .iconst 0, 1, .iconst 0, 0), (44, .iastore, 1, .iastore, 0), (45, .iinc 1 1, 3, .iinc 1 1, 0), (48, .goto (-16), 3, .goto (-16), 0), (51, .return_, 1, .return_, 0)]
def m_X1_clear_E : List (List mj_I) := [m_X1_clear_r0, m_X1_clear_r1]
def m_X1_clear : mj_M := (yX1_clear, cX1_clear, 2, none, m_X1_clear_E)
def m_X2_init_r0 : List mj_I := [(0, .aload_n 0, 1, .aload_n 0, 0), (1, .invokespecial 31, 3, .invokespecial 3, 317), (4, .aload_n 0, 1, .aload_n 0, 0), (5, .bipush 16, 2, .bipush 16, 0), (7, .anewarray 3, 3, .anewarray 9, 318), (10, .putfield 128, 3, .putfield 11, 321), (13, .aload_n 0, 1, .aload_n 0, 0), (14, .iconst 3, 1, .iconst 3, 0), (15, .anewarray 3, 3, .anewarray 9, 318), (18, .putfield 129, 3, .putfield 17, 322), (21, .iconst 0, 1, .iconst 0, 0), (22, .istore_n 1, 1, .istore_n 1, 0), (23, .iload_n 1, 1, .iload_n 1, 0), (24, .bipush 16, 2, .bipush 16, 0), (26, .if_icmp .ge 22, 3, .if_icmp .ge 22, 0), (29, .aload_n 0, 1, .aload_n 0, 0), (30, .getfield 128, 3, .getfield 11, 321)]
def m_X2_init_r1 : List mj_I := [(33, .iload_n 1, 1, .iload_n 1, 0), (34, .new 5, 3, .new 9, 318), (37, .dup, 1, .dup, 0), (38, .invokespecial 8469, 3, .invokespecial 20, 320), (41, .aastore, 1, .aastore, 0), (42, .iinc 1 1, 3, .iinc 1 1, 0), (45, .goto (-22), 3, .goto (-22), 0), (48, .iconst 0, 1, .iconst 0, 0), (49, .istore_n 1, 1, .istore_n 1, 0), (50, .iload_n 1, 1, .iload_n 1, 0), (51, .iconst 3, 1, .iconst 3, 0), (52, .if_icmp .ge 22, 3, .if_icmp .ge 22, 0), (55, .aload_n 0, 1, .aload_n 0, 0), (56, .getfield 129, 3, .getfield 17, 322), (59, .iload_n 1, 1, .iload_n 1, 0), (60, .new 5, 3, .new 9, 318), (63, .dup, 1, .dup, 0)]
def m_X2_init_r2 : List mj_I := [(64, .invokespecial 8469, 3, .invokespecial 20, 320), (67, .aastore, 1, .aastore, 0), (68, .iinc 1 1, 3, .iinc 1 1, 0), (71, .goto (-21), 3, .goto (-21), 0), (74, .return_, 1, .return_, 0)]
def m_X2_init_E : List (List mj_I) := [m_X2_init_r0, m_X2_init_r1, m_X2_init_r2]
def m_X2_init : mj_M := (yX2_init, cX2_init, 2, none, m_X2_init_E)
def m_X2_clear_r0 : List mj_I := [(0, .aload_n 0, 1, .aload_n 0, 0), (1, .iconst 0, 1, .iconst 0, 0), (2, .putfield 131, 3, .putfield 21, 324), (5, .aload_n 0, 1, .aload_n 0, 0), (6, .iconst 0, 1, .iconst 0, 0), (7, .putfield 132, 3, .putfield 25, 326), (10, .return_, 1, .return_, 0)]
def m_X2_clear_E : List (List mj_I) := [m_X2_clear_r0]
def m_X2_clear : mj_M := (yX2_clear, cX2_clear, 1, none, m_X2_clear_E)
def m_X2_keep_r0 : List mj_I := [(0, .aload_n 0, 1, .aload_n 0, 0), (1, .getfield 128, 3, .getfield 11, 321), (4, .aload_n 0, 1, .aload_n 0, 0), (5, .getfield 130, 3, .getfield 28, 323), (8, .aaload, 1, .aaload, 0), (9, .aload_n 1, 1, .aload_n 1, 0), (10, .invokevirtual 8997, 3, .invokevirtual 31, 1058), (13, .aload_n 0, 1, .aload_n 0, 0), (14, .aload_n 0, 1, .aload_n 0, 0), (15, .getfield 130, 3, .getfield 28, 323), (18, .iconst 1, 1, .iconst 1, 0), (19, .iadd, 1, .iadd, 0), (20, .bipush 16, 2, .bipush 16, 0), (22, .irem, 1, .irem, 0), (23, .putfield 130, 3, .putfield 28, 323), (26, .aload_n 0, 1, .aload_n 0, 0), (27, .aload_n 0, 1, .aload_n 0, 0), (28, .getfield 131, 3, .getfield 21, 324), (31, .iconst 1, 1, .iconst 1, 0)]
def m_X2_keep_r1 : List mj_I := [(32, .iadd, 1, .iadd, 0), (33, .bipush 16, 2, .bipush 16, 0), (35, .invokestatic 72495, 3, .invokestatic 35, 1059), (38, .putfield 131, 3, .putfield 21, 324), (41, .return_, 1, .return_, 0)]
def m_X2_keep_E : List (List mj_I) := [m_X2_keep_r0, m_X2_keep_r1]
def m_X2_keep : mj_M := (yX2_keep, cX2_keep, 2, none, m_X2_keep_E)
def m_X2_takeBack_r0 : List mj_I := [(0, .aload_n 0, 1, .aload_n 0, 0), (1, .getfield 131, 3, .getfield 21, 324), (4, .ifCond .ne 5, 3, .ifCond .ne 5, 0), (7, .iconst 0, 1, .iconst 0, 0), (8, .ireturn, 1, .ireturn, 0), (9, .aload_n 0, 1, .aload_n 0, 0), (10, .aload_n 0, 1, .aload_n 0, 0), (11, .getfield 130, 3, .getfield 28, 323), (14, .bipush 16, 2, .bipush 16, 0), (16, .iadd, 1, .iadd, 0), (17, .iconst 1, 1, .iconst 1, 0), (18, .isub, 1, .isub, 0), (19, .bipush 16, 2, .bipush 16, 0), (21, .irem, 1, .irem, 0), (22, .putfield 130, 3, .putfield 28, 323), (25, .aload_n 0, 1, .aload_n 0, 0), (26, .dup, 1, .dup, 0), (27, .getfield 131, 3, .getfield 21, 324), (30, .iconst 1, 1, .iconst 1, 0), (31, .isub, 1, .isub, 0)]
def m_X2_takeBack_r1 : List mj_I := [(32, .putfield 131, 3, .putfield 21, 324), (35, .aload_n 1, 1, .aload_n 1, 0), (36, .aload_n 0, 1, .aload_n 0, 0), (37, .getfield 128, 3, .getfield 11, 321), (40, .aload_n 0, 1, .aload_n 0, 0), (41, .getfield 130, 3, .getfield 28, 323), (44, .aaload, 1, .aaload, 0), (45, .invokevirtual 8997, 3, .invokevirtual 31, 1058), (48, .iconst 1, 1, .iconst 1, 0), (49, .ireturn, 1, .ireturn, 0)]
def m_X2_takeBack_E : List (List mj_I) := [m_X2_takeBack_r0, m_X2_takeBack_r1]
def m_X2_takeBack : mj_M := (yX2_takeBack, cX2_takeBack, 2, (some .boolean), m_X2_takeBack_E)
def m_X2_paint_r0 : List mj_I := [(0, .aload_n 0, 1, .aload_n 0, 0), (1, .getfield 132, 3, .getfield 25, 326), (4, .iconst 3, 1, .iconst 3, 0), (5, .if_icmp .lt 5, 3, .if_icmp .lt 5, 0), (8, .iconst (-1), 1, .iconst (-1), 0), (9, .ireturn, 1, .ireturn, 0), (10, .aload_n 0, 1, .aload_n 0, 0), (11, .getfield 129, 3, .getfield 17, 322), (14, .aload_n 0, 1, .aload_n 0, 0), (15, .getfield 132, 3, .getfield 25, 326), (18, .aaload, 1, .aaload, 0), (19, .aload_n 1, 1, .aload_n 1, 0), (20, .invokevirtual 8997, 3, .invokevirtual 31, 1058), (23, .aload_n 0, 1, .aload_n 0, 0), (24, .dup, 1, .dup, 0), (25, .getfield 132, 3, .getfield 25, 326), (28, .iconst 1, 1, .iconst 1, 0), (29, .iadd, 1, .iadd, 0), (30, .putfield 132, 3, .putfield 25, 326)]
def m_X2_paint_r1 : List mj_I := [(33, .aload_n 0, 1, .aload_n 0, 0), (34, .getfield 132, 3, .getfield 25, 326), (37, .iconst 1, 1, .iconst 1, 0), (38, .isub, 1, .isub, 0), (39, .ireturn, 1, .ireturn, 0)]
def m_X2_paint_E : List (List mj_I) := [m_X2_paint_r0, m_X2_paint_r1]
def m_X2_paint : mj_M := (yX2_paint, cX2_paint, 2, (some .int), m_X2_paint_E)
def m_X2_goBack_r0 : List mj_I := [(0, .iload_n 1, 1, .iload_n 1, 0), (1, .ifCond .lt 11, 3, .ifCond .lt 11, 0), (4, .iload_n 1, 1, .iload_n 1, 0), (5, .aload_n 0, 1, .aload_n 0, 0), (6, .getfield 132, 3, .getfield 25, 326), (9, .if_icmp .lt 5, 3, .if_icmp .lt 5, 0), (12, .iconst 0, 1, .iconst 0, 0), (13, .ireturn, 1, .ireturn, 0), (14, .aload_n 2, 1, .aload_n 2, 0), (15, .aload_n 0, 1, .aload_n 0, 0), (16, .getfield 129, 3, .getfield 17, 322), (19, .iload_n 1, 1, .iload_n 1, 0), (20, .aaload, 1, .aaload, 0), (21, .invokevirtual 8997, 3, .invokevirtual 31, 1058), (24, .aload_n 0, 1, .aload_n 0, 0), (25, .iconst 0, 1, .iconst 0, 0), (26, .putfield 131, 3, .putfield 21, 324), (29, .iconst 1, 1, .iconst 1, 0), (30, .ireturn, 1, .ireturn, 0)]
def m_X2_goBack_E : List (List mj_I) := [m_X2_goBack_r0]
def m_X2_goBack : mj_M := (yX2_goBack, cX2_goBack, 3, (some .boolean), m_X2_goBack_E)
def m_X3_init_r0 : List mj_I := [(0, .aload_n 0, 1, .aload_n 0, 0), (1, .invokespecial 31, 3, .invokespecial 3, 403), (4, .aload_n 0, 1, .aload_n 0, 0), (5, .bipush 16, 2, .bipush 16, 0), (7, .newarray .long, 2, .newarray .long, 0), (9, .putfield 194, 3, .putfield 9, 408), (12, .return_, 1, .return_, 0)]
def m_X3_init_E : List (List mj_I) := [m_X3_init_r0]
def m_X3_init : mj_M := (yX3_init, cX3_init, 1, none, m_X3_init_E)
def m_X3_forget_r0 : List mj_I := [(0, .aload_n 0, 1, .aload_n 0, 0), (1, .iconst 0, 1, .iconst 0, 0), (2, .putfield 192, 3, .putfield 15, 404), (5, .aload_n 0, 1, .aload_n 0, 0), (6, .iconst 0, 1, .iconst 0, 0), (7, .putfield 193, 3, .putfield 19, 406), (10, .return_, 1, .return_, 0)]
def m_X3_forget_E : List (List mj_I) := [m_X3_forget_r0]
def m_X3_forget : mj_M := (yX3_forget, cX3_forget, 1, none, m_X3_forget_E)
def m_X3_put_r0 : List mj_I := [(0, .aload_n 0, 1, .aload_n 0, 0), (1, .dup, 1, .dup, 0), (2, .getfield 192, 3, .getfield 15, 404), (5, .iconst 1, 1, .iconst 1, 0), (6, .iload_n 1, 1, .iload_n 1, 0), (7, .ishl, 1, .ishl, 0), (8, .ior, 1, .ior, 0), (9, .putfield 192, 3, .putfield 15, 404), (12, .aload_n 0, 1, .aload_n 0, 0), (13, .getfield 194, 3, .getfield 9, 408), (16, .iload_n 1, 1, .iload_n 1, 0), (17, .lload_n 2, 1, .lload_n 2, 0), (18, .lastore, 1, .lastore, 0), (19, .iload 4, 2, .iload 4, 0), (21, .ifCond .eq 15, 3, .ifCond .eq 15, 0), (24, .aload_n 0, 1, .aload_n 0, 0), (25, .dup, 1, .dup, 0), (26, .getfield 193, 3, .getfield 19, 406), (29, .iconst 1, 1, .iconst 1, 0), (30, .iload_n 1, 1, .iload_n 1, 0), (31, .ishl, 1, .ishl, 0)]
def m_X3_put_r1 : List mj_I := [(32, .ior, 1, .ior, 0), (33, .putfield 193, 3, .putfield 19, 406), (36, .return_, 1, .return_, 0)]
def m_X3_put_E : List (List mj_I) := [m_X3_put_r0, m_X3_put_r1]
def m_X3_put : mj_M := (yX3_put, cX3_put, 5, none, m_X3_put_E)
def m_X4_init_r0 : List mj_I := [(0, .aload_n 0, 1, .aload_n 0, 0), (1, .invokespecial 31, 3, .invokespecial 3, 344), (4, .aload_n 0, 1, .aload_n 0, 0), (5, .bipush 6, 2, .bipush 6, 0), (7, .newarray .int, 2, .newarray .int, 0), (9, .putfield 259, 3, .putfield 9, 353), (12, .return_, 1, .return_, 0)]
def m_X4_init_E : List (List mj_I) := [m_X4_init_r0]
def m_X4_init : mj_M := (yX4_init, cX4_init, 1, none, m_X4_init_E)
def m_X4_run_r0 : List mj_I := [(0, .aload_n 0, 1, .aload_n 0, 0), (1, .aload_n 1, 1, .aload_n 1, 0), (2, .aload_n 2, 1, .aload_n 2, 0), (3, .iload_n 3, 1, .iload_n 3, 0), (4, .aload 4, 2, .aload 4, 0), (6, .invokevirtual 7764, 3, .invokevirtual 15, 727), (9, .aload_n 0, 1, .aload_n 0, 0), (10, .iconst 0, 1, .iconst 0, 0), (11, .putfield 257, 3, .putfield 19, 348), (14, .iconst 0, 1, .iconst 0, 0), (15, .istore 5, 2, .istore 5, 0), (17, .iload 5, 2, .iload 5, 0), (19, .bipush 6, 2, .bipush 6, 0), (21, .if_icmp .ge 18, 3, .if_icmp .ge 18, 0), (24, .aload_n 0, 1, .aload_n 0, 0), (25, .getfield 259, 3, .getfield 9, 353), (28, .iload 5, 2, .iload 5, 0), (30, .bipush (-2), 2, .bipush (-2), 0)]
def m_X4_run_r1 : List mj_I := [(32, .iastore, 1, .iastore, 0), (33, .iinc 5 1, 3, .iinc 5 1, 0), (36, .goto (-19), 3, .goto (-19), 0), (39, .iconst 0, 1, .iconst 0, 0), (40, .istore 5, 2, .istore 5, 0), (42, .iload 5, 2, .iload 5, 0), (44, .aload_n 0, 1, .aload_n 0, 0), (45, .getfield 258, 3, .getfield 23, 350), (48, .if_icmp .ge 75, 3, .if_icmp .ge 75, 0), (51, .aload 4, 2, .aload 4, 0), (53, .iload 5, 2, .iload 5, 0), (55, .iaload, 1, .iaload, 0), (56, .istore 6, 2, .istore 6, 0), (58, .aload_n 0, 1, .aload_n 0, 0), (59, .getfield 256, 3, .getfield 26, 345), (62, .iload 6, 2, .iload 6, 0)]
def m_X4_run_r2 : List mj_I := [(64, .ishr, 1, .ishr, 0), (65, .iconst 1, 1, .iconst 1, 0), (66, .iand, 1, .iand, 0), (67, .iconst 1, 1, .iconst 1, 0), (68, .if_icmp .ne 49, 3, .if_icmp .ne 49, 0), (71, .aload_n 0, 1, .aload_n 0, 0), (72, .aload_n 1, 1, .aload_n 1, 0), (73, .aload_n 2, 1, .aload_n 2, 0), (74, .iload 6, 2, .iload 6, 0), (76, .aload_n 0, 1, .aload_n 0, 0), (77, .getfield 256, 3, .getfield 26, 345), (80, .aload_n 0, 1, .aload_n 0, 0), (81, .getfield 257, 3, .getfield 19, 348), (84, .ior, 1, .ior, 0), (85, .invokevirtual 8020, 3, .invokevirtual 29, 731), (88, .istore 7, 2, .istore 7, 0), (90, .aload_n 0, 1, .aload_n 0, 0), (91, .getfield 259, 3, .getfield 9, 353), (94, .iload 6, 2, .iload 6, 0)]
def m_X4_run_r3 : List mj_I := [(96, .iload 7, 2, .iload 7, 0), (98, .iastore, 1, .iastore, 0), (99, .iload 7, 2, .iload 7, 0), (101, .ifCond .lt 16, 3, .ifCond .lt 16, 0), (104, .aload_n 0, 1, .aload_n 0, 0), (105, .dup, 1, .dup, 0), (106, .getfield 257, 3, .getfield 19, 348), (109, .iconst 1, 1, .iconst 1, 0), (110, .iload 7, 2, .iload 7, 0), (112, .ishl, 1, .ishl, 0), (113, .ior, 1, .ior, 0), (114, .putfield 257, 3, .putfield 19, 348), (117, .iinc 5 1, 3, .iinc 5 1, 0), (120, .goto (-78), 3, .goto (-78), 0), (123, .return_, 1, .return_, 0)]
def m_X4_run_E : List (List mj_I) := [m_X4_run_r0, m_X4_run_r1, m_X4_run_r2, m_X4_run_r3]
def m_X4_run : mj_M := (yX4_run, cX4_run, 8, none, m_X4_run_E)
def m_X4_callMen_r0 : List mj_I := [(0, .aload_n 0, 1, .aload_n 0, 0), (1, .iconst 0, 1, .iconst 0, 0), (2, .putfield 256, 3, .putfield 26, 345), (5, .aload_n 0, 1, .aload_n 0, 0), (6, .iconst 0, 1, .iconst 0, 0), (7, .putfield 258, 3, .putfield 23, 350), (10, .iconst 0, 1, .iconst 0, 0), (11, .istore 5, 2, .istore 5, 0), (13, .aload_n 0, 1, .aload_n 0, 0), (14, .getfield 258, 3, .getfield 23, 350), (17, .aload_n 1, 1, .aload_n 1, 0), (18, .getfield 65, 3, .getfield 33, 195), (21, .if_icmp .ge 79, 3, .if_icmp .ge 79, 0), (24, .iload 5, 2, .iload 5, 0), (26, .aload_n 1, 1, .aload_n 1, 0), (27, .getfield 64, 3, .getfield 38, 188), (30, .if_icmp .ge 70, 3, .if_icmp .ge 70, 0)]
def m_X4_callMen_r1 : List mj_I := [(33, .aload 4, 2, .aload 4, 0), (35, .aload_n 0, 1, .aload_n 0, 0), (36, .getfield 258, 3, .getfield 23, 350), (39, .iaload, 1, .iaload, 0), (40, .istore 6, 2, .istore 6, 0), (42, .iload_n 3, 1, .iload_n 3, 0), (43, .aload_n 2, 1, .aload_n 2, 0), (44, .getfield 320, 3, .getfield 41, 278), (47, .iload 6, 2, .iload 6, 0), (49, .iaload, 1, .iaload, 0), (50, .ishr, 1, .ishr, 0), (51, .iconst 1, 1, .iconst 1, 0), (52, .iand, 1, .iand, 0), (53, .ifCond .ne 34, 3, .ifCond .ne 34, 0), (56, .aload_n 1, 1, .aload_n 1, 0), (57, .getfield 70, 3, .getfield 46, 215), (60, .iload 6, 2, .iload 6, 0), (62, .iaload, 1, .iaload, 0), (63, .aload_n 0, 1, .aload_n 0, 0)]
def m_X4_callMen_r2 : List mj_I := [(64, .getfield 256, 3, .getfield 26, 345), (67, .iand, 1, .iand, 0), (68, .ifCond .ne 19, 3, .ifCond .ne 19, 0), (71, .aload_n 0, 1, .aload_n 0, 0), (72, .dup, 1, .dup, 0), (73, .getfield 256, 3, .getfield 26, 345), (76, .iconst 1, 1, .iconst 1, 0), (77, .iload 6, 2, .iload 6, 0), (79, .ishl, 1, .ishl, 0), (80, .ior, 1, .ior, 0), (81, .putfield 256, 3, .putfield 26, 345), (84, .iinc 5 1, 3, .iinc 5 1, 0), (87, .aload_n 0, 1, .aload_n 0, 0), (88, .dup, 1, .dup, 0), (89, .getfield 258, 3, .getfield 23, 350), (92, .iconst 1, 1, .iconst 1, 0), (93, .iadd, 1, .iadd, 0), (94, .putfield 258, 3, .putfield 23, 350)]
def m_X4_callMen_r3 : List mj_I := [(97, .goto (-84), 3, .goto (-84), 0), (100, .return_, 1, .return_, 0)]
def m_X4_callMen_E : List (List mj_I) := [m_X4_callMen_r0, m_X4_callMen_r1, m_X4_callMen_r2, m_X4_callMen_r3]
def m_X4_callMen : mj_M := (yX4_callMen, cX4_callMen, 7, none, m_X4_callMen_E)
def m_X4_cheapest_r0 : List mj_I := [(0, .bipush (-2), 2, .bipush (-2), 0), (2, .istore 5, 2, .istore 5, 0), (4, .aload_n 2, 1, .aload_n 2, 0), (5, .getfield 321, 3, .getfield 49, 281), (8, .iload_n 3, 1, .iload_n 3, 0), (9, .iaload, 1, .iaload, 0), (10, .aload_n 1, 1, .aload_n 1, 0), (11, .getfield 67, 3, .getfield 52, 202), (14, .iload_n 3, 1, .iload_n 3, 0), (15, .iaload, 1, .iaload, 0), (16, .iconst 1, 1, .iconst 1, 0), (17, .isub, 1, .isub, 0), (18, .invokestatic 72495, 3, .invokestatic 55, 710), (21, .istore 6, 2, .istore 6, 0), (23, .iconst 0, 1, .iconst 0, 0), (24, .istore 7, 2, .istore 7, 0), (26, .iload 7, 2, .iload 7, 0), (28, .aload_n 1, 1, .aload_n 1, 0), (29, .getfield 65, 3, .getfield 33, 195)]
def m_X4_cheapest_r1 : List mj_I := [(32, .if_icmp .ge 57, 3, .if_icmp .ge 57, 0), (35, .iload 4, 2, .iload 4, 0), (37, .iload 7, 2, .iload 7, 0), (39, .ishr, 1, .ishr, 0), (40, .iconst 1, 1, .iconst 1, 0), (41, .iand, 1, .iand, 0), (42, .ifCond .ne 41, 3, .ifCond .ne 41, 0), (45, .aload_n 2, 1, .aload_n 2, 0), (46, .getfield 320, 3, .getfield 41, 278), (49, .iload 7, 2, .iload 7, 0), (51, .iaload, 1, .iaload, 0), (52, .iconst 3, 1, .iconst 3, 0), (53, .if_icmp .eq 30, 3, .if_icmp .eq 30, 0), (56, .aload_n 1, 1, .aload_n 1, 0), (57, .getfield 69, 3, .getfield 61, 210), (60, .iload 7, 2, .iload 7, 0), (62, .iaload, 1, .iaload, 0), (63, .iload 6, 2, .iload 6, 0)]
def m_X4_cheapest_r2 : List mj_I := [(65, .if_icmp .gt 18, 3, .if_icmp .gt 18, 0), (68, .iload 7, 2, .iload 7, 0), (70, .istore 5, 2, .istore 5, 0), (72, .aload_n 1, 1, .aload_n 1, 0), (73, .getfield 69, 3, .getfield 61, 210), (76, .iload 7, 2, .iload 7, 0), (78, .iaload, 1, .iaload, 0), (79, .iconst 1, 1, .iconst 1, 0), (80, .isub, 1, .isub, 0), (81, .istore 6, 2, .istore 6, 0), (83, .iinc 7 1, 3, .iinc 7 1, 0), (86, .goto (-60), 3, .goto (-60), 0), (89, .iload 5, 2, .iload 5, 0), (91, .ireturn, 1, .ireturn, 0)]
def m_X4_cheapest_E : List (List mj_I) := [m_X4_cheapest_r0, m_X4_cheapest_r1, m_X4_cheapest_r2]
def m_X4_cheapest : mj_M := (yX4_cheapest, cX4_cheapest, 8, (some .int), m_X4_cheapest_E)
def m_X4_lost_r0 : List mj_I := [(0, .aload_n 0, 1, .aload_n 0, 0), (1, .getfield 256, 3, .getfield 26, 345), (4, .iload_n 2, 1, .iload_n 2, 0), (5, .ishr, 1, .ishr, 0), (6, .iconst 1, 1, .iconst 1, 0), (7, .iand, 1, .iand, 0), (8, .ifCond .ne 5, 3, .ifCond .ne 5, 0), (11, .iconst 0, 1, .iconst 0, 0), (12, .ireturn, 1, .ireturn, 0), (13, .aload_n 0, 1, .aload_n 0, 0), (14, .getfield 259, 3, .getfield 9, 353), (17, .iload_n 2, 1, .iload_n 2, 0), (18, .iaload, 1, .iaload, 0), (19, .ifCond .ge 12, 3, .ifCond .ge 12, 0), (22, .aload_n 1, 1, .aload_n 1, 0), (23, .getfield 67, 3, .getfield 52, 202), (26, .iload_n 2, 1, .iload_n 2, 0), (27, .iaload, 1, .iaload, 0), (28, .goto 14, 3, .goto 14, 0), (31, .aload_n 1, 1, .aload_n 1, 0)]
def m_X4_lost_r1 : List mj_I := [(32, .getfield 69, 3, .getfield 61, 210), (35, .aload_n 0, 1, .aload_n 0, 0), (36, .getfield 259, 3, .getfield 9, 353), (39, .iload_n 2, 1, .iload_n 2, 0), (40, .iaload, 1, .iaload, 0), (41, .iaload, 1, .iaload, 0), (42, .ireturn, 1, .ireturn, 0)]
def m_X4_lost_E : List (List mj_I) := [m_X4_lost_r0, m_X4_lost_r1]
def m_X4_lost : mj_M := (yX4_lost, cX4_lost, 3, (some .int), m_X4_lost_E)
def m_X5_init_r0 : List mj_I := [(0, .aload_n 0, 1, .aload_n 0, 0), (1, .invokespecial 31, 3, .invokespecial 3, 276), (4, .aload_n 0, 1, .aload_n 0, 0), (5, .bipush 6, 2, .bipush 6, 0), (7, .newarray .int, 2, .newarray .int, 0), (9, .putfield 320, 3, .putfield 9, 277), (12, .aload_n 0, 1, .aload_n 0, 0), (13, .bipush 6, 2, .bipush 6, 0), (15, .newarray .int, 2, .newarray .int, 0), (17, .putfield 321, 3, .putfield 15, 280), (20, .aload_n 0, 1, .aload_n 0, 0), (21, .bipush 6, 2, .bipush 6, 0), (23, .newarray .int, 2, .newarray .int, 0), (25, .putfield 322, 3, .putfield 18, 283), (28, .aload_n 0, 1, .aload_n 0, 0), (29, .bipush 6, 2, .bipush 6, 0), (31, .newarray .int, 2, .newarray .int, 0)]
def m_X5_init_r1 : List mj_I := [(33, .putfield 323, 3, .putfield 21, 285), (36, .return_, 1, .return_, 0)]
def m_X5_init_E : List (List mj_I) := [m_X5_init_r0, m_X5_init_r1]
def m_X5_init : mj_M := (yX5_init, cX5_init, 1, none, m_X5_init_E)
def m_X5_begin_r0 : List mj_I := [(0, .aload_n 0, 1, .aload_n 0, 0), (1, .aload_n 1, 1, .aload_n 1, 0), (2, .getfield 72, 3, .getfield 24, 221), (5, .putfield 324, 3, .putfield 30, 287), (8, .aload_n 0, 1, .aload_n 0, 0), (9, .iconst 0, 1, .iconst 0, 0), (10, .putfield 325, 3, .putfield 31, 289), (13, .aload_n 0, 1, .aload_n 0, 0), (14, .iconst 0, 1, .iconst 0, 0), (15, .putfield 326, 3, .putfield 34, 291), (18, .aload_n 0, 1, .aload_n 0, 0), (19, .iconst 0, 1, .iconst 0, 0), (20, .putfield 327, 3, .putfield 37, 293), (23, .iconst 0, 1, .iconst 0, 0), (24, .istore_n 2, 1, .istore_n 2, 0), (25, .iload_n 2, 1, .iload_n 2, 0), (26, .bipush 6, 2, .bipush 6, 0), (28, .if_icmp .ge 48, 3, .if_icmp .ge 48, 0), (31, .aload_n 0, 1, .aload_n 0, 0)]
def m_X5_begin_r1 : List mj_I := [(32, .getfield 320, 3, .getfield 9, 277), (35, .iload_n 2, 1, .iload_n 2, 0), (36, .aload_n 1, 1, .aload_n 1, 0), (37, .getfield 66, 3, .getfield 40, 199), (40, .iload_n 2, 1, .iload_n 2, 0), (41, .iaload, 1, .iaload, 0), (42, .iastore, 1, .iastore, 0), (43, .aload_n 0, 1, .aload_n 0, 0), (44, .getfield 321, 3, .getfield 15, 280), (47, .iload_n 2, 1, .iload_n 2, 0), (48, .aload_n 1, 1, .aload_n 1, 0), (49, .getfield 68, 3, .getfield 41, 207), (52, .iload_n 2, 1, .iload_n 2, 0), (53, .iaload, 1, .iaload, 0), (54, .iastore, 1, .iastore, 0), (55, .aload_n 0, 1, .aload_n 0, 0), (56, .getfield 322, 3, .getfield 18, 283), (59, .iload_n 2, 1, .iload_n 2, 0), (60, .iload_n 2, 1, .iload_n 2, 0), (61, .iastore, 1, .iastore, 0), (62, .aload_n 0, 1, .aload_n 0, 0), (63, .getfield 323, 3, .getfield 21, 285)]
def m_X5_begin_r2 : List mj_I := [(66, .iload_n 2, 1, .iload_n 2, 0), (67, .bipush (-2), 2, .bipush (-2), 0), (69, .iastore, 1, .iastore, 0), (70, .iinc 2 1, 3, .iinc 2 1, 0), (73, .goto (-48), 3, .goto (-48), 0), (76, .return_, 1, .return_, 0)]
def m_X5_begin_E : List (List mj_I) := [m_X5_begin_r0, m_X5_begin_r1, m_X5_begin_r2]
def m_X5_begin : mj_M := (yX5_begin, cX5_begin, 3, none, m_X5_begin_E)
def m_X5_take_r0 : List mj_I := [(0, .aload_n 0, 1, .aload_n 0, 0), (1, .aload_n 1, 1, .aload_n 1, 0), (2, .getfield 324, 3, .getfield 30, 287), (5, .putfield 324, 3, .putfield 30, 287), (8, .aload_n 0, 1, .aload_n 0, 0), (9, .aload_n 1, 1, .aload_n 1, 0), (10, .getfield 325, 3, .getfield 31, 289), (13, .putfield 325, 3, .putfield 31, 289), (16, .aload_n 0, 1, .aload_n 0, 0), (17, .aload_n 1, 1, .aload_n 1, 0), (18, .getfield 326, 3, .getfield 34, 291), (21, .putfield 326, 3, .putfield 34, 291), (24, .aload_n 0, 1, .aload_n 0, 0), (25, .aload_n 1, 1, .aload_n 1, 0), (26, .getfield 327, 3, .getfield 37, 293), (29, .putfield 327, 3, .putfield 37, 293)]
def m_X5_take_r1 : List mj_I := [(32, .iconst 0, 1, .iconst 0, 0), (33, .istore_n 2, 1, .istore_n 2, 0), (34, .iload_n 2, 1, .iload_n 2, 0), (35, .bipush 6, 2, .bipush 6, 0), (37, .if_icmp .ge 57, 3, .if_icmp .ge 57, 0), (40, .aload_n 0, 1, .aload_n 0, 0), (41, .getfield 320, 3, .getfield 9, 277), (44, .iload_n 2, 1, .iload_n 2, 0), (45, .aload_n 1, 1, .aload_n 1, 0), (46, .getfield 320, 3, .getfield 9, 277), (49, .iload_n 2, 1, .iload_n 2, 0), (50, .iaload, 1, .iaload, 0), (51, .iastore, 1, .iastore, 0), (52, .aload_n 0, 1, .aload_n 0, 0), (53, .getfield 321, 3, .getfield 15, 280), (56, .iload_n 2, 1, .iload_n 2, 0), (57, .aload_n 1, 1, .aload_n 1, 0), (58, .getfield 321, 3, .getfield 15, 280), (61, .iload_n 2, 1, .iload_n 2, 0), (62, .iaload, 1, .iaload, 0), (63, .iastore, 1, .iastore, 0)]
def m_X5_take_r2 : List mj_I := [(64, .aload_n 0, 1, .aload_n 0, 0), (65, .getfield 322, 3, .getfield 18, 283), (68, .iload_n 2, 1, .iload_n 2, 0), (69, .aload_n 1, 1, .aload_n 1, 0), (70, .getfield 322, 3, .getfield 18, 283), (73, .iload_n 2, 1, .iload_n 2, 0), (74, .iaload, 1, .iaload, 0), (75, .iastore, 1, .iastore, 0), (76, .aload_n 0, 1, .aload_n 0, 0), (77, .getfield 323, 3, .getfield 21, 285), (80, .iload_n 2, 1, .iload_n 2, 0), (81, .aload_n 1, 1, .aload_n 1, 0), (82, .getfield 323, 3, .getfield 21, 285), (85, .iload_n 2, 1, .iload_n 2, 0), (86, .iaload, 1, .iaload, 0), (87, .iastore, 1, .iastore, 0), (88, .iinc 2 1, 3, .iinc 2 1, 0), (91, .goto (-57), 3, .goto (-57), 0), (94, .return_, 1, .return_, 0)]
def m_X5_take_E : List (List mj_I) := [m_X5_take_r0, m_X5_take_r1, m_X5_take_r2]
def m_X5_take : mj_M := (yX5_take, cX5_take, 3, none, m_X5_take_E)
def m_X6_init_r0 : List mj_I := [(0, .aload_n 0, 1, .aload_n 0, 0), (1, .invokespecial 31, 3, .invokespecial 3, 138), (4, .aload_n 0, 1, .aload_n 0, 0), (5, .sipush 800, 3, .sipush 800, 0), (8, .newarray .byte, 2, .newarray .byte, 0), (10, .putfield 384, 3, .putfield 9, 139), (13, .aload_n 0, 1, .aload_n 0, 0), (14, .bipush 6, 2, .bipush 6, 0), (16, .newarray .int, 2, .newarray .int, 0), (18, .putfield 394, 3, .putfield 15, 152), (21, .aload_n 0, 1, .aload_n 0, 0), (22, .bipush 6, 2, .bipush 6, 0), (24, .newarray .int, 2, .newarray .int, 0), (26, .putfield 395, 3, .putfield 19, 153), (29, .return_, 1, .return_, 0)]
def m_X6_init_E : List (List mj_I) := [m_X6_init_r0]
def m_X6_init : mj_M := (yX6_init, cX6_init, 1, none, m_X6_init_E)
def m_X6_hasRoom_r0 : List mj_I := [(0, .aload_n 0, 1, .aload_n 0, 0), (1, .getfield 385, 3, .getfield 22, 140), (4, .iload_n 1, 1, .iload_n 1, 0), (5, .iadd, 1, .iadd, 0), (6, .sipush 800, 3, .sipush 800, 0), (9, .if_icmp .gt 7, 3, .if_icmp .gt 7, 0), (12, .iconst 1, 1, .iconst 1, 0), (13, .goto 4, 3, .goto 4, 0), (16, .iconst 0, 1, .iconst 0, 0), (17, .ireturn, 1, .ireturn, 0)]
def m_X6_hasRoom_E : List (List mj_I) := [m_X6_hasRoom_r0]
def m_X6_hasRoom : mj_M := (yX6_hasRoom, cX6_hasRoom, 2, (some .boolean), m_X6_hasRoom_E)
def m_X6_put_r0 : List mj_I := [(0, .bipush 24, 2, .bipush 24, 0), (2, .istore_n 2, 1, .istore_n 2, 0), (3, .iload_n 2, 1, .iload_n 2, 0), (4, .ifCond .lt 42, 3, .ifCond .lt 42, 0), (7, .aload_n 0, 1, .aload_n 0, 0), (8, .getfield 385, 3, .getfield 22, 140), (11, .sipush 800, 3, .sipush 800, 0), (14, .if_icmp .ge 32, 3, .if_icmp .ge 32, 0), (17, .aload_n 0, 1, .aload_n 0, 0), (18, .getfield 384, 3, .getfield 9, 139), (21, .aload_n 0, 1, .aload_n 0, 0), (22, .getfield 385, 3, .getfield 22, 140), (25, .iload_n 1, 1, .iload_n 1, 0), (26, .iload_n 2, 1, .iload_n 2, 0), (27, .ishr, 1, .ishr, 0), (28, .i2b, 1, .i2b, 0), (29, .bastore, 1, .bastore, 0), (30, .aload_n 0, 1, .aload_n 0, 0), (31, .dup, 1, .dup, 0)]
def m_X6_put_r1 : List mj_I := [(32, .getfield 385, 3, .getfield 22, 140), (35, .iconst 1, 1, .iconst 1, 0), (36, .iadd, 1, .iadd, 0), (37, .putfield 385, 3, .putfield 22, 140), (40, .iinc 2 (-8), 3, .iinc 2 (-8), 0), (43, .goto (-40), 3, .goto (-40), 0), (46, .return_, 1, .return_, 0)]
def m_X6_put_E : List (List mj_I) := [m_X6_put_r0, m_X6_put_r1]
def m_X6_put : mj_M := (yX6_put, cX6_put, 3, none, m_X6_put_E)
def m_X6_read_r0 : List mj_I := [(0, .aload_n 0, 1, .aload_n 0, 0), (1, .iload_n 1, 1, .iload_n 1, 0), (2, .aload_n 0, 1, .aload_n 0, 0), (3, .getfield 385, 3, .getfield 22, 140), (6, .invokestatic 72495, 3, .invokestatic 26, 508), (9, .putfield 388, 3, .putfield 32, 146), (12, .aload_n 0, 1, .aload_n 0, 0), (13, .iconst 0, 1, .iconst 0, 0), (14, .putfield 385, 3, .putfield 22, 140), (17, .aload_n 0, 1, .aload_n 0, 0), (18, .iconst 0, 1, .iconst 0, 0), (19, .putfield 390, 3, .putfield 35, 148), (22, .aload_n 0, 1, .aload_n 0, 0), (23, .iconst 0, 1, .iconst 0, 0), (24, .putfield 386, 3, .putfield 38, 143), (27, .aload_n 0, 1, .aload_n 0, 0), (28, .iconst 0, 1, .iconst 0, 0), (29, .putfield 392, 3, .putfield 41, 150)]
def m_X6_read_r1 : List mj_I := [(32, .aload_n 2, 1, .aload_n 2, 0), (33, .invokevirtual 4625, 3, .invokevirtual 45, 511), (36, .aload_n 0, 1, .aload_n 0, 0), (37, .invokevirtual 10518, 3, .invokevirtual 50, 515), (40, .iconst 0, 1, .iconst 0, 0), (41, .istore_n 3, 1, .istore_n 3, 0), (42, .iload_n 3, 1, .iload_n 3, 0), (43, .sipush 800, 3, .sipush 800, 0), (46, .if_icmp .gt 66, 3, .if_icmp .gt 66, 0), (49, .aload_n 0, 1, .aload_n 0, 0), (50, .aload_n 2, 1, .aload_n 2, 0), (51, .invokevirtual 11302, 3, .invokevirtual 53, 526), (54, .ifCond .ne 5, 3, .ifCond .ne 5, 0), (57, .iconst 0, 1, .iconst 0, 0), (58, .ireturn, 1, .ireturn, 0), (59, .aload_n 0, 1, .aload_n 0, 0), (60, .getfield 391, 3, .getfield 57, 149), (63, .ifCond .ne 25, 3, .ifCond .ne 25, 0)]
def m_X6_read_r2 : List mj_I := [(66, .aload_n 2, 1, .aload_n 2, 0), (67, .getfield 65, 3, .getfield 60, 197), (70, .ifCond .gt 12, 3, .ifCond .gt 12, 0), (73, .aload_n 0, 1, .aload_n 0, 0), (74, .bipush 6, 2, .bipush 6, 0), (76, .invokevirtual 10278, 3, .invokevirtual 63, 592), (79, .ifCond .eq 7, 3, .ifCond .eq 7, 0), (82, .iconst 1, 1, .iconst 1, 0), (83, .goto 4, 3, .goto 4, 0), (86, .iconst 0, 1, .iconst 0, 0), (87, .ireturn, 1, .ireturn, 0), (88, .aload_n 0, 1, .aload_n 0, 0), (89, .getfield 391, 3, .getfield 57, 149), (92, .iconst 3, 1, .iconst 3, 0), (93, .if_icmp .eq 9, 3, .if_icmp .eq 9, 0)]
def m_X6_read_r3 : List mj_I := [(96, .aload_n 0, 1, .aload_n 0, 0), (97, .iconst 1, 1, .iconst 1, 0), (98, .invokevirtual 10278, 3, .invokevirtual 63, 592), (101, .ireturn, 1, .ireturn, 0), (102, .aload_n 0, 1, .aload_n 0, 0), (103, .invokevirtual 10518, 3, .invokevirtual 50, 515), (106, .iinc 3 1, 3, .iinc 3 1, 0), (109, .goto (-67), 3, .goto (-67), 0), (112, .aload_n 0, 1, .aload_n 0, 0), (113, .iconst 1, 1, .iconst 1, 0), (114, .invokevirtual 10278, 3, .invokevirtual 63, 592), (117, .ireturn, 1, .ireturn, 0)]
def m_X6_read_E : List (List mj_I) := [m_X6_read_r0, m_X6_read_r1, m_X6_read_r2, m_X6_read_r3]
def m_X6_read : mj_M := (yX6_read, cX6_read, 4, (some .boolean), m_X6_read_E)
def m_X6_fail_r0 : List mj_I := [(0, .aload_n 0, 1, .aload_n 0, 0), (1, .iload_n 1, 1, .iload_n 1, 0), (2, .putfield 386, 3, .putfield 38, 143), (5, .aload_n 0, 1, .aload_n 0, 0), (6, .aload_n 0, 1, .aload_n 0, 0), (7, .getfield 389, 3, .getfield 67, 147), (10, .putfield 387, 3, .putfield 70, 144), (13, .iconst 0, 1, .iconst 0, 0), (14, .ireturn, 1, .ireturn, 0)]
def m_X6_fail_E : List (List mj_I) := [m_X6_fail_r0]
def m_X6_fail : mj_M := (yX6_fail, cX6_fail, 2, (some .boolean), m_X6_fail_E)
def m_X6_step_r0 : List mj_I := [(0, .aload_n 0, 1, .aload_n 0, 0), (1, .getfield 390, 3, .getfield 35, 148), (4, .istore_n 1, 1, .istore_n 1, 0), (5, .iload_n 1, 1, .iload_n 1, 0), (6, .aload_n 0, 1, .aload_n 0, 0), (7, .getfield 388, 3, .getfield 32, 146), (10, .if_icmp .ge 20, 3, .if_icmp .ge 20, 0), (13, .aload_n 0, 1, .aload_n 0, 0), (14, .getfield 384, 3, .getfield 9, 139), (17, .iload_n 1, 1, .iload_n 1, 0), (18, .baload, 1, .baload, 0), (19, .bipush 32, 2, .bipush 32, 0), (21, .if_icmp .ne 9, 3, .if_icmp .ne 9, 0), (24, .iinc 1 1, 3, .iinc 1 1, 0), (27, .goto (-22), 3, .goto (-22), 0), (30, .aload_n 0, 1, .aload_n 0, 0), (31, .iload_n 1, 1, .iload_n 1, 0)]
def m_X6_step_r1 : List mj_I := [(32, .putfield 389, 3, .putfield 67, 147), (35, .aload_n 0, 1, .aload_n 0, 0), (36, .iconst 0, 1, .iconst 0, 0), (37, .putfield 391, 3, .putfield 57, 149), (40, .iload_n 1, 1, .iload_n 1, 0), (41, .aload_n 0, 1, .aload_n 0, 0), (42, .getfield 388, 3, .getfield 32, 146), (45, .if_icmp .ge 128, 3, .if_icmp .ge 128, 0), (48, .aload_n 0, 1, .aload_n 0, 0), (49, .getfield 384, 3, .getfield 9, 139), (52, .iload_n 1, 1, .iload_n 1, 0), (53, .baload, 1, .baload, 0), (54, .bipush 59, 2, .bipush 59, 0), (56, .if_icmp .ne 14, 3, .if_icmp .ne 14, 0), (59, .aload_n 0, 1, .aload_n 0, 0), (60, .iconst 3, 1, .iconst 3, 0), (61, .putfield 391, 3, .putfield 57, 149)]
def m_X6_step_r2 : List mj_I := [(64, .iinc 1 1, 3, .iinc 1 1, 0), (67, .goto 106, 3, .goto 106, 0), (70, .aload_n 0, 1, .aload_n 0, 0), (71, .getfield 384, 3, .getfield 9, 139), (74, .iload_n 1, 1, .iload_n 1, 0), (75, .baload, 1, .baload, 0), (76, .bipush 97, 2, .bipush 97, 0), (78, .bipush 122, 2, .bipush 122, 0), (80, .invokestatic 10806, 3, .invokestatic 73, 519), (83, .ifCond .eq 35, 3, .ifCond .eq 35, 0), (86, .aload_n 0, 1, .aload_n 0, 0), (87, .bipush 97, 2, .bipush 97, 0), (89, .bipush 122, 2, .bipush 122, 0), (91, .invokevirtual 11062, 3, .invokevirtual 77, 522), (94, .istore_n 1, 1, .istore_n 1, 0), (95, .aload_n 0, 1, .aload_n 0, 0)]
def m_X6_step_r3 : List mj_I := [(96, .iload_n 1, 1, .iload_n 1, 0), (97, .aload_n 0, 1, .aload_n 0, 0), (98, .getfield 389, 3, .getfield 67, 147), (101, .isub, 1, .isub, 0), (102, .bipush 8, 2, .bipush 8, 0), (104, .if_icmp .gt 7, 3, .if_icmp .gt 7, 0), (107, .iconst 1, 1, .iconst 1, 0), (108, .goto 4, 3, .goto 4, 0), (111, .iconst 4, 1, .iconst 4, 0), (112, .putfield 391, 3, .putfield 57, 149), (115, .goto 58, 3, .goto 58, 0), (118, .aload_n 0, 1, .aload_n 0, 0), (119, .getfield 384, 3, .getfield 9, 139), (122, .iload_n 1, 1, .iload_n 1, 0), (123, .baload, 1, .baload, 0), (124, .bipush 48, 2, .bipush 48, 0), (126, .bipush 57, 2, .bipush 57, 0)]
def m_X6_step_r4 : List mj_I := [(128, .invokestatic 10806, 3, .invokestatic 73, 519), (131, .ifCond .eq 34, 3, .ifCond .eq 34, 0), (134, .aload_n 0, 1, .aload_n 0, 0), (135, .bipush 48, 2, .bipush 48, 0), (137, .bipush 57, 2, .bipush 57, 0), (139, .invokevirtual 11062, 3, .invokevirtual 77, 522), (142, .istore_n 1, 1, .istore_n 1, 0), (143, .aload_n 0, 1, .aload_n 0, 0), (144, .iload_n 1, 1, .iload_n 1, 0), (145, .aload_n 0, 1, .aload_n 0, 0), (146, .getfield 389, 3, .getfield 67, 147), (149, .isub, 1, .isub, 0), (150, .iconst 3, 1, .iconst 3, 0), (151, .if_icmp .gt 7, 3, .if_icmp .gt 7, 0), (154, .iconst 2, 1, .iconst 2, 0), (155, .goto 4, 3, .goto 4, 0), (158, .iconst 4, 1, .iconst 4, 0), (159, .putfield 391, 3, .putfield 57, 149)]
def m_X6_step_r5 : List mj_I := [(162, .goto 11, 3, .goto 11, 0), (165, .aload_n 0, 1, .aload_n 0, 0), (166, .iconst 4, 1, .iconst 4, 0), (167, .putfield 391, 3, .putfield 57, 149), (170, .iinc 1 1, 3, .iinc 1 1, 0), (173, .aload_n 0, 1, .aload_n 0, 0), (174, .iload_n 1, 1, .iload_n 1, 0), (175, .putfield 390, 3, .putfield 35, 148), (178, .return_, 1, .return_, 0)]
def m_X6_step_E : List (List mj_I) := [m_X6_step_r0, m_X6_step_r1, m_X6_step_r2, m_X6_step_r3, m_X6_step_r4, m_X6_step_r5]
def m_X6_step : mj_M := (yX6_step, cX6_step, 2, none, m_X6_step_E)
def m_X6_isBetween_r0 : List mj_I := [(0, .iload_n 0, 1, .iload_n 0, 0), (1, .iload_n 1, 1, .iload_n 1, 0), (2, .if_icmp .lt 12, 3, .if_icmp .lt 12, 0), (5, .iload_n 0, 1, .iload_n 0, 0), (6, .iload_n 2, 1, .iload_n 2, 0), (7, .if_icmp .gt 7, 3, .if_icmp .gt 7, 0), (10, .iconst 1, 1, .iconst 1, 0), (11, .goto 4, 3, .goto 4, 0), (14, .iconst 0, 1, .iconst 0, 0), (15, .ireturn, 1, .ireturn, 0)]
def m_X6_isBetween_E : List (List mj_I) := [m_X6_isBetween_r0]
def m_X6_isBetween : mj_M := (yX6_isBetween, cX6_isBetween, 3, (some .boolean), m_X6_isBetween_E)
def m_X6_runEnd_r0 : List mj_I := [(0, .aload_n 0, 1, .aload_n 0, 0), (1, .getfield 389, 3, .getfield 67, 147), (4, .istore_n 3, 1, .istore_n 3, 0), (5, .iload_n 3, 1, .iload_n 3, 0), (6, .aload_n 0, 1, .aload_n 0, 0), (7, .getfield 388, 3, .getfield 32, 146), (10, .if_icmp .ge 23, 3, .if_icmp .ge 23, 0), (13, .aload_n 0, 1, .aload_n 0, 0), (14, .getfield 384, 3, .getfield 9, 139), (17, .iload_n 3, 1, .iload_n 3, 0), (18, .baload, 1, .baload, 0), (19, .iload_n 1, 1, .iload_n 1, 0), (20, .iload_n 2, 1, .iload_n 2, 0), (21, .invokestatic 10806, 3, .invokestatic 73, 519), (24, .ifCond .eq 9, 3, .ifCond .eq 9, 0), (27, .iinc 3 1, 3, .iinc 3 1, 0), (30, .goto (-25), 3, .goto (-25), 0)]
def m_X6_runEnd_r1 : List mj_I := [(33, .iload_n 3, 1, .iload_n 3, 0), (34, .ireturn, 1, .ireturn, 0)]
def m_X6_runEnd_E : List (List mj_I) := [m_X6_runEnd_r0, m_X6_runEnd_r1]
def m_X6_runEnd : mj_M := (yX6_runEnd, cX6_runEnd, 4, (some .int), m_X6_runEnd_E)
def m_X6_readLine_r0 : List mj_I := [(0, .aload_n 0, 1, .aload_n 0, 0), (1, .invokevirtual 11542, 3, .invokevirtual 80, 530), (4, .istore_n 2, 1, .istore_n 2, 0), (5, .iload_n 2, 1, .iload_n 2, 0), (6, .ifCond .eq 9, 3, .ifCond .eq 9, 0), (9, .iload_n 2, 1, .iload_n 2, 0), (10, .bipush 7, 2, .bipush 7, 0), (12, .if_icmp .ne 9, 3, .if_icmp .ne 9, 0), (15, .aload_n 0, 1, .aload_n 0, 0), (16, .iconst 1, 1, .iconst 1, 0), (17, .invokevirtual 10278, 3, .invokevirtual 63, 592), (20, .ireturn, 1, .ireturn, 0), (21, .iload_n 2, 1, .iload_n 2, 0), (22, .iconst 1, 1, .iconst 1, 0), (23, .if_icmp .eq 17, 3, .if_icmp .eq 17, 0), (26, .aload_n 0, 1, .aload_n 0, 0), (27, .getfield 392, 3, .getfield 41, 150), (30, .ifCond .ne 10, 3, .ifCond .ne 10, 0)]
def m_X6_readLine_r1 : List mj_I := [(33, .aload_n 0, 1, .aload_n 0, 0), (34, .bipush 6, 2, .bipush 6, 0), (36, .invokevirtual 10278, 3, .invokevirtual 63, 592), (39, .ireturn, 1, .ireturn, 0), (40, .iload_n 2, 1, .iload_n 2, 0), (41, .tableswitch 65 1 5 #[35, 41, 47, 53, 59], 35, .tableswitch 65 1 5 #[35, 41, 47, 53, 59], 0)]
def m_X6_readLine_r2 : List mj_I := [(76, .aload_n 0, 1, .aload_n 0, 0), (77, .aload_n 1, 1, .aload_n 1, 0), (78, .invokevirtual 11814, 3, .invokevirtual 84, 596), (81, .ireturn, 1, .ireturn, 0), (82, .aload_n 0, 1, .aload_n 0, 0), (83, .aload_n 1, 1, .aload_n 1, 0), (84, .invokevirtual 12070, 3, .invokevirtual 87, 609), (87, .ireturn, 1, .ireturn, 0), (88, .aload_n 0, 1, .aload_n 0, 0), (89, .aload_n 1, 1, .aload_n 1, 0), (90, .invokevirtual 12326, 3, .invokevirtual 90, 632), (93, .ireturn, 1, .ireturn, 0), (94, .aload_n 0, 1, .aload_n 0, 0), (95, .aload_n 1, 1, .aload_n 1, 0)]
def m_X6_readLine_r3 : List mj_I := [(96, .invokevirtual 12582, 3, .invokevirtual 93, 640), (99, .ireturn, 1, .ireturn, 0), (100, .aload_n 0, 1, .aload_n 0, 0), (101, .aload_n 1, 1, .aload_n 1, 0), (102, .invokevirtual 12838, 3, .invokevirtual 96, 644), (105, .ireturn, 1, .ireturn, 0), (106, .aload_n 0, 1, .aload_n 0, 0), (107, .aload_n 1, 1, .aload_n 1, 0), (108, .invokevirtual 13094, 3, .invokevirtual 99, 651), (111, .ireturn, 1, .ireturn, 0)]
def m_X6_readLine_E : List (List mj_I) := [m_X6_readLine_r0, m_X6_readLine_r1, m_X6_readLine_r2, m_X6_readLine_r3]
def m_X6_readLine : mj_M := (yX6_readLine, cX6_readLine, 3, (some .boolean), m_X6_readLine_E)
def m_X6_lineKind_r0 : List mj_I := [(0, .aload_n 0, 1, .aload_n 0, 0), (1, .getfield 391, 3, .getfield 57, 149), (4, .iconst 1, 1, .iconst 1, 0), (5, .if_icmp .eq 5, 3, .if_icmp .eq 5, 0), (8, .iconst 0, 1, .iconst 0, 0), (9, .ireturn, 1, .ireturn, 0), (10, .aload_n 0, 1, .aload_n 0, 0), (11, .ldc 0, 2, .ldc 102, 534), (13, .invokevirtual 13350, 3, .invokevirtual 104, 535), (16, .ifCond .eq 5, 3, .ifCond .eq 5, 0), (19, .iconst 1, 1, .iconst 1, 0), (20, .ireturn, 1, .ireturn, 0), (21, .aload_n 0, 1, .aload_n 0, 0), (22, .ldc 1, 2, .ldc 108, 587), (24, .invokevirtual 13350, 3, .invokevirtual 104, 535), (27, .ifCond .eq 5, 3, .ifCond .eq 5, 0), (30, .iconst 2, 1, .iconst 2, 0), (31, .ireturn, 1, .ireturn, 0)]
def m_X6_lineKind_r1 : List mj_I := [(32, .aload_n 0, 1, .aload_n 0, 0), (33, .ldc 2, 2, .ldc 110, 588), (35, .invokevirtual 13350, 3, .invokevirtual 104, 535), (38, .ifCond .eq 5, 3, .ifCond .eq 5, 0), (41, .iconst 3, 1, .iconst 3, 0), (42, .ireturn, 1, .ireturn, 0), (43, .aload_n 0, 1, .aload_n 0, 0), (44, .ldc 3, 2, .ldc 112, 589), (46, .invokevirtual 13350, 3, .invokevirtual 104, 535), (49, .ifCond .eq 5, 3, .ifCond .eq 5, 0), (52, .iconst 4, 1, .iconst 4, 0), (53, .ireturn, 1, .ireturn, 0), (54, .aload_n 0, 1, .aload_n 0, 0), (55, .ldc 4, 2, .ldc 114, 590), (57, .invokevirtual 13350, 3, .invokevirtual 104, 535), (60, .ifCond .eq 5, 3, .ifCond .eq 5, 0), (63, .iconst 5, 1, .iconst 5, 0)]
def m_X6_lineKind_r2 : List mj_I := [(64, .ireturn, 1, .ireturn, 0), (65, .aload_n 0, 1, .aload_n 0, 0), (66, .ldc 5, 2, .ldc 116, 591), (68, .invokevirtual 13350, 3, .invokevirtual 104, 535), (71, .ifCond .eq 8, 3, .ifCond .eq 8, 0), (74, .bipush 6, 2, .bipush 6, 0), (76, .goto 5, 3, .goto 5, 0), (79, .bipush 7, 2, .bipush 7, 0), (81, .ireturn, 1, .ireturn, 0)]
def m_X6_lineKind_E : List (List mj_I) := [m_X6_lineKind_r0, m_X6_lineKind_r1, m_X6_lineKind_r2]
def m_X6_lineKind : mj_M := (yX6_lineKind, cX6_lineKind, 1, (some .int), m_X6_lineKind_E)
def m_X6_readTakes_r0 : List mj_I := [(0, .aload_n 0, 1, .aload_n 0, 0), (1, .getfield 392, 3, .getfield 41, 150), (4, .ifCond .eq 9, 3, .ifCond .eq 9, 0), (7, .aload_n 0, 1, .aload_n 0, 0), (8, .iconst 3, 1, .iconst 3, 0), (9, .invokevirtual 10278, 3, .invokevirtual 63, 592), (12, .ireturn, 1, .ireturn, 0), (13, .aload_n 0, 1, .aload_n 0, 0), (14, .iconst 1, 1, .iconst 1, 0), (15, .putfield 392, 3, .putfield 41, 150), (18, .aload_n 0, 1, .aload_n 0, 0), (19, .invokevirtual 10518, 3, .invokevirtual 50, 515), (22, .aload_n 0, 1, .aload_n 0, 0), (23, .ldc 6, 2, .ldc 118, 600), (25, .invokevirtual 13606, 3, .invokevirtual 120, 601), (28, .ifCond .eq 11, 3, .ifCond .eq 11, 0), (31, .aload_n 0, 1, .aload_n 0, 0)]
def m_X6_readTakes_r1 : List mj_I := [(32, .iconst 5, 1, .iconst 5, 0), (33, .invokevirtual 13862, 3, .invokevirtual 123, 605), (36, .ifCond .ne 5, 3, .ifCond .ne 5, 0), (39, .iconst 0, 1, .iconst 0, 0), (40, .ireturn, 1, .ireturn, 0), (41, .aload_n 1, 1, .aload_n 1, 0), (42, .aload_n 0, 1, .aload_n 0, 0), (43, .getfield 393, 3, .getfield 126, 151), (46, .putfield 64, 3, .putfield 129, 189), (49, .iconst 1, 1, .iconst 1, 0), (50, .ireturn, 1, .ireturn, 0)]
def m_X6_readTakes_E : List (List mj_I) := [m_X6_readTakes_r0, m_X6_readTakes_r1]
def m_X6_readTakes : mj_M := (yX6_readTakes, cX6_readTakes, 2, (some .boolean), m_X6_readTakes_E)
def m_X6_readMan_r0 : List mj_I := [(0, .aload_n 1, 1, .aload_n 1, 0), (1, .getfield 65, 3, .getfield 60, 197), (4, .istore_n 2, 1, .istore_n 2, 0), (5, .iload_n 2, 1, .iload_n 2, 0), (6, .bipush 6, 2, .bipush 6, 0), (8, .if_icmp .lt 9, 3, .if_icmp .lt 9, 0), (11, .aload_n 0, 1, .aload_n 0, 0), (12, .iconst 5, 1, .iconst 5, 0), (13, .invokevirtual 10278, 3, .invokevirtual 63, 592), (16, .ireturn, 1, .ireturn, 0), (17, .aload_n 0, 1, .aload_n 0, 0), (18, .invokevirtual 10518, 3, .invokevirtual 50, 515), (21, .aload_n 0, 1, .aload_n 0, 0), (22, .invokevirtual 11542, 3, .invokevirtual 80, 530), (25, .bipush 7, 2, .bipush 7, 0), (27, .if_icmp .eq 9, 3, .if_icmp .eq 9, 0), (30, .aload_n 0, 1, .aload_n 0, 0), (31, .iconst 1, 1, .iconst 1, 0)]
def m_X6_readMan_r1 : List mj_I := [(32, .invokevirtual 10278, 3, .invokevirtual 63, 592), (35, .ireturn, 1, .ireturn, 0), (36, .aload_n 0, 1, .aload_n 0, 0), (37, .aload_n 1, 1, .aload_n 1, 0), (38, .invokevirtual 14374, 3, .invokevirtual 131, 613), (41, .ifCond .lt 9, 3, .ifCond .lt 9, 0), (44, .aload_n 0, 1, .aload_n 0, 0), (45, .iconst 3, 1, .iconst 3, 0), (46, .invokevirtual 10278, 3, .invokevirtual 63, 592), (49, .ireturn, 1, .ireturn, 0), (50, .aload_n 0, 1, .aload_n 0, 0), (51, .getfield 394, 3, .getfield 15, 152), (54, .iload_n 2, 1, .iload_n 2, 0), (55, .aload_n 0, 1, .aload_n 0, 0), (56, .getfield 389, 3, .getfield 67, 147), (59, .iastore, 1, .iastore, 0), (60, .aload_n 0, 1, .aload_n 0, 0), (61, .getfield 395, 3, .getfield 19, 153)]
def m_X6_readMan_r2 : List mj_I := [(64, .iload_n 2, 1, .iload_n 2, 0), (65, .aload_n 0, 1, .aload_n 0, 0), (66, .getfield 390, 3, .getfield 35, 148), (69, .aload_n 0, 1, .aload_n 0, 0), (70, .getfield 389, 3, .getfield 67, 147), (73, .isub, 1, .isub, 0), (74, .iastore, 1, .iastore, 0), (75, .aload_n 0, 1, .aload_n 0, 0), (76, .invokevirtual 10518, 3, .invokevirtual 50, 515), (79, .aload_n 0, 1, .aload_n 0, 0), (80, .invokevirtual 14870, 3, .invokevirtual 135, 621), (83, .istore_n 3, 1, .istore_n 3, 0), (84, .iload_n 3, 1, .iload_n 3, 0), (85, .ifCond .ge 9, 3, .ifCond .ge 9, 0), (88, .aload_n 0, 1, .aload_n 0, 0), (89, .iconst 1, 1, .iconst 1, 0), (90, .invokevirtual 10278, 3, .invokevirtual 63, 592), (93, .ireturn, 1, .ireturn, 0), (94, .aload_n 1, 1, .aload_n 1, 0), (95, .getfield 66, 3, .getfield 138, 200)]
def m_X6_readMan_r3 : List mj_I := [(98, .iload_n 2, 1, .iload_n 2, 0), (99, .iload_n 3, 1, .iload_n 3, 0), (100, .iastore, 1, .iastore, 0), (101, .aload_n 0, 1, .aload_n 0, 0), (102, .invokevirtual 10518, 3, .invokevirtual 50, 515), (105, .aload_n 0, 1, .aload_n 0, 0), (106, .ldc 11, 2, .ldc 141, 629), (108, .invokevirtual 13606, 3, .invokevirtual 120, 601), (111, .ifCond .eq 12, 3, .ifCond .eq 12, 0), (114, .aload_n 0, 1, .aload_n 0, 0), (115, .bipush 99, 2, .bipush 99, 0), (117, .invokevirtual 13862, 3, .invokevirtual 123, 605), (120, .ifCond .ne 5, 3, .ifCond .ne 5, 0), (123, .iconst 0, 1, .iconst 0, 0), (124, .ireturn, 1, .ireturn, 0), (125, .aload_n 1, 1, .aload_n 1, 0), (126, .getfield 67, 3, .getfield 143, 205)]
def m_X6_readMan_r4 : List mj_I := [(129, .iload_n 2, 1, .iload_n 2, 0), (130, .aload_n 0, 1, .aload_n 0, 0), (131, .getfield 393, 3, .getfield 126, 151), (134, .iastore, 1, .iastore, 0), (135, .aload_n 0, 1, .aload_n 0, 0), (136, .ldc 12, 2, .ldc 145, 630), (138, .invokevirtual 13606, 3, .invokevirtual 120, 601), (141, .ifCond .eq 13, 3, .ifCond .eq 13, 0), (144, .aload_n 0, 1, .aload_n 0, 0), (145, .sipush 200, 3, .sipush 200, 0), (148, .invokevirtual 13862, 3, .invokevirtual 123, 605), (151, .ifCond .ne 5, 3, .ifCond .ne 5, 0), (154, .iconst 0, 1, .iconst 0, 0), (155, .ireturn, 1, .ireturn, 0), (156, .aload_n 1, 1, .aload_n 1, 0), (157, .getfield 68, 3, .getfield 147, 208)]
def m_X6_readMan_r5 : List mj_I := [(160, .iload_n 2, 1, .iload_n 2, 0), (161, .aload_n 0, 1, .aload_n 0, 0), (162, .getfield 393, 3, .getfield 126, 151), (165, .iastore, 1, .iastore, 0), (166, .aload_n 0, 1, .aload_n 0, 0), (167, .ldc 13, 2, .ldc 149, 631), (169, .invokevirtual 13606, 3, .invokevirtual 120, 601), (172, .ifCond .eq 12, 3, .ifCond .eq 12, 0), (175, .aload_n 0, 1, .aload_n 0, 0), (176, .bipush 99, 2, .bipush 99, 0), (178, .invokevirtual 13862, 3, .invokevirtual 123, 605), (181, .ifCond .ne 5, 3, .ifCond .ne 5, 0), (184, .iconst 0, 1, .iconst 0, 0), (185, .ireturn, 1, .ireturn, 0), (186, .aload_n 1, 1, .aload_n 1, 0), (187, .getfield 69, 3, .getfield 151, 213), (190, .iload_n 2, 1, .iload_n 2, 0), (191, .aload_n 0, 1, .aload_n 0, 0)]
def m_X6_readMan_r6 : List mj_I := [(192, .getfield 393, 3, .getfield 126, 151), (195, .iastore, 1, .iastore, 0), (196, .aload_n 1, 1, .aload_n 1, 0), (197, .dup, 1, .dup, 0), (198, .getfield 65, 3, .getfield 60, 197), (201, .iconst 1, 1, .iconst 1, 0), (202, .iadd, 1, .iadd, 0), (203, .putfield 65, 3, .putfield 60, 197), (206, .iconst 1, 1, .iconst 1, 0), (207, .ireturn, 1, .ireturn, 0)]
def m_X6_readMan_E : List (List mj_I) := [m_X6_readMan_r0, m_X6_readMan_r1, m_X6_readMan_r2, m_X6_readMan_r3, m_X6_readMan_r4, m_X6_readMan_r5, m_X6_readMan_r6]
def m_X6_readMan : mj_M := (yX6_readMan, cX6_readMan, 4, (some .boolean), m_X6_readMan_E)
def m_X6_readKin_r0 : List mj_I := [(0, .aload_n 1, 1, .aload_n 1, 0), (1, .getfield 71, 3, .getfield 153, 219), (4, .bipush 6, 2, .bipush 6, 0), (6, .if_icmp .lt 9, 3, .if_icmp .lt 9, 0), (9, .aload_n 0, 1, .aload_n 0, 0), (10, .iconst 5, 1, .iconst 5, 0), (11, .invokevirtual 10278, 3, .invokevirtual 63, 592), (14, .ireturn, 1, .ireturn, 0), (15, .aload_n 0, 1, .aload_n 0, 0), (16, .invokevirtual 10518, 3, .invokevirtual 50, 515), (19, .aload_n 0, 1, .aload_n 0, 0), (20, .aload_n 1, 1, .aload_n 1, 0), (21, .invokevirtual 14118, 3, .invokevirtual 156, 636), (24, .ifCond .ne 5, 3, .ifCond .ne 5, 0), (27, .iconst 0, 1, .iconst 0, 0), (28, .ireturn, 1, .ireturn, 0), (29, .aload_n 0, 1, .aload_n 0, 0), (30, .getfield 393, 3, .getfield 126, 151)]
def m_X6_readKin_r1 : List mj_I := [(33, .istore_n 2, 1, .istore_n 2, 0), (34, .aload_n 0, 1, .aload_n 0, 0), (35, .invokevirtual 10518, 3, .invokevirtual 50, 515), (38, .aload_n 0, 1, .aload_n 0, 0), (39, .aload_n 1, 1, .aload_n 1, 0), (40, .invokevirtual 14118, 3, .invokevirtual 156, 636), (43, .ifCond .ne 5, 3, .ifCond .ne 5, 0), (46, .iconst 0, 1, .iconst 0, 0), (47, .ireturn, 1, .ireturn, 0), (48, .aload_n 0, 1, .aload_n 0, 0), (49, .getfield 393, 3, .getfield 126, 151), (52, .istore_n 3, 1, .istore_n 3, 0), (53, .iload_n 2, 1, .iload_n 2, 0), (54, .iload_n 3, 1, .iload_n 3, 0), (55, .if_icmp .eq 17, 3, .if_icmp .eq 17, 0), (58, .aload_n 1, 1, .aload_n 1, 0), (59, .getfield 70, 3, .getfield 159, 217), (62, .iload_n 2, 1, .iload_n 2, 0), (63, .iaload, 1, .iaload, 0)]
def m_X6_readKin_r2 : List mj_I := [(64, .iload_n 3, 1, .iload_n 3, 0), (65, .ishr, 1, .ishr, 0), (66, .iconst 1, 1, .iconst 1, 0), (67, .iand, 1, .iand, 0), (68, .iconst 1, 1, .iconst 1, 0), (69, .if_icmp .ne 9, 3, .if_icmp .ne 9, 0), (72, .aload_n 0, 1, .aload_n 0, 0), (73, .iconst 3, 1, .iconst 3, 0), (74, .invokevirtual 10278, 3, .invokevirtual 63, 592), (77, .ireturn, 1, .ireturn, 0), (78, .aload_n 1, 1, .aload_n 1, 0), (79, .getfield 70, 3, .getfield 159, 217), (82, .iload_n 2, 1, .iload_n 2, 0), (83, .dup2, 1, .dup2, 0), (84, .iaload, 1, .iaload, 0), (85, .iconst 1, 1, .iconst 1, 0), (86, .iload_n 3, 1, .iload_n 3, 0), (87, .ishl, 1, .ishl, 0), (88, .ior, 1, .ior, 0), (89, .iastore, 1, .iastore, 0), (90, .aload_n 1, 1, .aload_n 1, 0), (91, .getfield 70, 3, .getfield 159, 217), (94, .iload_n 3, 1, .iload_n 3, 0), (95, .dup2, 1, .dup2, 0)]
def m_X6_readKin_r3 : List mj_I := [(96, .iaload, 1, .iaload, 0), (97, .iconst 1, 1, .iconst 1, 0), (98, .iload_n 2, 1, .iload_n 2, 0), (99, .ishl, 1, .ishl, 0), (100, .ior, 1, .ior, 0), (101, .iastore, 1, .iastore, 0), (102, .aload_n 1, 1, .aload_n 1, 0), (103, .dup, 1, .dup, 0), (104, .getfield 71, 3, .getfield 153, 219), (107, .iconst 1, 1, .iconst 1, 0), (108, .iadd, 1, .iadd, 0), (109, .putfield 71, 3, .putfield 153, 219), (112, .aload_n 0, 1, .aload_n 0, 0), (113, .invokevirtual 10518, 3, .invokevirtual 50, 515), (116, .iconst 1, 1, .iconst 1, 0), (117, .ireturn, 1, .ireturn, 0)]
def m_X6_readKin_E : List (List mj_I) := [m_X6_readKin_r0, m_X6_readKin_r1, m_X6_readKin_r2, m_X6_readKin_r3]
def m_X6_readKin : mj_M := (yX6_readKin, cX6_readKin, 4, (some .boolean), m_X6_readKin_E)
def m_X6_readSpares_r0 : List mj_I := [(0, .aload_n 0, 1, .aload_n 0, 0), (1, .invokevirtual 10518, 3, .invokevirtual 50, 515), (4, .aload_n 0, 1, .aload_n 0, 0), (5, .invokevirtual 14870, 3, .invokevirtual 135, 621), (8, .istore_n 2, 1, .istore_n 2, 0), (9, .iload_n 2, 1, .iload_n 2, 0), (10, .ifCond .ge 9, 3, .ifCond .ge 9, 0), (13, .aload_n 0, 1, .aload_n 0, 0), (14, .iconst 1, 1, .iconst 1, 0), (15, .invokevirtual 10278, 3, .invokevirtual 63, 592), (18, .ireturn, 1, .ireturn, 0), (19, .aload_n 1, 1, .aload_n 1, 0), (20, .getfield 72, 3, .getfield 161, 223), (23, .iload_n 2, 1, .iload_n 2, 0), (24, .ishr, 1, .ishr, 0), (25, .iconst 1, 1, .iconst 1, 0), (26, .iand, 1, .iand, 0), (27, .iconst 1, 1, .iconst 1, 0), (28, .if_icmp .ne 9, 3, .if_icmp .ne 9, 0), (31, .aload_n 0, 1, .aload_n 0, 0)]
def m_X6_readSpares_r1 : List mj_I := [(32, .iconst 3, 1, .iconst 3, 0), (33, .invokevirtual 10278, 3, .invokevirtual 63, 592), (36, .ireturn, 1, .ireturn, 0), (37, .aload_n 1, 1, .aload_n 1, 0), (38, .dup, 1, .dup, 0), (39, .getfield 72, 3, .getfield 161, 223), (42, .iconst 1, 1, .iconst 1, 0), (43, .iload_n 2, 1, .iload_n 2, 0), (44, .ishl, 1, .ishl, 0), (45, .ior, 1, .ior, 0), (46, .putfield 72, 3, .putfield 161, 223), (49, .aload_n 0, 1, .aload_n 0, 0), (50, .invokevirtual 10518, 3, .invokevirtual 50, 515), (53, .iconst 1, 1, .iconst 1, 0), (54, .ireturn, 1, .ireturn, 0)]
def m_X6_readSpares_E : List (List mj_I) := [m_X6_readSpares_r0, m_X6_readSpares_r1]
def m_X6_readSpares : mj_M := (yX6_readSpares, cX6_readSpares, 3, (some .boolean), m_X6_readSpares_E)
def m_X6_readDoctor_r0 : List mj_I := [(0, .aload_n 1, 1, .aload_n 1, 0), (1, .getfield 73, 3, .getfield 164, 225), (4, .ifCond .eq 9, 3, .ifCond .eq 9, 0), (7, .aload_n 0, 1, .aload_n 0, 0), (8, .iconst 3, 1, .iconst 3, 0), (9, .invokevirtual 10278, 3, .invokevirtual 63, 592), (12, .ireturn, 1, .ireturn, 0), (13, .aload_n 1, 1, .aload_n 1, 0), (14, .iconst 1, 1, .iconst 1, 0), (15, .putfield 73, 3, .putfield 164, 225), (18, .aload_n 0, 1, .aload_n 0, 0), (19, .invokevirtual 10518, 3, .invokevirtual 50, 515), (22, .aload_n 0, 1, .aload_n 0, 0), (23, .ldc 14, 2, .ldc 167, 648), (25, .invokevirtual 13606, 3, .invokevirtual 120, 601), (28, .ifCond .eq 12, 3, .ifCond .eq 12, 0), (31, .aload_n 0, 1, .aload_n 0, 0)]
def m_X6_readDoctor_r1 : List mj_I := [(32, .bipush 100, 2, .bipush 100, 0), (34, .invokevirtual 13862, 3, .invokevirtual 123, 605), (37, .ifCond .ne 5, 3, .ifCond .ne 5, 0), (40, .iconst 0, 1, .iconst 0, 0), (41, .ireturn, 1, .ireturn, 0), (42, .aload_n 1, 1, .aload_n 1, 0), (43, .aload_n 0, 1, .aload_n 0, 0), (44, .getfield 393, 3, .getfield 126, 151), (47, .putfield 74, 3, .putfield 169, 227), (50, .aload_n 0, 1, .aload_n 0, 0), (51, .ldc 15, 2, .ldc 171, 649), (53, .invokevirtual 13606, 3, .invokevirtual 120, 601), (56, .ifCond .eq 12, 3, .ifCond .eq 12, 0), (59, .aload_n 0, 1, .aload_n 0, 0), (60, .bipush 100, 2, .bipush 100, 0), (62, .invokevirtual 13862, 3, .invokevirtual 123, 605)]
def m_X6_readDoctor_r2 : List mj_I := [(65, .ifCond .ne 5, 3, .ifCond .ne 5, 0), (68, .iconst 0, 1, .iconst 0, 0), (69, .ireturn, 1, .ireturn, 0), (70, .aload_n 1, 1, .aload_n 1, 0), (71, .aload_n 0, 1, .aload_n 0, 0), (72, .getfield 393, 3, .getfield 126, 151), (75, .putfield 75, 3, .putfield 173, 229), (78, .aload_n 0, 1, .aload_n 0, 0), (79, .ldc 16, 2, .ldc 175, 650), (81, .invokevirtual 13606, 3, .invokevirtual 120, 601), (84, .ifCond .eq 12, 3, .ifCond .eq 12, 0), (87, .aload_n 0, 1, .aload_n 0, 0), (88, .bipush 100, 2, .bipush 100, 0), (90, .invokevirtual 13862, 3, .invokevirtual 123, 605), (93, .ifCond .ne 5, 3, .ifCond .ne 5, 0)]
def m_X6_readDoctor_r3 : List mj_I := [(96, .iconst 0, 1, .iconst 0, 0), (97, .ireturn, 1, .ireturn, 0), (98, .aload_n 1, 1, .aload_n 1, 0), (99, .aload_n 0, 1, .aload_n 0, 0), (100, .getfield 393, 3, .getfield 126, 151), (103, .putfield 76, 3, .putfield 177, 231), (106, .iconst 1, 1, .iconst 1, 0), (107, .ireturn, 1, .ireturn, 0)]
def m_X6_readDoctor_E : List (List mj_I) := [m_X6_readDoctor_r0, m_X6_readDoctor_r1, m_X6_readDoctor_r2, m_X6_readDoctor_r3]
def m_X6_readDoctor : mj_M := (yX6_readDoctor, cX6_readDoctor, 2, (some .boolean), m_X6_readDoctor_E)
def m_X6_readWent_r0 : List mj_I := [(0, .aload_n 1, 1, .aload_n 1, 0), (1, .getfield 78, 3, .getfield 179, 238), (4, .iconst 3, 1, .iconst 3, 0), (5, .if_icmp .lt 9, 3, .if_icmp .lt 9, 0), (8, .aload_n 0, 1, .aload_n 0, 0), (9, .iconst 5, 1, .iconst 5, 0), (10, .invokevirtual 10278, 3, .invokevirtual 63, 592), (13, .ireturn, 1, .ireturn, 0), (14, .aload_n 0, 1, .aload_n 0, 0), (15, .invokevirtual 10518, 3, .invokevirtual 50, 515), (18, .aload_n 0, 1, .aload_n 0, 0), (19, .aload_n 1, 1, .aload_n 1, 0), (20, .invokevirtual 14118, 3, .invokevirtual 156, 636), (23, .ifCond .ne 5, 3, .ifCond .ne 5, 0), (26, .iconst 0, 1, .iconst 0, 0), (27, .ireturn, 1, .ireturn, 0), (28, .iconst 0, 1, .iconst 0, 0), (29, .istore_n 2, 1, .istore_n 2, 0), (30, .iload_n 2, 1, .iload_n 2, 0), (31, .aload_n 1, 1, .aload_n 1, 0)]
def m_X6_readWent_r1 : List mj_I := [(32, .getfield 78, 3, .getfield 179, 238), (35, .if_icmp .ge 28, 3, .if_icmp .ge 28, 0), (38, .aload_n 1, 1, .aload_n 1, 0), (39, .getfield 77, 3, .getfield 182, 235), (42, .iload_n 2, 1, .iload_n 2, 0), (43, .iaload, 1, .iaload, 0), (44, .aload_n 0, 1, .aload_n 0, 0), (45, .getfield 393, 3, .getfield 126, 151), (48, .if_icmp .ne 9, 3, .if_icmp .ne 9, 0), (51, .aload_n 0, 1, .aload_n 0, 0), (52, .iconst 3, 1, .iconst 3, 0), (53, .invokevirtual 10278, 3, .invokevirtual 63, 592), (56, .ireturn, 1, .ireturn, 0), (57, .iinc 2 1, 3, .iinc 2 1, 0), (60, .goto (-30), 3, .goto (-30), 0), (63, .aload_n 1, 1, .aload_n 1, 0)]
def m_X6_readWent_r2 : List mj_I := [(64, .getfield 77, 3, .getfield 182, 235), (67, .aload_n 1, 1, .aload_n 1, 0), (68, .getfield 78, 3, .getfield 179, 238), (71, .aload_n 0, 1, .aload_n 0, 0), (72, .getfield 393, 3, .getfield 126, 151), (75, .iastore, 1, .iastore, 0), (76, .aload_n 1, 1, .aload_n 1, 0), (77, .dup, 1, .dup, 0), (78, .getfield 78, 3, .getfield 179, 238), (81, .iconst 1, 1, .iconst 1, 0), (82, .iadd, 1, .iadd, 0), (83, .putfield 78, 3, .putfield 179, 238), (86, .aload_n 0, 1, .aload_n 0, 0), (87, .invokevirtual 10518, 3, .invokevirtual 50, 515), (90, .iconst 1, 1, .iconst 1, 0), (91, .ireturn, 1, .ireturn, 0)]
def m_X6_readWent_E : List (List mj_I) := [m_X6_readWent_r0, m_X6_readWent_r1, m_X6_readWent_r2]
def m_X6_readWent : mj_M := (yX6_readWent, cX6_readWent, 3, (some .boolean), m_X6_readWent_E)
def m_X6_isWord_r0 : List mj_I := [(0, .aload_n 0, 1, .aload_n 0, 0), (1, .getfield 391, 3, .getfield 57, 149), (4, .iconst 1, 1, .iconst 1, 0), (5, .if_icmp .ne 19, 3, .if_icmp .ne 19, 0), (8, .aload_n 0, 1, .aload_n 0, 0), (9, .getfield 390, 3, .getfield 35, 148), (12, .aload_n 0, 1, .aload_n 0, 0), (13, .getfield 389, 3, .getfield 67, 147), (16, .isub, 1, .isub, 0), (17, .aload_n 1, 1, .aload_n 1, 0), (18, .invokevirtual 287, 3, .invokevirtual 184, 539), (21, .if_icmp .eq 5, 3, .if_icmp .eq 5, 0), (24, .iconst 0, 1, .iconst 0, 0), (25, .ireturn, 1, .ireturn, 0), (26, .iconst 0, 1, .iconst 0, 0), (27, .istore_n 2, 1, .istore_n 2, 0), (28, .iload_n 2, 1, .iload_n 2, 0), (29, .aload_n 1, 1, .aload_n 1, 0), (30, .invokevirtual 287, 3, .invokevirtual 184, 539)]
def m_X6_isWord_r1 : List mj_I := [(33, .if_icmp .ge 30, 3, .if_icmp .ge 30, 0), (36, .aload_n 0, 1, .aload_n 0, 0), (37, .getfield 384, 3, .getfield 9, 139), (40, .aload_n 0, 1, .aload_n 0, 0), (41, .getfield 389, 3, .getfield 67, 147), (44, .iload_n 2, 1, .iload_n 2, 0), (45, .iadd, 1, .iadd, 0), (46, .baload, 1, .baload, 0), (47, .aload_n 1, 1, .aload_n 1, 0), (48, .iload_n 2, 1, .iload_n 2, 0), (49, .invokevirtual 559, 3, .invokevirtual 188, 549), (52, .if_icmp .eq 5, 3, .if_icmp .eq 5, 0), (55, .iconst 0, 1, .iconst 0, 0), (56, .ireturn, 1, .ireturn, 0), (57, .iinc 2 1, 3, .iinc 2 1, 0), (60, .goto (-32), 3, .goto (-32), 0), (63, .iconst 1, 1, .iconst 1, 0)]
def m_X6_isWord_r2 : List mj_I := [(64, .ireturn, 1, .ireturn, 0)]
def m_X6_isWord_E : List (List mj_I) := [m_X6_isWord_r0, m_X6_isWord_r1, m_X6_isWord_r2]
def m_X6_isWord : mj_M := (yX6_isWord, cX6_isWord, 3, (some .boolean), m_X6_isWord_E)
def m_X6_passWord_r0 : List mj_I := [(0, .aload_n 0, 1, .aload_n 0, 0), (1, .aload_n 1, 1, .aload_n 1, 0), (2, .invokevirtual 13350, 3, .invokevirtual 104, 535), (5, .ifCond .ne 9, 3, .ifCond .ne 9, 0), (8, .aload_n 0, 1, .aload_n 0, 0), (9, .iconst 1, 1, .iconst 1, 0), (10, .invokevirtual 10278, 3, .invokevirtual 63, 592), (13, .ireturn, 1, .ireturn, 0), (14, .aload_n 0, 1, .aload_n 0, 0), (15, .invokevirtual 10518, 3, .invokevirtual 50, 515), (18, .iconst 1, 1, .iconst 1, 0), (19, .ireturn, 1, .ireturn, 0)]
def m_X6_passWord_E : List (List mj_I) := [m_X6_passWord_r0]
def m_X6_passWord : mj_M := (yX6_passWord, cX6_passWord, 2, (some .boolean), m_X6_passWord_E)
def m_X6_passWhole_r0 : List mj_I := [(0, .aload_n 0, 1, .aload_n 0, 0), (1, .getfield 391, 3, .getfield 57, 149), (4, .iconst 2, 1, .iconst 2, 0), (5, .if_icmp .eq 9, 3, .if_icmp .eq 9, 0), (8, .aload_n 0, 1, .aload_n 0, 0), (9, .iconst 1, 1, .iconst 1, 0), (10, .invokevirtual 10278, 3, .invokevirtual 63, 592), (13, .ireturn, 1, .ireturn, 0), (14, .iconst 0, 1, .iconst 0, 0), (15, .istore_n 2, 1, .istore_n 2, 0), (16, .aload_n 0, 1, .aload_n 0, 0), (17, .getfield 389, 3, .getfield 67, 147), (20, .istore_n 3, 1, .istore_n 3, 0), (21, .iload_n 3, 1, .iload_n 3, 0), (22, .aload_n 0, 1, .aload_n 0, 0), (23, .getfield 390, 3, .getfield 35, 148), (26, .if_icmp .ge 24, 3, .if_icmp .ge 24, 0), (29, .bipush 10, 2, .bipush 10, 0), (31, .iload_n 2, 1, .iload_n 2, 0)]
def m_X6_passWhole_r1 : List mj_I := [(32, .imul, 1, .imul, 0), (33, .aload_n 0, 1, .aload_n 0, 0), (34, .getfield 384, 3, .getfield 9, 139), (37, .iload_n 3, 1, .iload_n 3, 0), (38, .baload, 1, .baload, 0), (39, .iadd, 1, .iadd, 0), (40, .bipush 48, 2, .bipush 48, 0), (42, .isub, 1, .isub, 0), (43, .istore_n 2, 1, .istore_n 2, 0), (44, .iinc 3 1, 3, .iinc 3 1, 0), (47, .goto (-26), 3, .goto (-26), 0), (50, .iload_n 2, 1, .iload_n 2, 0), (51, .iload_n 1, 1, .iload_n 1, 0), (52, .if_icmp .le 9, 3, .if_icmp .le 9, 0), (55, .aload_n 0, 1, .aload_n 0, 0), (56, .iconst 4, 1, .iconst 4, 0), (57, .invokevirtual 10278, 3, .invokevirtual 63, 592), (60, .ireturn, 1, .ireturn, 0), (61, .aload_n 0, 1, .aload_n 0, 0), (62, .iload_n 2, 1, .iload_n 2, 0), (63, .putfield 393, 3, .putfield 126, 151)]
def m_X6_passWhole_r2 : List mj_I := [(66, .aload_n 0, 1, .aload_n 0, 0), (67, .invokevirtual 10518, 3, .invokevirtual 50, 515), (70, .iconst 1, 1, .iconst 1, 0), (71, .ireturn, 1, .ireturn, 0)]
def m_X6_passWhole_E : List (List mj_I) := [m_X6_passWhole_r0, m_X6_passWhole_r1, m_X6_passWhole_r2]
def m_X6_passWhole : mj_M := (yX6_passWhole, cX6_passWhole, 4, (some .boolean), m_X6_passWhole_E)
def m_X6_isToldMan_r0 : List mj_I := [(0, .aload_n 0, 1, .aload_n 0, 0), (1, .invokevirtual 11542, 3, .invokevirtual 80, 530), (4, .bipush 7, 2, .bipush 7, 0), (6, .if_icmp .eq 9, 3, .if_icmp .eq 9, 0), (9, .aload_n 0, 1, .aload_n 0, 0), (10, .iconst 1, 1, .iconst 1, 0), (11, .invokevirtual 10278, 3, .invokevirtual 63, 592), (14, .ireturn, 1, .ireturn, 0), (15, .aload_n 0, 1, .aload_n 0, 0), (16, .aload_n 0, 1, .aload_n 0, 0), (17, .aload_n 1, 1, .aload_n 1, 0), (18, .invokevirtual 14374, 3, .invokevirtual 131, 613), (21, .putfield 393, 3, .putfield 126, 151), (24, .aload_n 0, 1, .aload_n 0, 0), (25, .getfield 393, 3, .getfield 126, 151), (28, .ifCond .ge 11, 3, .ifCond .ge 11, 0), (31, .aload_n 0, 1, .aload_n 0, 0)]
def m_X6_isToldMan_r1 : List mj_I := [(32, .iconst 2, 1, .iconst 2, 0), (33, .invokevirtual 10278, 3, .invokevirtual 63, 592), (36, .ifCond .eq 7, 3, .ifCond .eq 7, 0), (39, .iconst 1, 1, .iconst 1, 0), (40, .goto 4, 3, .goto 4, 0), (43, .iconst 0, 1, .iconst 0, 0), (44, .ireturn, 1, .ireturn, 0)]
def m_X6_isToldMan_E : List (List mj_I) := [m_X6_isToldMan_r0, m_X6_isToldMan_r1]
def m_X6_isToldMan : mj_M := (yX6_isToldMan, cX6_isToldMan, 2, (some .boolean), m_X6_isToldMan_E)
def m_X6_namedMan_r0 : List mj_I := [(0, .iconst 0, 1, .iconst 0, 0), (1, .istore_n 2, 1, .istore_n 2, 0), (2, .iload_n 2, 1, .iload_n 2, 0), (3, .aload_n 1, 1, .aload_n 1, 0), (4, .getfield 65, 3, .getfield 60, 197), (7, .if_icmp .ge 37, 3, .if_icmp .ge 37, 0), (10, .aload_n 0, 1, .aload_n 0, 0), (11, .getfield 395, 3, .getfield 19, 153), (14, .iload_n 2, 1, .iload_n 2, 0), (15, .iaload, 1, .iaload, 0), (16, .aload_n 0, 1, .aload_n 0, 0), (17, .getfield 390, 3, .getfield 35, 148), (20, .aload_n 0, 1, .aload_n 0, 0), (21, .getfield 389, 3, .getfield 67, 147), (24, .isub, 1, .isub, 0), (25, .if_icmp .ne 13, 3, .if_icmp .ne 13, 0), (28, .aload_n 0, 1, .aload_n 0, 0), (29, .iload_n 2, 1, .iload_n 2, 0), (30, .invokevirtual 14630, 3, .invokevirtual 192, 617)]
def m_X6_namedMan_r1 : List mj_I := [(33, .ifCond .eq 5, 3, .ifCond .eq 5, 0), (36, .iload_n 2, 1, .iload_n 2, 0), (37, .ireturn, 1, .ireturn, 0), (38, .iinc 2 1, 3, .iinc 2 1, 0), (41, .goto (-39), 3, .goto (-39), 0), (44, .bipush (-2), 2, .bipush (-2), 0), (46, .ireturn, 1, .ireturn, 0)]
def m_X6_namedMan_E : List (List mj_I) := [m_X6_namedMan_r0, m_X6_namedMan_r1]
def m_X6_namedMan : mj_M := (yX6_namedMan, cX6_namedMan, 3, (some .int), m_X6_namedMan_E)
def m_X6_isNamed_r0 : List mj_I := [(0, .iconst 0, 1, .iconst 0, 0), (1, .istore_n 2, 1, .istore_n 2, 0), (2, .iload_n 2, 1, .iload_n 2, 0), (3, .aload_n 0, 1, .aload_n 0, 0), (4, .getfield 395, 3, .getfield 19, 153), (7, .iload_n 1, 1, .iload_n 1, 0), (8, .iaload, 1, .iaload, 0), (9, .if_icmp .ge 38, 3, .if_icmp .ge 38, 0), (12, .aload_n 0, 1, .aload_n 0, 0), (13, .getfield 384, 3, .getfield 9, 139), (16, .aload_n 0, 1, .aload_n 0, 0), (17, .getfield 394, 3, .getfield 15, 152), (20, .iload_n 1, 1, .iload_n 1, 0), (21, .iaload, 1, .iaload, 0), (22, .iload_n 2, 1, .iload_n 2, 0), (23, .iadd, 1, .iadd, 0), (24, .baload, 1, .baload, 0), (25, .aload_n 0, 1, .aload_n 0, 0), (26, .getfield 384, 3, .getfield 9, 139), (29, .aload_n 0, 1, .aload_n 0, 0), (30, .getfield 389, 3, .getfield 67, 147)]
def m_X6_isNamed_r1 : List mj_I := [(33, .iload_n 2, 1, .iload_n 2, 0), (34, .iadd, 1, .iadd, 0), (35, .baload, 1, .baload, 0), (36, .if_icmp .eq 5, 3, .if_icmp .eq 5, 0), (39, .iconst 0, 1, .iconst 0, 0), (40, .ireturn, 1, .ireturn, 0), (41, .iinc 2 1, 3, .iinc 2 1, 0), (44, .goto (-42), 3, .goto (-42), 0), (47, .iconst 1, 1, .iconst 1, 0), (48, .ireturn, 1, .ireturn, 0)]
def m_X6_isNamed_E : List (List mj_I) := [m_X6_isNamed_r0, m_X6_isNamed_r1]
def m_X6_isNamed : mj_M := (yX6_isNamed, cX6_isNamed, 3, (some .boolean), m_X6_isNamed_E)
def m_X6_namedSort_r0 : List mj_I := [(0, .aload_n 0, 1, .aload_n 0, 0), (1, .ldc 7, 2, .ldc 195, 625), (3, .invokevirtual 13350, 3, .invokevirtual 104, 535), (6, .ifCond .eq 5, 3, .ifCond .eq 5, 0), (9, .iconst 0, 1, .iconst 0, 0), (10, .ireturn, 1, .ireturn, 0), (11, .aload_n 0, 1, .aload_n 0, 0), (12, .ldc 8, 2, .ldc 197, 626), (14, .invokevirtual 13350, 3, .invokevirtual 104, 535), (17, .ifCond .eq 5, 3, .ifCond .eq 5, 0), (20, .iconst 1, 1, .iconst 1, 0), (21, .ireturn, 1, .ireturn, 0), (22, .aload_n 0, 1, .aload_n 0, 0), (23, .ldc 9, 2, .ldc 199, 627), (25, .invokevirtual 13350, 3, .invokevirtual 104, 535), (28, .ifCond .eq 5, 3, .ifCond .eq 5, 0), (31, .iconst 2, 1, .iconst 2, 0)]
def m_X6_namedSort_r1 : List mj_I := [(32, .ireturn, 1, .ireturn, 0), (33, .aload_n 0, 1, .aload_n 0, 0), (34, .ldc 10, 2, .ldc 201, 628), (36, .invokevirtual 13350, 3, .invokevirtual 104, 535), (39, .ifCond .eq 7, 3, .ifCond .eq 7, 0), (42, .iconst 3, 1, .iconst 3, 0), (43, .goto 5, 3, .goto 5, 0), (46, .bipush (-2), 2, .bipush (-2), 0), (48, .ireturn, 1, .ireturn, 0)]
def m_X6_namedSort_E : List (List mj_I) := [m_X6_namedSort_r0, m_X6_namedSort_r1]
def m_X6_namedSort : mj_M := (yX6_namedSort, cX6_namedSort, 1, (some .int), m_X6_namedSort_E)
def m_X7_init_r0 : List mj_I := [(0, .aload_n 0, 1, .aload_n 0, 0), (1, .invokespecial 31, 3, .invokespecial 3, 423), (4, .aload_n 0, 1, .aload_n 0, 0), (5, .iconst 3, 1, .iconst 3, 0), (6, .bipush 6, 2, .bipush 6, 0), (8, .multianewarray 4 2, 4, .multianewarray 9 2, 424), (12, .putfield 450, 3, .putfield 11, 430), (15, .return_, 1, .return_, 0)]
def m_X7_init_E : List (List mj_I) := [m_X7_init_r0]
def m_X7_init : mj_M := (yX7_init, cX7_init, 1, none, m_X7_init_E)
def m_X7_look_r0 : List mj_I := [(0, .aload_n 0, 1, .aload_n 0, 0), (1, .invokevirtual 15639, 3, .invokevirtual 16, 932), (4, .iconst 1, 1, .iconst 1, 0), (5, .aload_n 1, 1, .aload_n 1, 0), (6, .getfield 65, 3, .getfield 19, 193), (9, .ishl, 1, .ishl, 0), (10, .iconst 1, 1, .iconst 1, 0), (11, .isub, 1, .isub, 0), (12, .istore_n 3, 1, .istore_n 3, 0), (13, .iconst 0, 1, .iconst 0, 0), (14, .istore 4, 2, .istore 4, 0), (16, .iload 4, 2, .iload 4, 0), (18, .aload_n 2, 1, .aload_n 2, 0), (19, .getfield 2, 3, .getfield 25, 376), (22, .if_icmp .ge 103, 3, .if_icmp .ge 103, 0), (25, .aload_n 1, 1, .aload_n 1, 0), (26, .aload_n 2, 1, .aload_n 2, 0), (27, .iload 4, 2, .iload 4, 0), (29, .invokestatic 15927, 3, .invokestatic 30, 936)]
def m_X7_look_r1 : List mj_I := [(32, .ifCond .eq 87, 3, .ifCond .eq 87, 0), (35, .aload_n 0, 1, .aload_n 0, 0), (36, .dup, 1, .dup, 0), (37, .getfield 448, 3, .getfield 34, 426), (40, .aload_n 2, 1, .aload_n 2, 0), (41, .getfield 6, 3, .getfield 37, 382), (44, .iload 4, 2, .iload 4, 0), (46, .iaload, 1, .iaload, 0), (47, .iadd, 1, .iadd, 0), (48, .putfield 448, 3, .putfield 34, 426), (51, .iload_n 3, 1, .iload_n 3, 0), (52, .aload_n 2, 1, .aload_n 2, 0), (53, .getfield 4, 3, .getfield 41, 379), (56, .iload 4, 2, .iload 4, 0), (58, .iaload, 1, .iaload, 0), (59, .iand, 1, .iand, 0), (60, .istore_n 3, 1, .istore_n 3, 0), (61, .iconst 0, 1, .iconst 0, 0), (62, .istore 5, 2, .istore 5, 0)]
def m_X7_look_r2 : List mj_I := [(64, .iload 5, 2, .iload 5, 0), (66, .aload_n 1, 1, .aload_n 1, 0), (67, .getfield 78, 3, .getfield 44, 237), (70, .if_icmp .ge 49, 3, .if_icmp .ge 49, 0), (73, .aload_n 2, 1, .aload_n 2, 0), (74, .iload 4, 2, .iload 4, 0), (76, .aload_n 1, 1, .aload_n 1, 0), (77, .getfield 77, 3, .getfield 47, 234), (80, .iload 5, 2, .iload 5, 0), (82, .iaload, 1, .iaload, 0), (83, .invokevirtual 2352, 3, .invokevirtual 50, 939), (86, .istore 6, 2, .istore 6, 0), (88, .iload 6, 2, .iload 6, 0), (90, .ifCond .lt 23, 3, .ifCond .lt 23, 0), (93, .aload_n 0, 1, .aload_n 0, 0), (94, .getfield 450, 3, .getfield 11, 430)]
def m_X7_look_r3 : List mj_I := [(97, .iload 5, 2, .iload 5, 0), (99, .aaload, 1, .aaload, 0), (100, .iload 6, 2, .iload 6, 0), (102, .dup2, 1, .dup2, 0), (103, .iaload, 1, .iaload, 0), (104, .aload_n 2, 1, .aload_n 2, 0), (105, .getfield 6, 3, .getfield 37, 382), (108, .iload 4, 2, .iload 4, 0), (110, .iaload, 1, .iaload, 0), (111, .iadd, 1, .iadd, 0), (112, .iastore, 1, .iastore, 0), (113, .iinc 5 1, 3, .iinc 5 1, 0), (116, .goto (-52), 3, .goto (-52), 0), (119, .iinc 4 1, 3, .iinc 4 1, 0), (122, .goto (-106), 3, .goto (-106), 0), (125, .aload_n 0, 1, .aload_n 0, 0), (126, .aload_n 0, 1, .aload_n 0, 0), (127, .getfield 448, 3, .getfield 34, 426)]
def m_X7_look_r4 : List mj_I := [(130, .ifCond .le 7, 3, .ifCond .le 7, 0), (133, .iload_n 3, 1, .iload_n 3, 0), (134, .goto 4, 3, .goto 4, 0), (137, .iconst 0, 1, .iconst 0, 0), (138, .putfield 449, 3, .putfield 54, 428), (141, .return_, 1, .return_, 0)]
def m_X7_look_E : List (List mj_I) := [m_X7_look_r0, m_X7_look_r1, m_X7_look_r2, m_X7_look_r3, m_X7_look_r4]
def m_X7_look : mj_M := (yX7_look, cX7_look, 7, none, m_X7_look_E)
def m_X7_clear_r0 : List mj_I := [(0, .aload_n 0, 1, .aload_n 0, 0), (1, .iconst 0, 1, .iconst 0, 0), (2, .putfield 448, 3, .putfield 34, 426), (5, .iconst 0, 1, .iconst 0, 0), (6, .istore_n 1, 1, .istore_n 1, 0), (7, .iload_n 1, 1, .iload_n 1, 0), (8, .iconst 3, 1, .iconst 3, 0), (9, .if_icmp .ge 32, 3, .if_icmp .ge 32, 0), (12, .iconst 0, 1, .iconst 0, 0), (13, .istore_n 2, 1, .istore_n 2, 0), (14, .iload_n 2, 1, .iload_n 2, 0), (15, .bipush 6, 2, .bipush 6, 0), (17, .if_icmp .ge 18, 3, .if_icmp .ge 18, 0), (20, .aload_n 0, 1, .aload_n 0, 0), (21, .getfield 450, 3, .getfield 11, 430), (24, .iload_n 1, 1, .iload_n 1, 0), (25, .aaload, 1, .aaload, 0), (26, .iload_n 2, 1, .iload_n 2, 0), (27, .iconst 0, 1, .iconst 0, 0), (28, .iastore, 1, .iastore, 0), (29, .iinc 2 1, 3, .iinc 2 1, 0)]
def m_X7_clear_r1 : List mj_I := [(32, .goto (-18), 3, .goto (-18), 0), (35, .iinc 1 1, 3, .iinc 1 1, 0), (38, .goto (-31), 3, .goto (-31), 0), (41, .return_, 1, .return_, 0)]
def m_X7_clear_E : List (List mj_I) := [m_X7_clear_r0, m_X7_clear_r1]
def m_X7_clear : mj_M := (yX7_clear, cX7_clear, 3, none, m_X7_clear_E)
def m_X7_fits_r0 : List mj_I := [(0, .iconst 0, 1, .iconst 0, 0), (1, .istore_n 3, 1, .istore_n 3, 0), (2, .iload_n 3, 1, .iload_n 3, 0), (3, .aload_n 0, 1, .aload_n 0, 0), (4, .getfield 78, 3, .getfield 44, 237), (7, .if_icmp .ge 25, 3, .if_icmp .ge 25, 0), (10, .aload_n 1, 1, .aload_n 1, 0), (11, .iload_n 2, 1, .iload_n 2, 0), (12, .aload_n 0, 1, .aload_n 0, 0), (13, .getfield 77, 3, .getfield 47, 234), (16, .iload_n 3, 1, .iload_n 3, 0), (17, .iaload, 1, .iaload, 0), (18, .invokevirtual 2352, 3, .invokevirtual 50, 939), (21, .ifCond .ge 5, 3, .ifCond .ge 5, 0), (24, .iconst 0, 1, .iconst 0, 0), (25, .ireturn, 1, .ireturn, 0), (26, .iinc 3 1, 3, .iinc 3 1, 0), (29, .goto (-27), 3, .goto (-27), 0)]
def m_X7_fits_r1 : List mj_I := [(32, .iconst 1, 1, .iconst 1, 0), (33, .ireturn, 1, .ireturn, 0)]
def m_X7_fits_E : List (List mj_I) := [m_X7_fits_r0, m_X7_fits_r1]
def m_X7_fits : mj_M := (yX7_fits, cX7_fits, 4, (some .boolean), m_X7_fits_E)
def m_X7_couldBe_r0 : List mj_I := [(0, .iconst 0, 1, .iconst 0, 0), (1, .istore_n 3, 1, .istore_n 3, 0), (2, .iconst 0, 1, .iconst 0, 0), (3, .istore 4, 2, .istore 4, 0), (5, .iload 4, 2, .iload 4, 0), (7, .iload_n 2, 1, .iload_n 2, 0), (8, .if_icmp .ge 28, 3, .if_icmp .ge 28, 0), (11, .aload_n 0, 1, .aload_n 0, 0), (12, .getfield 450, 3, .getfield 11, 430), (15, .iload_n 1, 1, .iload_n 1, 0), (16, .aaload, 1, .aaload, 0), (17, .iload 4, 2, .iload 4, 0), (19, .iaload, 1, .iaload, 0), (20, .ifCond .le 10, 3, .ifCond .le 10, 0), (23, .iload_n 3, 1, .iload_n 3, 0), (24, .iconst 1, 1, .iconst 1, 0), (25, .iload 4, 2, .iload 4, 0), (27, .ishl, 1, .ishl, 0), (28, .ior, 1, .ior, 0), (29, .istore_n 3, 1, .istore_n 3, 0), (30, .iinc 4 1, 3, .iinc 4 1, 0)]
def m_X7_couldBe_r1 : List mj_I := [(33, .goto (-28), 3, .goto (-28), 0), (36, .iload_n 3, 1, .iload_n 3, 0), (37, .ireturn, 1, .ireturn, 0)]
def m_X7_couldBe_E : List (List mj_I) := [m_X7_couldBe_r0, m_X7_couldBe_r1]
def m_X7_couldBe : mj_M := (yX7_couldBe, cX7_couldBe, 5, (some .int), m_X7_couldBe_E)
def m_X7_mustBe_r0 : List mj_I := [(0, .iconst 0, 1, .iconst 0, 0), (1, .istore_n 3, 1, .istore_n 3, 0), (2, .iload_n 3, 1, .iload_n 3, 0), (3, .iload_n 2, 1, .iload_n 2, 0), (4, .if_icmp .ge 37, 3, .if_icmp .ge 37, 0), (7, .aload_n 0, 1, .aload_n 0, 0), (8, .getfield 450, 3, .getfield 11, 430), (11, .iload_n 1, 1, .iload_n 1, 0), (12, .aaload, 1, .aaload, 0), (13, .iload_n 3, 1, .iload_n 3, 0), (14, .iaload, 1, .iaload, 0), (15, .ifCond .le 20, 3, .ifCond .le 20, 0), (18, .aload_n 0, 1, .aload_n 0, 0), (19, .getfield 450, 3, .getfield 11, 430), (22, .iload_n 1, 1, .iload_n 1, 0), (23, .aaload, 1, .aaload, 0), (24, .iload_n 3, 1, .iload_n 3, 0), (25, .iaload, 1, .iaload, 0), (26, .aload_n 0, 1, .aload_n 0, 0), (27, .getfield 448, 3, .getfield 34, 426), (30, .if_icmp .ne 5, 3, .if_icmp .ne 5, 0)]
def m_X7_mustBe_r1 : List mj_I := [(33, .iload_n 3, 1, .iload_n 3, 0), (34, .ireturn, 1, .ireturn, 0), (35, .iinc 3 1, 3, .iinc 3 1, 0), (38, .goto (-36), 3, .goto (-36), 0), (41, .bipush (-2), 2, .bipush (-2), 0), (43, .ireturn, 1, .ireturn, 0)]
def m_X7_mustBe_E : List (List mj_I) := [m_X7_mustBe_r0, m_X7_mustBe_r1]
def m_X7_mustBe : mj_M := (yX7_mustBe, cX7_mustBe, 4, (some .int), m_X7_mustBe_E)
def m_X7_mostLeft_r0 : List mj_I := [(0, .iconst 0, 1, .iconst 0, 0), (1, .istore_n 3, 1, .istore_n 3, 0), (2, .iconst 0, 1, .iconst 0, 0), (3, .istore 4, 2, .istore 4, 0), (5, .iload 4, 2, .iload 4, 0), (7, .iload_n 2, 1, .iload_n 2, 0), (8, .if_icmp .ge 23, 3, .if_icmp .ge 23, 0), (11, .iload_n 3, 1, .iload_n 3, 0), (12, .aload_n 0, 1, .aload_n 0, 0), (13, .getfield 450, 3, .getfield 11, 430), (16, .iload_n 1, 1, .iload_n 1, 0), (17, .aaload, 1, .aaload, 0), (18, .iload 4, 2, .iload 4, 0), (20, .iaload, 1, .iaload, 0), (21, .invokestatic 72239, 3, .invokestatic 57, 972), (24, .istore_n 3, 1, .istore_n 3, 0), (25, .iinc 4 1, 3, .iinc 4 1, 0), (28, .goto (-23), 3, .goto (-23), 0), (31, .iload_n 3, 1, .iload_n 3, 0)]
def m_X7_mostLeft_r1 : List mj_I := [(32, .ireturn, 1, .ireturn, 0)]
def m_X7_mostLeft_E : List (List mj_I) := [m_X7_mostLeft_r0, m_X7_mostLeft_r1]
def m_X7_mostLeft : mj_M := (yX7_mostLeft, cX7_mostLeft, 5, (some .int), m_X7_mostLeft_E)
def m_X7_best_r0 : List mj_I := [(0, .bipush (-2), 2, .bipush (-2), 0), (2, .istore_n 2, 1, .istore_n 2, 0), (3, .iconst 0, 1, .iconst 0, 0), (4, .istore_n 3, 1, .istore_n 3, 0), (5, .iconst 0, 1, .iconst 0, 0), (6, .istore 4, 2, .istore 4, 0), (8, .iload 4, 2, .iload 4, 0), (10, .aload_n 1, 1, .aload_n 1, 0), (11, .getfield 78, 3, .getfield 44, 237), (14, .if_icmp .ge 46, 3, .if_icmp .ge 46, 0), (17, .aload_n 0, 1, .aload_n 0, 0), (18, .getfield 448, 3, .getfield 34, 426), (21, .ifCond .le 39, 3, .ifCond .le 39, 0), (24, .aload_n 0, 1, .aload_n 0, 0), (25, .iload 4, 2, .iload 4, 0), (27, .aload_n 1, 1, .aload_n 1, 0), (28, .getfield 65, 3, .getfield 19, 193), (31, .invokevirtual 16695, 3, .invokevirtual 62, 968)]
def m_X7_best_r1 : List mj_I := [(34, .istore 5, 2, .istore 5, 0), (36, .iload_n 2, 1, .iload_n 2, 0), (37, .bipush (-2), 2, .bipush (-2), 0), (39, .if_icmp .eq 9, 3, .if_icmp .eq 9, 0), (42, .iload 5, 2, .iload 5, 0), (44, .iload_n 3, 1, .iload_n 3, 0), (45, .if_icmp .ge 9, 3, .if_icmp .ge 9, 0), (48, .iload 4, 2, .iload 4, 0), (50, .istore_n 2, 1, .istore_n 2, 0), (51, .iload 5, 2, .iload 5, 0), (53, .istore_n 3, 1, .istore_n 3, 0), (54, .iinc 4 1, 3, .iinc 4 1, 0), (57, .goto (-49), 3, .goto (-49), 0), (60, .iload_n 2, 1, .iload_n 2, 0), (61, .ireturn, 1, .ireturn, 0)]
def m_X7_best_E : List (List mj_I) := [m_X7_best_r0, m_X7_best_r1]
def m_X7_best : mj_M := (yX7_best, cX7_best, 6, (some .int), m_X7_best_E)
def m_X8_init_r0 : List mj_I := [(0, .aload_n 0, 1, .aload_n 0, 0), (1, .invokespecial 31, 3, .invokespecial 1, 130), (4, .aload_n 0, 1, .aload_n 0, 0), (5, .new 6, 3, .new 7, 133), (8, .dup, 1, .dup, 0), (9, .invokespecial 9238, 3, .invokespecial 9, 135), (12, .putfield 512, 3, .putfield 10, 438), (15, .aload_n 0, 1, .aload_n 0, 0), (16, .new 1, 3, .new 16, 181), (19, .dup, 1, .dup, 0), (20, .invokespecial 4369, 3, .invokespecial 18, 183), (23, .putfield 515, 3, .putfield 19, 441), (26, .aload_n 0, 1, .aload_n 0, 0), (27, .new 1, 3, .new 16, 181), (30, .dup, 1, .dup, 0), (31, .invokespecial 4369, 3, .invokespecial 18, 183)]
def m_X8_init_r1 : List mj_I := [(34, .putfield 516, 3, .putfield 23, 442), (37, .aload_n 0, 1, .aload_n 0, 0), (38, .new 5, 3, .new 26, 271), (41, .dup, 1, .dup, 0), (42, .invokespecial 8469, 3, .invokespecial 28, 273), (45, .putfield 517, 3, .putfield 29, 443), (48, .aload_n 0, 1, .aload_n 0, 0), (49, .new 5, 3, .new 26, 271), (52, .dup, 1, .dup, 0), (53, .invokespecial 8469, 3, .invokespecial 28, 273), (56, .putfield 518, 3, .putfield 33, 444), (59, .aload_n 0, 1, .aload_n 0, 0), (60, .new 2, 3, .new 36, 312), (63, .dup, 1, .dup, 0)]
def m_X8_init_r2 : List mj_I := [(64, .invokespecial 4882, 3, .invokespecial 38, 314), (67, .putfield 519, 3, .putfield 39, 445), (70, .aload_n 0, 1, .aload_n 0, 0), (71, .new 4, 3, .new 43, 339), (74, .dup, 1, .dup, 0), (75, .invokespecial 7188, 3, .invokespecial 45, 341), (78, .putfield 520, 3, .putfield 46, 446), (81, .aload_n 0, 1, .aload_n 0, 0), (82, .bipush 6, 2, .bipush 6, 0), (84, .newarray .int, 2, .newarray .int, 0), (86, .putfield 521, 3, .putfield 50, 447), (89, .aload_n 0, 1, .aload_n 0, 0), (90, .new 0, 3, .new 54, 365), (93, .dup, 1, .dup, 0), (94, .invokespecial 1040, 3, .invokespecial 56, 367)]
def m_X8_init_r3 : List mj_I := [(97, .putfield 522, 3, .putfield 57, 448), (100, .aload_n 0, 1, .aload_n 0, 0), (101, .new 0, 3, .new 54, 365), (104, .dup, 1, .dup, 0), (105, .invokespecial 1040, 3, .invokespecial 56, 367), (108, .putfield 523, 3, .putfield 61, 449), (111, .aload_n 0, 1, .aload_n 0, 0), (112, .new 3, 3, .new 64, 398), (115, .dup, 1, .dup, 0), (116, .invokespecial 6419, 3, .invokespecial 66, 400), (119, .putfield 525, 3, .putfield 67, 451), (122, .aload_n 0, 1, .aload_n 0, 0), (123, .new 7, 3, .new 71, 418), (126, .dup, 1, .dup, 0), (127, .invokespecial 15127, 3, .invokespecial 73, 420)]
def m_X8_init_r4 : List mj_I := [(130, .putfield 526, 3, .putfield 74, 452), (133, .return_, 1, .return_, 0)]
def m_X8_init_E : List (List mj_I) := [m_X8_init_r0, m_X8_init_r1, m_X8_init_r2, m_X8_init_r3, m_X8_init_r4]
def m_X8_init : mj_M := (yX8_init, cX8_init, 1, none, m_X8_init_E)
def m_X8_feed_r0 : List mj_I := [(0, .aload_n 0, 1, .aload_n 0, 0), (1, .getfield 512, 3, .getfield 10, 438), (4, .bipush 20, 2, .bipush 20, 0), (6, .invokevirtual 9510, 3, .invokevirtual 78, 488), (9, .ifCond .ne 5, 3, .ifCond .ne 5, 0), (12, .iconst (-1), 1, .iconst (-1), 0), (13, .ireturn, 1, .ireturn, 0), (14, .aload_n 0, 1, .aload_n 0, 0), (15, .getfield 512, 3, .getfield 10, 438), (18, .iload_n 1, 1, .iload_n 1, 0), (19, .invokevirtual 9766, 3, .invokevirtual 82, 492), (22, .aload_n 0, 1, .aload_n 0, 0), (23, .getfield 512, 3, .getfield 10, 438), (26, .iload_n 2, 1, .iload_n 2, 0), (27, .invokevirtual 9766, 3, .invokevirtual 82, 492), (30, .aload_n 0, 1, .aload_n 0, 0), (31, .getfield 512, 3, .getfield 10, 438)]
def m_X8_feed_r1 : List mj_I := [(34, .iload_n 3, 1, .iload_n 3, 0), (35, .invokevirtual 9766, 3, .invokevirtual 82, 492), (38, .aload_n 0, 1, .aload_n 0, 0), (39, .getfield 512, 3, .getfield 10, 438), (42, .iload 4, 2, .iload 4, 0), (44, .invokevirtual 9766, 3, .invokevirtual 82, 492), (47, .aload_n 0, 1, .aload_n 0, 0), (48, .getfield 512, 3, .getfield 10, 438), (51, .iload 5, 2, .iload 5, 0), (53, .invokevirtual 9766, 3, .invokevirtual 82, 492), (56, .aload_n 0, 1, .aload_n 0, 0), (57, .getfield 512, 3, .getfield 10, 438), (60, .getfield 385, 3, .getfield 86, 141), (63, .ireturn, 1, .ireturn, 0)]
def m_X8_feed_E : List (List mj_I) := [m_X8_feed_r0, m_X8_feed_r1]
def m_X8_feed : mj_M := (yX8_feed, cX8_feed, 6, (some .int), m_X8_feed_E)
def m_X8_draft_r0 : List mj_I := [(0, .iload_n 1, 1, .iload_n 1, 0), (1, .ifCond .lt 14, 3, .ifCond .lt 14, 0), (4, .iload_n 1, 1, .iload_n 1, 0), (5, .aload_n 0, 1, .aload_n 0, 0), (6, .getfield 512, 3, .getfield 10, 438), (9, .getfield 385, 3, .getfield 86, 141), (12, .if_icmp .le 9, 3, .if_icmp .le 9, 0), (15, .aload_n 0, 1, .aload_n 0, 0), (16, .iconst 2, 1, .iconst 2, 0), (17, .invokevirtual 33832, 3, .invokevirtual 90, 500), (20, .ireturn, 1, .ireturn, 0), (21, .aload_n 0, 1, .aload_n 0, 0), (22, .getfield 512, 3, .getfield 10, 438), (25, .iload_n 1, 1, .iload_n 1, 0), (26, .aload_n 0, 1, .aload_n 0, 0), (27, .getfield 516, 3, .getfield 23, 442), (30, .invokevirtual 10038, 3, .invokevirtual 94, 504)]
def m_X8_draft_r1 : List mj_I := [(33, .ifCond .ne 9, 3, .ifCond .ne 9, 0), (36, .aload_n 0, 1, .aload_n 0, 0), (37, .iconst 4, 1, .iconst 4, 0), (38, .invokevirtual 33832, 3, .invokevirtual 90, 500), (41, .ireturn, 1, .ireturn, 0), (42, .aload_n 0, 1, .aload_n 0, 0), (43, .getfield 515, 3, .getfield 19, 441), (46, .astore_n 2, 1, .astore_n 2, 0), (47, .aload_n 0, 1, .aload_n 0, 0), (48, .aload_n 0, 1, .aload_n 0, 0), (49, .getfield 516, 3, .getfield 23, 442), (52, .putfield 515, 3, .putfield 19, 441), (55, .aload_n 0, 1, .aload_n 0, 0), (56, .aload_n 2, 1, .aload_n 2, 0), (57, .putfield 516, 3, .putfield 23, 442), (60, .aload_n 0, 1, .aload_n 0, 0), (61, .iconst 1, 1, .iconst 1, 0), (62, .putfield 514, 3, .putfield 98, 440)]
def m_X8_draft_r2 : List mj_I := [(65, .aload_n 0, 1, .aload_n 0, 0), (66, .getfield 517, 3, .getfield 29, 443), (69, .aload_n 0, 1, .aload_n 0, 0), (70, .getfield 515, 3, .getfield 19, 441), (73, .invokevirtual 8741, 3, .invokevirtual 102, 655), (76, .aload_n 0, 1, .aload_n 0, 0), (77, .getfield 519, 3, .getfield 39, 445), (80, .invokevirtual 5138, 3, .invokevirtual 106, 659), (83, .aload_n 0, 1, .aload_n 0, 0), (84, .invokevirtual 37144, 3, .invokevirtual 109, 663), (87, .aload_n 0, 1, .aload_n 0, 0), (88, .aload_n 0, 1, .aload_n 0, 0), (89, .getfield 515, 3, .getfield 19, 441), (92, .getfield 65, 3, .getfield 112, 196), (95, .invokevirtual 34088, 3, .invokevirtual 115, 671)]
def m_X8_draft_r3 : List mj_I := [(98, .ireturn, 1, .ireturn, 0)]
def m_X8_draft_E : List (List mj_I) := [m_X8_draft_r0, m_X8_draft_r1, m_X8_draft_r2, m_X8_draft_r3]
def m_X8_draft : mj_M := (yX8_draft, cX8_draft, 3, (some .int), m_X8_draft_E)
def m_X8_fault_r0 : List mj_I := [(0, .aload_n 0, 1, .aload_n 0, 0), (1, .getfield 512, 3, .getfield 10, 438), (4, .getfield 386, 3, .getfield 118, 142), (7, .ireturn, 1, .ireturn, 0)]
def m_X8_fault_E : List (List mj_I) := [m_X8_fault_r0]
def m_X8_fault : mj_M := (yX8_fault, cX8_fault, 1, (some .int), m_X8_fault_E)
def m_X8_where_r0 : List mj_I := [(0, .aload_n 0, 1, .aload_n 0, 0), (1, .getfield 513, 3, .getfield 121, 439), (4, .iconst 4, 1, .iconst 4, 0), (5, .if_icmp .ne 13, 3, .if_icmp .ne 13, 0), (8, .aload_n 0, 1, .aload_n 0, 0), (9, .getfield 512, 3, .getfield 10, 438), (12, .getfield 387, 3, .getfield 124, 145), (15, .goto 4, 3, .goto 4, 0), (18, .iconst (-1), 1, .iconst (-1), 0), (19, .ireturn, 1, .ireturn, 0)]
def m_X8_where_E : List (List mj_I) := [m_X8_where_r0]
def m_X8_where : mj_M := (yX8_where, cX8_where, 1, (some .int), m_X8_where_E)
def m_X8_man_r0 : List mj_I := [(0, .aload_n 0, 1, .aload_n 0, 0), (1, .iload_n 1, 1, .iload_n 1, 0), (2, .invokevirtual 34856, 3, .invokevirtual 127, 687), (5, .ifCond .ne 9, 3, .ifCond .ne 9, 0), (8, .aload_n 0, 1, .aload_n 0, 0), (9, .iconst 1, 1, .iconst 1, 0), (10, .invokevirtual 33832, 3, .invokevirtual 90, 500), (13, .ireturn, 1, .ireturn, 0), (14, .iload_n 2, 1, .iload_n 2, 0), (15, .tableswitch 131 0 5 #[37, 51, 65, 79, 93, 107], 37, .tableswitch 131 0 5 #[37, 51, 65, 79, 93, 107], 0)]
def m_X8_man_r1 : List mj_I := [(52, .aload_n 0, 1, .aload_n 0, 0), (53, .aload_n 0, 1, .aload_n 0, 0), (54, .getfield 517, 3, .getfield 29, 443), (57, .getfield 320, 3, .getfield 130, 279), (60, .iload_n 1, 1, .iload_n 1, 0), (61, .iaload, 1, .iaload, 0), (62, .invokevirtual 34088, 3, .invokevirtual 115, 671)]
def m_X8_man_r2 : List mj_I := [(65, .ireturn, 1, .ireturn, 0), (66, .aload_n 0, 1, .aload_n 0, 0), (67, .aload_n 0, 1, .aload_n 0, 0), (68, .getfield 515, 3, .getfield 19, 441), (71, .getfield 67, 3, .getfield 133, 203), (74, .iload_n 1, 1, .iload_n 1, 0), (75, .iaload, 1, .iaload, 0), (76, .invokevirtual 34088, 3, .invokevirtual 115, 671), (79, .ireturn, 1, .ireturn, 0), (80, .aload_n 0, 1, .aload_n 0, 0), (81, .aload_n 0, 1, .aload_n 0, 0), (82, .getfield 517, 3, .getfield 29, 443), (85, .getfield 321, 3, .getfield 136, 282), (88, .iload_n 1, 1, .iload_n 1, 0), (89, .iaload, 1, .iaload, 0), (90, .invokevirtual 34088, 3, .invokevirtual 115, 671), (93, .ireturn, 1, .ireturn, 0), (94, .aload_n 0, 1, .aload_n 0, 0), (95, .aload_n 0, 1, .aload_n 0, 0)]
def m_X8_man_r3 : List mj_I := [(96, .getfield 515, 3, .getfield 19, 441), (99, .getfield 69, 3, .getfield 139, 211), (102, .iload_n 1, 1, .iload_n 1, 0), (103, .iaload, 1, .iaload, 0), (104, .invokevirtual 34088, 3, .invokevirtual 115, 671), (107, .ireturn, 1, .ireturn, 0), (108, .aload_n 0, 1, .aload_n 0, 0), (109, .aload_n 0, 1, .aload_n 0, 0), (110, .getfield 515, 3, .getfield 19, 441), (113, .getfield 70, 3, .getfield 142, 216), (116, .iload_n 1, 1, .iload_n 1, 0), (117, .iaload, 1, .iaload, 0), (118, .invokevirtual 34088, 3, .invokevirtual 115, 671), (121, .ireturn, 1, .ireturn, 0), (122, .aload_n 0, 1, .aload_n 0, 0), (123, .aload_n 0, 1, .aload_n 0, 0), (124, .getfield 517, 3, .getfield 29, 443), (127, .getfield 324, 3, .getfield 145, 288)]
def m_X8_man_r4 : List mj_I := [(130, .aload_n 0, 1, .aload_n 0, 0), (131, .getfield 517, 3, .getfield 29, 443), (134, .getfield 320, 3, .getfield 130, 279), (137, .iload_n 1, 1, .iload_n 1, 0), (138, .iaload, 1, .iaload, 0), (139, .ishr, 1, .ishr, 0), (140, .iconst 1, 1, .iconst 1, 0), (141, .iand, 1, .iand, 0), (142, .invokevirtual 34088, 3, .invokevirtual 115, 671), (145, .ireturn, 1, .ireturn, 0), (146, .aload_n 0, 1, .aload_n 0, 0), (147, .iconst 1, 1, .iconst 1, 0), (148, .invokevirtual 33832, 3, .invokevirtual 90, 500), (151, .ireturn, 1, .ireturn, 0)]
def m_X8_man_E : List (List mj_I) := [m_X8_man_r0, m_X8_man_r1, m_X8_man_r2, m_X8_man_r3, m_X8_man_r4]
def m_X8_man : mj_M := (yX8_man, cX8_man, 3, (some .int), m_X8_man_E)
def m_X8_spared_r0 : List mj_I := [(0, .aload_n 0, 1, .aload_n 0, 0), (1, .getfield 514, 3, .getfield 98, 440), (4, .ifCond .eq 17, 3, .ifCond .eq 17, 0), (7, .aload_n 0, 1, .aload_n 0, 0), (8, .aload_n 0, 1, .aload_n 0, 0), (9, .getfield 517, 3, .getfield 29, 443), (12, .getfield 324, 3, .getfield 145, 288), (15, .invokevirtual 34088, 3, .invokevirtual 115, 671), (18, .goto 8, 3, .goto 8, 0), (21, .aload_n 0, 1, .aload_n 0, 0), (22, .iconst 1, 1, .iconst 1, 0), (23, .invokevirtual 33832, 3, .invokevirtual 90, 500), (26, .ireturn, 1, .ireturn, 0)]
def m_X8_spared_E : List (List mj_I) := [m_X8_spared_r0]
def m_X8_spared : mj_M := (yX8_spared, cX8_spared, 1, (some .int), m_X8_spared_E)
def m_X8_many_r0 : List mj_I := [(0, .aload_n 0, 1, .aload_n 0, 0), (1, .getfield 514, 3, .getfield 98, 440), (4, .ifCond .ne 9, 3, .ifCond .ne 9, 0), (7, .aload_n 0, 1, .aload_n 0, 0), (8, .iconst 1, 1, .iconst 1, 0), (9, .invokevirtual 33832, 3, .invokevirtual 90, 500), (12, .ireturn, 1, .ireturn, 0), (13, .iload_n 1, 1, .iload_n 1, 0), (14, .invokestatic 35864, 3, .invokestatic 148, 699), (17, .ifCond .ne 9, 3, .ifCond .ne 9, 0), (20, .aload_n 0, 1, .aload_n 0, 0), (21, .iconst 2, 1, .iconst 2, 0), (22, .invokevirtual 33832, 3, .invokevirtual 90, 500), (25, .ireturn, 1, .ireturn, 0), (26, .iconst 0, 1, .iconst 0, 0), (27, .istore_n 2, 1, .istore_n 2, 0), (28, .iconst 0, 1, .iconst 0, 0), (29, .istore_n 3, 1, .istore_n 3, 0), (30, .iload_n 3, 1, .iload_n 3, 0), (31, .aload_n 0, 1, .aload_n 0, 0)]
def m_X8_many_r1 : List mj_I := [(32, .getfield 515, 3, .getfield 19, 441), (35, .getfield 65, 3, .getfield 112, 196), (38, .if_icmp .ge 25, 3, .if_icmp .ge 25, 0), (41, .aload_n 0, 1, .aload_n 0, 0), (42, .getfield 517, 3, .getfield 29, 443), (45, .getfield 320, 3, .getfield 130, 279), (48, .iload_n 3, 1, .iload_n 3, 0), (49, .iaload, 1, .iaload, 0), (50, .iload_n 1, 1, .iload_n 1, 0), (51, .if_icmp .ne 6, 3, .if_icmp .ne 6, 0), (54, .iinc 2 1, 3, .iinc 2 1, 0), (57, .iinc 3 1, 3, .iinc 3 1, 0), (60, .goto (-30), 3, .goto (-30), 0), (63, .aload_n 0, 1, .aload_n 0, 0)]
def m_X8_many_r2 : List mj_I := [(64, .iload_n 2, 1, .iload_n 2, 0), (65, .invokevirtual 34088, 3, .invokevirtual 115, 671), (68, .ireturn, 1, .ireturn, 0)]
def m_X8_many_E : List (List mj_I) := [m_X8_many_r0, m_X8_many_r1, m_X8_many_r2]
def m_X8_many : mj_M := (yX8_many, cX8_many, 4, (some .int), m_X8_many_E)
def m_X8_wouldGo_r0 : List mj_I := [(0, .aload_n 0, 1, .aload_n 0, 0), (1, .iload_n 1, 1, .iload_n 1, 0), (2, .invokevirtual 34856, 3, .invokevirtual 127, 687), (5, .ifCond .ne 9, 3, .ifCond .ne 9, 0), (8, .aload_n 0, 1, .aload_n 0, 0), (9, .iconst 1, 1, .iconst 1, 0), (10, .invokevirtual 33832, 3, .invokevirtual 90, 500), (13, .ireturn, 1, .ireturn, 0), (14, .aload_n 0, 1, .aload_n 0, 0), (15, .aload_n 0, 1, .aload_n 0, 0), (16, .getfield 520, 3, .getfield 46, 446), (19, .aload_n 0, 1, .aload_n 0, 0), (20, .getfield 515, 3, .getfield 19, 441), (23, .aload_n 0, 1, .aload_n 0, 0), (24, .getfield 517, 3, .getfield 29, 443), (27, .iload_n 1, 1, .iload_n 1, 0), (28, .iconst 1, 1, .iconst 1, 0), (29, .iload_n 1, 1, .iload_n 1, 0), (30, .ishl, 1, .ishl, 0), (31, .invokevirtual 8020, 3, .invokevirtual 151, 706)]
def m_X8_wouldGo_r1 : List mj_I := [(34, .invokevirtual 34088, 3, .invokevirtual 115, 671), (37, .ireturn, 1, .ireturn, 0)]
def m_X8_wouldGo_E : List (List mj_I) := [m_X8_wouldGo_r0, m_X8_wouldGo_r1]
def m_X8_wouldGo : mj_M := (yX8_wouldGo, cX8_wouldGo, 2, (some .int), m_X8_wouldGo_E)
def m_X8_takenBy_r0 : List mj_I := [(0, .aload_n 0, 1, .aload_n 0, 0), (1, .iload_n 1, 1, .iload_n 1, 0), (2, .invokevirtual 20776, 3, .invokevirtual 155, 715), (5, .istore_n 2, 1, .istore_n 2, 0), (6, .iload_n 2, 1, .iload_n 2, 0), (7, .ifCond .ne 17, 3, .ifCond .ne 17, 0), (10, .aload_n 0, 1, .aload_n 0, 0), (11, .aload_n 0, 1, .aload_n 0, 0), (12, .getfield 520, 3, .getfield 46, 446), (15, .getfield 256, 3, .getfield 158, 347), (18, .invokevirtual 34088, 3, .invokevirtual 115, 671), (21, .goto 8, 3, .goto 8, 0), (24, .aload_n 0, 1, .aload_n 0, 0), (25, .iload_n 2, 1, .iload_n 2, 0), (26, .invokevirtual 33832, 3, .invokevirtual 90, 500), (29, .ireturn, 1, .ireturn, 0)]
def m_X8_takenBy_E : List (List mj_I) := [m_X8_takenBy_r0]
def m_X8_takenBy : mj_M := (yX8_takenBy, cX8_takenBy, 3, (some .int), m_X8_takenBy_E)
def m_X8_goesBy_r0 : List mj_I := [(0, .aload_n 0, 1, .aload_n 0, 0), (1, .iload_n 1, 1, .iload_n 1, 0), (2, .invokevirtual 20776, 3, .invokevirtual 155, 715), (5, .istore_n 2, 1, .istore_n 2, 0), (6, .iload_n 2, 1, .iload_n 2, 0), (7, .ifCond .ne 27, 3, .ifCond .ne 27, 0), (10, .aload_n 0, 1, .aload_n 0, 0), (11, .aload_n 0, 1, .aload_n 0, 0), (12, .getfield 520, 3, .getfield 46, 446), (15, .getfield 256, 3, .getfield 158, 347), (18, .aload_n 0, 1, .aload_n 0, 0), (19, .getfield 520, 3, .getfield 46, 446), (22, .getfield 259, 3, .getfield 161, 355), (25, .invokestatic 38440, 3, .invokestatic 164, 736), (28, .invokevirtual 34088, 3, .invokevirtual 115, 671), (31, .goto 8, 3, .goto 8, 0)]
def m_X8_goesBy_r1 : List mj_I := [(34, .aload_n 0, 1, .aload_n 0, 0), (35, .iload_n 2, 1, .iload_n 2, 0), (36, .invokevirtual 33832, 3, .invokevirtual 90, 500), (39, .ireturn, 1, .ireturn, 0)]
def m_X8_goesBy_E : List (List mj_I) := [m_X8_goesBy_r0, m_X8_goesBy_r1]
def m_X8_goesBy : mj_M := (yX8_goesBy, cX8_goesBy, 3, (some .int), m_X8_goesBy_E)
def m_X8_sendsBy_r0 : List mj_I := [(0, .aload_n 0, 1, .aload_n 0, 0), (1, .iload_n 2, 1, .iload_n 2, 0), (2, .invokevirtual 34856, 3, .invokevirtual 127, 687), (5, .ifCond .eq 11, 3, .ifCond .eq 11, 0), (8, .aload_n 0, 1, .aload_n 0, 0), (9, .iload_n 1, 1, .iload_n 1, 0), (10, .invokevirtual 20776, 3, .invokevirtual 155, 715), (13, .goto 4, 3, .goto 4, 0), (16, .iconst 1, 1, .iconst 1, 0), (17, .istore_n 3, 1, .istore_n 3, 0), (18, .iload_n 3, 1, .iload_n 3, 0), (19, .ifCond .ne 19, 3, .ifCond .ne 19, 0), (22, .aload_n 0, 1, .aload_n 0, 0), (23, .aload_n 0, 1, .aload_n 0, 0), (24, .getfield 520, 3, .getfield 46, 446), (27, .getfield 259, 3, .getfield 161, 355), (30, .iload_n 2, 1, .iload_n 2, 0), (31, .iaload, 1, .iaload, 0)]
def m_X8_sendsBy_r1 : List mj_I := [(32, .invokevirtual 34088, 3, .invokevirtual 115, 671), (35, .goto 8, 3, .goto 8, 0), (38, .aload_n 0, 1, .aload_n 0, 0), (39, .iload_n 3, 1, .iload_n 3, 0), (40, .invokevirtual 33832, 3, .invokevirtual 90, 500), (43, .ireturn, 1, .ireturn, 0)]
def m_X8_sendsBy_E : List (List mj_I) := [m_X8_sendsBy_r0, m_X8_sendsBy_r1]
def m_X8_sendsBy : mj_M := (yX8_sendsBy, cX8_sendsBy, 4, (some .int), m_X8_sendsBy_E)
def m_X8_lossBy_r0 : List mj_I := [(0, .aload_n 0, 1, .aload_n 0, 0), (1, .iload_n 2, 1, .iload_n 2, 0), (2, .invokevirtual 34856, 3, .invokevirtual 127, 687), (5, .ifCond .eq 11, 3, .ifCond .eq 11, 0), (8, .aload_n 0, 1, .aload_n 0, 0), (9, .iload_n 1, 1, .iload_n 1, 0), (10, .invokevirtual 20776, 3, .invokevirtual 155, 715), (13, .goto 4, 3, .goto 4, 0), (16, .iconst 1, 1, .iconst 1, 0), (17, .istore_n 3, 1, .istore_n 3, 0), (18, .iload_n 3, 1, .iload_n 3, 0), (19, .ifCond .ne 22, 3, .ifCond .ne 22, 0), (22, .aload_n 0, 1, .aload_n 0, 0), (23, .aload_n 0, 1, .aload_n 0, 0), (24, .getfield 520, 3, .getfield 46, 446), (27, .aload_n 0, 1, .aload_n 0, 0), (28, .getfield 515, 3, .getfield 19, 441), (31, .iload_n 2, 1, .iload_n 2, 0)]
def m_X8_lossBy_r1 : List mj_I := [(32, .invokevirtual 8244, 3, .invokevirtual 168, 747), (35, .invokevirtual 34088, 3, .invokevirtual 115, 671), (38, .goto 8, 3, .goto 8, 0), (41, .aload_n 0, 1, .aload_n 0, 0), (42, .iload_n 3, 1, .iload_n 3, 0), (43, .invokevirtual 33832, 3, .invokevirtual 90, 500), (46, .ireturn, 1, .ireturn, 0)]
def m_X8_lossBy_E : List (List mj_I) := [m_X8_lossBy_r0, m_X8_lossBy_r1]
def m_X8_lossBy : mj_M := (yX8_lossBy, cX8_lossBy, 4, (some .int), m_X8_lossBy_E)
def m_X8_firstTaken_r0 : List mj_I := [(0, .aload_n 0, 1, .aload_n 0, 0), (1, .iload_n 1, 1, .iload_n 1, 0), (2, .invokevirtual 34856, 3, .invokevirtual 127, 687), (5, .ifCond .ne 9, 3, .ifCond .ne 9, 0), (8, .aload_n 0, 1, .aload_n 0, 0), (9, .iconst 1, 1, .iconst 1, 0), (10, .invokevirtual 33832, 3, .invokevirtual 90, 500), (13, .ireturn, 1, .ireturn, 0), (14, .aload_n 0, 1, .aload_n 0, 0), (15, .getfield 521, 3, .getfield 50, 447), (18, .aload_n 0, 1, .aload_n 0, 0), (19, .getfield 515, 3, .getfield 19, 441), (22, .getfield 65, 3, .getfield 112, 196), (25, .invokestatic 38696, 3, .invokestatic 172, 755), (28, .iconst 0, 1, .iconst 0, 0), (29, .istore_n 2, 1, .istore_n 2, 0), (30, .iload_n 2, 1, .iload_n 2, 0), (31, .sipush 720, 3, .sipush 720, 0)]
def m_X8_firstTaken_r1 : List mj_I := [(34, .if_icmp .ge 100, 3, .if_icmp .ge 100, 0), (37, .aload_n 0, 1, .aload_n 0, 0), (38, .getfield 520, 3, .getfield 46, 446), (41, .aload_n 0, 1, .aload_n 0, 0), (42, .getfield 515, 3, .getfield 19, 441), (45, .aload_n 0, 1, .aload_n 0, 0), (46, .getfield 517, 3, .getfield 29, 443), (49, .aload_n 0, 1, .aload_n 0, 0), (50, .getfield 517, 3, .getfield 29, 443), (53, .getfield 324, 3, .getfield 145, 288), (56, .aload_n 0, 1, .aload_n 0, 0), (57, .getfield 521, 3, .getfield 50, 447), (60, .invokevirtual 7508, 3, .invokevirtual 176, 723), (63, .aload_n 0, 1, .aload_n 0, 0)]
def m_X8_firstTaken_r2 : List mj_I := [(64, .getfield 520, 3, .getfield 46, 446), (67, .getfield 256, 3, .getfield 158, 347), (70, .iload_n 1, 1, .iload_n 1, 0), (71, .ishr, 1, .ishr, 0), (72, .iconst 1, 1, .iconst 1, 0), (73, .iand, 1, .iand, 0), (74, .iconst 1, 1, .iconst 1, 0), (75, .if_icmp .ne 22, 3, .if_icmp .ne 22, 0), (78, .aload_n 0, 1, .aload_n 0, 0), (79, .aload_n 0, 1, .aload_n 0, 0), (80, .getfield 521, 3, .getfield 50, 447), (83, .aload_n 0, 1, .aload_n 0, 0), (84, .getfield 515, 3, .getfield 19, 441), (87, .getfield 65, 3, .getfield 112, 196), (90, .invokestatic 38952, 3, .invokestatic 180, 758), (93, .invokevirtual 34088, 3, .invokevirtual 115, 671)]
def m_X8_firstTaken_r3 : List mj_I := [(96, .ireturn, 1, .ireturn, 0), (97, .aload_n 0, 1, .aload_n 0, 0), (98, .getfield 521, 3, .getfield 50, 447), (101, .aload_n 0, 1, .aload_n 0, 0), (102, .getfield 515, 3, .getfield 19, 441), (105, .getfield 65, 3, .getfield 112, 196), (108, .aload_n 0, 1, .aload_n 0, 0), (109, .getfield 520, 3, .getfield 46, 446), (112, .getfield 258, 3, .getfield 184, 352), (115, .invokestatic 39736, 3, .invokestatic 187, 761), (118, .ifCond .ne 10, 3, .ifCond .ne 10, 0), (121, .aload_n 0, 1, .aload_n 0, 0), (122, .bipush (-2), 2, .bipush (-2), 0), (124, .invokevirtual 34088, 3, .invokevirtual 115, 671), (127, .ireturn, 1, .ireturn, 0)]
def m_X8_firstTaken_r4 : List mj_I := [(128, .iinc 2 1, 3, .iinc 2 1, 0), (131, .goto (-101), 3, .goto (-101), 0), (134, .aload_n 0, 1, .aload_n 0, 0), (135, .bipush (-2), 2, .bipush (-2), 0), (137, .invokevirtual 34088, 3, .invokevirtual 115, 671), (140, .ireturn, 1, .ireturn, 0)]
def m_X8_firstTaken_E : List (List mj_I) := [m_X8_firstTaken_r0, m_X8_firstTaken_r1, m_X8_firstTaken_r2, m_X8_firstTaken_r3, m_X8_firstTaken_r4]
def m_X8_firstTaken : mj_M := (yX8_firstTaken, cX8_firstTaken, 3, (some .int), m_X8_firstTaken_E)
def m_X8_levyBy_r0 : List mj_I := [(0, .aload_n 0, 1, .aload_n 0, 0), (1, .getfield 514, 3, .getfield 98, 440), (4, .ifCond .ne 5, 3, .ifCond .ne 5, 0), (7, .iconst 1, 1, .iconst 1, 0), (8, .ireturn, 1, .ireturn, 0), (9, .aload_n 0, 1, .aload_n 0, 0), (10, .iload_n 1, 1, .iload_n 1, 0), (11, .invokevirtual 21032, 3, .invokevirtual 191, 719), (14, .ifCond .ne 5, 3, .ifCond .ne 5, 0), (17, .iconst 2, 1, .iconst 2, 0), (18, .ireturn, 1, .ireturn, 0), (19, .aload_n 0, 1, .aload_n 0, 0), (20, .getfield 520, 3, .getfield 46, 446), (23, .aload_n 0, 1, .aload_n 0, 0), (24, .getfield 515, 3, .getfield 19, 441), (27, .aload_n 0, 1, .aload_n 0, 0), (28, .getfield 517, 3, .getfield 29, 443), (31, .aload_n 0, 1, .aload_n 0, 0)]
def m_X8_levyBy_r1 : List mj_I := [(32, .getfield 517, 3, .getfield 29, 443), (35, .getfield 324, 3, .getfield 145, 288), (38, .aload_n 0, 1, .aload_n 0, 0), (39, .getfield 521, 3, .getfield 50, 447), (42, .invokevirtual 7508, 3, .invokevirtual 176, 723), (45, .iconst 0, 1, .iconst 0, 0), (46, .ireturn, 1, .ireturn, 0)]
def m_X8_levyBy_E : List (List mj_I) := [m_X8_levyBy_r0, m_X8_levyBy_r1]
def m_X8_levyBy : mj_M := (yX8_levyBy, cX8_levyBy, 2, (some .int), m_X8_levyBy_E)
def m_X8_readRow_r0 : List mj_I := [(0, .iload_n 1, 1, .iload_n 1, 0), (1, .ifCond .ge 5, 3, .ifCond .ge 5, 0), (4, .iconst 0, 1, .iconst 0, 0), (5, .ireturn, 1, .ireturn, 0), (6, .iload_n 1, 1, .iload_n 1, 0), (7, .istore_n 2, 1, .istore_n 2, 0), (8, .iconst 0, 1, .iconst 0, 0), (9, .istore_n 3, 1, .istore_n 3, 0), (10, .aload_n 0, 1, .aload_n 0, 0), (11, .getfield 515, 3, .getfield 19, 441), (14, .getfield 65, 3, .getfield 112, 196), (17, .iconst 1, 1, .iconst 1, 0), (18, .isub, 1, .isub, 0), (19, .istore 4, 2, .istore 4, 0), (21, .iload 4, 2, .iload 4, 0), (23, .ifCond .lt 60, 3, .ifCond .lt 60, 0), (26, .iload_n 2, 1, .iload_n 2, 0), (27, .bipush 10, 2, .bipush 10, 0), (29, .irem, 1, .irem, 0), (30, .istore 5, 2, .istore 5, 0)]
def m_X8_readRow_r1 : List mj_I := [(32, .iload_n 2, 1, .iload_n 2, 0), (33, .bipush 10, 2, .bipush 10, 0), (35, .idiv, 1, .idiv, 0), (36, .istore_n 2, 1, .istore_n 2, 0), (37, .iload 5, 2, .iload 5, 0), (39, .aload_n 0, 1, .aload_n 0, 0), (40, .getfield 515, 3, .getfield 19, 441), (43, .getfield 65, 3, .getfield 112, 196), (46, .if_icmp .ge 13, 3, .if_icmp .ge 13, 0), (49, .iload_n 3, 1, .iload_n 3, 0), (50, .iload 5, 2, .iload 5, 0), (52, .ishr, 1, .ishr, 0), (53, .iconst 1, 1, .iconst 1, 0), (54, .iand, 1, .iand, 0), (55, .iconst 1, 1, .iconst 1, 0), (56, .if_icmp .ne 5, 3, .if_icmp .ne 5, 0), (59, .iconst 0, 1, .iconst 0, 0), (60, .ireturn, 1, .ireturn, 0), (61, .iload_n 3, 1, .iload_n 3, 0), (62, .iconst 1, 1, .iconst 1, 0), (63, .iload 5, 2, .iload 5, 0)]
def m_X8_readRow_r2 : List mj_I := [(65, .ishl, 1, .ishl, 0), (66, .ior, 1, .ior, 0), (67, .istore_n 3, 1, .istore_n 3, 0), (68, .aload_n 0, 1, .aload_n 0, 0), (69, .getfield 521, 3, .getfield 50, 447), (72, .iload 4, 2, .iload 4, 0), (74, .iload 5, 2, .iload 5, 0), (76, .iastore, 1, .iastore, 0), (77, .iinc 4 (-1), 3, .iinc 4 (-1), 0), (80, .goto (-59), 3, .goto (-59), 0), (83, .iload_n 2, 1, .iload_n 2, 0), (84, .ifCond .ne 7, 3, .ifCond .ne 7, 0), (87, .iconst 1, 1, .iconst 1, 0), (88, .goto 4, 3, .goto 4, 0), (91, .iconst 0, 1, .iconst 0, 0), (92, .ireturn, 1, .ireturn, 0)]
def m_X8_readRow_E : List (List mj_I) := [m_X8_readRow_r0, m_X8_readRow_r1, m_X8_readRow_r2]
def m_X8_readRow : mj_M := (yX8_readRow, cX8_readRow, 6, (some .boolean), m_X8_readRow_E)
def m_X8_taken_r0 : List mj_I := [(0, .aload_n 0, 1, .aload_n 0, 0), (1, .iload_n 1, 1, .iload_n 1, 0), (2, .invokevirtual 34856, 3, .invokevirtual 127, 687), (5, .ifCond .ne 10, 3, .ifCond .ne 10, 0), (8, .aload_n 0, 1, .aload_n 0, 0), (9, .iconst 1, 1, .iconst 1, 0), (10, .invokevirtual 33832, 3, .invokevirtual 90, 500), (13, .i2l, 1, .i2l, 0), (14, .lreturn, 1, .lreturn, 0), (15, .aload_n 0, 1, .aload_n 0, 0), (16, .aload_n 0, 1, .aload_n 0, 0), (17, .invokevirtual 37400, 3, .invokevirtual 194, 774), (20, .iload_n 1, 1, .iload_n 1, 0), (21, .invokevirtual 2848, 3, .invokevirtual 198, 790), (24, .iload_n 2, 1, .iload_n 2, 0), (25, .invokevirtual 37688, 3, .invokevirtual 202, 798), (28, .lreturn, 1, .lreturn, 0)]
def m_X8_taken_E : List (List mj_I) := [m_X8_taken_r0]
def m_X8_taken : mj_M := (yX8_taken, cX8_taken, 3, (some .long), m_X8_taken_E)
def m_X8_goes_r0 : List mj_I := [(0, .aload_n 0, 1, .aload_n 0, 0), (1, .iload_n 1, 1, .iload_n 1, 0), (2, .invokevirtual 34856, 3, .invokevirtual 127, 687), (5, .ifCond .ne 10, 3, .ifCond .ne 10, 0), (8, .aload_n 0, 1, .aload_n 0, 0), (9, .iconst 1, 1, .iconst 1, 0), (10, .invokevirtual 33832, 3, .invokevirtual 90, 500), (13, .i2l, 1, .i2l, 0), (14, .lreturn, 1, .lreturn, 0), (15, .aload_n 0, 1, .aload_n 0, 0), (16, .aload_n 0, 1, .aload_n 0, 0), (17, .invokevirtual 37400, 3, .invokevirtual 194, 774), (20, .iload_n 1, 1, .iload_n 1, 0), (21, .invokevirtual 3104, 3, .invokevirtual 206, 814), (24, .iload_n 2, 1, .iload_n 2, 0), (25, .invokevirtual 37688, 3, .invokevirtual 202, 798), (28, .lreturn, 1, .lreturn, 0)]
def m_X8_goes_E : List (List mj_I) := [m_X8_goes_r0]
def m_X8_goes : mj_M := (yX8_goes, cX8_goes, 3, (some .long), m_X8_goes_E)
def m_X8_goesFor_r0 : List mj_I := [(0, .aload_n 0, 1, .aload_n 0, 0), (1, .iload_n 1, 1, .iload_n 1, 0), (2, .invokevirtual 34856, 3, .invokevirtual 127, 687), (5, .ifCond .eq 16, 3, .ifCond .eq 16, 0), (8, .aload_n 0, 1, .aload_n 0, 0), (9, .iload_n 2, 1, .iload_n 2, 0), (10, .invokevirtual 34856, 3, .invokevirtual 127, 687), (13, .ifCond .eq 8, 3, .ifCond .eq 8, 0), (16, .iload_n 1, 1, .iload_n 1, 0), (17, .iload_n 2, 1, .iload_n 2, 0), (18, .if_icmp .ne 10, 3, .if_icmp .ne 10, 0), (21, .aload_n 0, 1, .aload_n 0, 0), (22, .iconst 1, 1, .iconst 1, 0), (23, .invokevirtual 33832, 3, .invokevirtual 90, 500), (26, .i2l, 1, .i2l, 0), (27, .lreturn, 1, .lreturn, 0), (28, .aload_n 0, 1, .aload_n 0, 0), (29, .aload_n 0, 1, .aload_n 0, 0), (30, .invokevirtual 37400, 3, .invokevirtual 194, 774)]
def m_X8_goesFor_r1 : List mj_I := [(33, .iload_n 1, 1, .iload_n 1, 0), (34, .iload_n 2, 1, .iload_n 2, 0), (35, .invokevirtual 3376, 3, .invokevirtual 209, 830), (38, .iload_n 3, 1, .iload_n 3, 0), (39, .invokevirtual 37688, 3, .invokevirtual 202, 798), (42, .lreturn, 1, .lreturn, 0)]
def m_X8_goesFor_E : List (List mj_I) := [m_X8_goesFor_r0, m_X8_goesFor_r1]
def m_X8_goesFor : mj_M := (yX8_goesFor, cX8_goesFor, 4, (some .long), m_X8_goesFor_E)
def m_X8_loss_r0 : List mj_I := [(0, .aload_n 0, 1, .aload_n 0, 0), (1, .iload_n 1, 1, .iload_n 1, 0), (2, .invokevirtual 34856, 3, .invokevirtual 127, 687), (5, .ifCond .ne 10, 3, .ifCond .ne 10, 0), (8, .aload_n 0, 1, .aload_n 0, 0), (9, .iconst 1, 1, .iconst 1, 0), (10, .invokevirtual 33832, 3, .invokevirtual 90, 500), (13, .i2l, 1, .i2l, 0), (14, .lreturn, 1, .lreturn, 0), (15, .aload_n 0, 1, .aload_n 0, 0), (16, .aload_n 0, 1, .aload_n 0, 0), (17, .invokevirtual 37400, 3, .invokevirtual 194, 774), (20, .aload_n 0, 1, .aload_n 0, 0), (21, .getfield 515, 3, .getfield 19, 441), (24, .iconst 1, 1, .iconst 1, 0), (25, .iload_n 1, 1, .iload_n 1, 0), (26, .ishl, 1, .ishl, 0), (27, .invokevirtual 4144, 3, .invokevirtual 213, 838), (30, .iload_n 2, 1, .iload_n 2, 0), (31, .invokevirtual 37688, 3, .invokevirtual 202, 798)]
def m_X8_loss_r1 : List mj_I := [(34, .lreturn, 1, .lreturn, 0)]
def m_X8_loss_E : List (List mj_I) := [m_X8_loss_r0, m_X8_loss_r1]
def m_X8_loss : mj_M := (yX8_loss, cX8_loss, 3, (some .long), m_X8_loss_E)
def m_X8_club_r0 : List mj_I := [(0, .aload_n 0, 1, .aload_n 0, 0), (1, .iload_n 1, 1, .iload_n 1, 0), (2, .invokevirtual 35112, 3, .invokevirtual 217, 850), (5, .ifCond .eq 7, 3, .ifCond .eq 7, 0), (8, .iload_n 1, 1, .iload_n 1, 0), (9, .ifCond .ne 10, 3, .ifCond .ne 10, 0), (12, .aload_n 0, 1, .aload_n 0, 0), (13, .iconst 1, 1, .iconst 1, 0), (14, .invokevirtual 33832, 3, .invokevirtual 90, 500), (17, .i2l, 1, .i2l, 0), (18, .lreturn, 1, .lreturn, 0), (19, .getstatic 100, 3, .getstatic 220, 802), (22, .aload_n 0, 1, .aload_n 0, 0), (23, .getfield 515, 3, .getfield 19, 441), (26, .getfield 65, 3, .getfield 112, 196), (29, .iaload, 1, .iaload, 0), (30, .i2l, 1, .i2l, 0), (31, .iload_n 1, 1, .iload_n 1, 0)]
def m_X8_club_r1 : List mj_I := [(32, .invokestatic 72735, 3, .invokestatic 223, 858), (35, .i2l, 1, .i2l, 0), (36, .lmul, 1, .lmul, 0), (37, .lstore_n 3, 1, .lstore_n 3, 0), (38, .aload_n 0, 1, .aload_n 0, 0), (39, .aload_n 0, 1, .aload_n 0, 0), (40, .invokevirtual 37400, 3, .invokevirtual 194, 774), (43, .aload_n 0, 1, .aload_n 0, 0), (44, .getfield 515, 3, .getfield 19, 441), (47, .iload_n 1, 1, .iload_n 1, 0), (48, .invokevirtual 4144, 3, .invokevirtual 213, 838), (51, .lload_n 3, 1, .lload_n 3, 0), (52, .iload_n 2, 1, .iload_n 2, 0), (53, .invokevirtual 37960, 3, .invokevirtual 228, 803), (56, .lreturn, 1, .lreturn, 0)]
def m_X8_club_E : List (List mj_I) := [m_X8_club_r0, m_X8_club_r1]
def m_X8_club : mj_M := (yX8_club, cX8_club, 5, (some .long), m_X8_club_E)
def m_X8_ruin_r0 : List mj_I := [(0, .aload_n 0, 1, .aload_n 0, 0), (1, .iload_n 1, 1, .iload_n 1, 0), (2, .invokevirtual 35112, 3, .invokevirtual 217, 850), (5, .ifCond .eq 7, 3, .ifCond .eq 7, 0), (8, .iload_n 1, 1, .iload_n 1, 0), (9, .ifCond .ne 10, 3, .ifCond .ne 10, 0), (12, .aload_n 0, 1, .aload_n 0, 0), (13, .iconst 1, 1, .iconst 1, 0), (14, .invokevirtual 33832, 3, .invokevirtual 90, 500), (17, .i2l, 1, .i2l, 0), (18, .lreturn, 1, .lreturn, 0), (19, .iload_n 2, 1, .iload_n 2, 0), (20, .ifCond .lt 10, 3, .ifCond .lt 10, 0), (23, .iload_n 2, 1, .iload_n 2, 0), (24, .sipush 999, 3, .sipush 999, 0), (27, .if_icmp .le 10, 3, .if_icmp .le 10, 0), (30, .aload_n 0, 1, .aload_n 0, 0), (31, .iconst 2, 1, .iconst 2, 0)]
def m_X8_ruin_r1 : List mj_I := [(32, .invokevirtual 33832, 3, .invokevirtual 90, 500), (35, .i2l, 1, .i2l, 0), (36, .lreturn, 1, .lreturn, 0), (37, .aload_n 0, 1, .aload_n 0, 0), (38, .aload_n 0, 1, .aload_n 0, 0), (39, .invokevirtual 37400, 3, .invokevirtual 194, 774), (42, .aload_n 0, 1, .aload_n 0, 0), (43, .getfield 515, 3, .getfield 19, 441), (46, .iload_n 1, 1, .iload_n 1, 0), (47, .iload_n 2, 1, .iload_n 2, 0), (48, .invokevirtual 3648, 3, .invokevirtual 232, 868), (51, .iload_n 3, 1, .iload_n 3, 0), (52, .invokevirtual 37688, 3, .invokevirtual 202, 798), (55, .lreturn, 1, .lreturn, 0)]
def m_X8_ruin_E : List (List mj_I) := [m_X8_ruin_r0, m_X8_ruin_r1]
def m_X8_ruin : mj_M := (yX8_ruin, cX8_ruin, 4, (some .long), m_X8_ruin_E)
def m_X8_toJoin_r0 : List mj_I := [(0, .aload_n 0, 1, .aload_n 0, 0), (1, .iload_n 1, 1, .iload_n 1, 0), (2, .invokevirtual 35112, 3, .invokevirtual 217, 850), (5, .ifCond .ne 9, 3, .ifCond .ne 9, 0), (8, .aload_n 0, 1, .aload_n 0, 0), (9, .iconst 1, 1, .iconst 1, 0), (10, .invokevirtual 33832, 3, .invokevirtual 90, 500), (13, .ireturn, 1, .ireturn, 0), (14, .bipush (-2), 2, .bipush (-2), 0), (16, .istore_n 2, 1, .istore_n 2, 0), (17, .lconst 0, 1, .lconst 0, 0), (18, .lstore_n 3, 1, .lstore_n 3, 0), (19, .iconst 0, 1, .iconst 0, 0), (20, .istore 5, 2, .istore 5, 0), (22, .iload 5, 2, .iload 5, 0), (24, .aload_n 0, 1, .aload_n 0, 0), (25, .getfield 515, 3, .getfield 19, 441), (28, .getfield 65, 3, .getfield 112, 196), (31, .if_icmp .ge 54, 3, .if_icmp .ge 54, 0)]
def m_X8_toJoin_r1 : List mj_I := [(34, .iload_n 1, 1, .iload_n 1, 0), (35, .iload 5, 2, .iload 5, 0), (37, .ishr, 1, .ishr, 0), (38, .iconst 1, 1, .iconst 1, 0), (39, .iand, 1, .iand, 0), (40, .ifCond .ne 39, 3, .ifCond .ne 39, 0), (43, .aload_n 0, 1, .aload_n 0, 0), (44, .invokevirtual 37400, 3, .invokevirtual 194, 774), (47, .aload_n 0, 1, .aload_n 0, 0), (48, .getfield 515, 3, .getfield 19, 441), (51, .iconst 1, 1, .iconst 1, 0), (52, .iload 5, 2, .iload 5, 0), (54, .ishl, 1, .ishl, 0), (55, .invokevirtual 4144, 3, .invokevirtual 213, 838), (58, .lstore 6, 2, .lstore 6, 0), (60, .iload_n 2, 1, .iload_n 2, 0), (61, .bipush (-2), 2, .bipush (-2), 0), (63, .if_icmp .eq 10, 3, .if_icmp .eq 10, 0)]
def m_X8_toJoin_r2 : List mj_I := [(66, .lload 6, 2, .lload 6, 0), (68, .lload_n 3, 1, .lload_n 3, 0), (69, .lcmp, 1, .lcmp, 0), (70, .ifCond .ge 9, 3, .ifCond .ge 9, 0), (73, .iload 5, 2, .iload 5, 0), (75, .istore_n 2, 1, .istore_n 2, 0), (76, .lload 6, 2, .lload 6, 0), (78, .lstore_n 3, 1, .lstore_n 3, 0), (79, .iinc 5 1, 3, .iinc 5 1, 0), (82, .goto (-60), 3, .goto (-60), 0), (85, .aload_n 0, 1, .aload_n 0, 0), (86, .iload_n 2, 1, .iload_n 2, 0), (87, .invokevirtual 34088, 3, .invokevirtual 115, 671), (90, .ireturn, 1, .ireturn, 0)]
def m_X8_toJoin_E : List (List mj_I) := [m_X8_toJoin_r0, m_X8_toJoin_r1, m_X8_toJoin_r2]
def m_X8_toJoin : mj_M := (yX8_toJoin, cX8_toJoin, 8, (some .int), m_X8_toJoin_E)
def m_X8_shortOf_r0 : List mj_I := [(0, .aload_n 0, 1, .aload_n 0, 0), (1, .getfield 514, 3, .getfield 98, 440), (4, .ifCond .ne 10, 3, .ifCond .ne 10, 0), (7, .aload_n 0, 1, .aload_n 0, 0), (8, .iconst 1, 1, .iconst 1, 0), (9, .invokevirtual 33832, 3, .invokevirtual 90, 500), (12, .i2l, 1, .i2l, 0), (13, .lreturn, 1, .lreturn, 0), (14, .aload_n 0, 1, .aload_n 0, 0), (15, .aload_n 0, 1, .aload_n 0, 0), (16, .invokevirtual 37400, 3, .invokevirtual 194, 774), (19, .aload_n 0, 1, .aload_n 0, 0), (20, .getfield 515, 3, .getfield 19, 441), (23, .invokevirtual 3872, 3, .invokevirtual 236, 880), (26, .iload_n 1, 1, .iload_n 1, 0), (27, .invokevirtual 37688, 3, .invokevirtual 202, 798), (30, .lreturn, 1, .lreturn, 0)]
def m_X8_shortOf_E : List (List mj_I) := [m_X8_shortOf_r0]
def m_X8_shortOf : mj_M := (yX8_shortOf, cX8_shortOf, 2, (some .long), m_X8_shortOf_E)
def m_X8_ifMarried_r0 : List mj_I := [(0, .aload_n 0, 1, .aload_n 0, 0), (1, .iload_n 1, 1, .iload_n 1, 0), (2, .invokevirtual 34856, 3, .invokevirtual 127, 687), (5, .ifCond .ne 10, 3, .ifCond .ne 10, 0), (8, .aload_n 0, 1, .aload_n 0, 0), (9, .iconst 1, 1, .iconst 1, 0), (10, .invokevirtual 33832, 3, .invokevirtual 90, 500), (13, .i2l, 1, .i2l, 0), (14, .lreturn, 1, .lreturn, 0), (15, .aload_n 0, 1, .aload_n 0, 0), (16, .getfield 518, 3, .getfield 33, 444), (19, .aload_n 0, 1, .aload_n 0, 0), (20, .getfield 517, 3, .getfield 29, 443), (23, .invokevirtual 8997, 3, .invokevirtual 240, 889), (26, .aload_n 0, 1, .aload_n 0, 0), (27, .getfield 518, 3, .getfield 33, 444), (30, .getfield 320, 3, .getfield 130, 279)]
def m_X8_ifMarried_r1 : List mj_I := [(33, .iload_n 1, 1, .iload_n 1, 0), (34, .iconst 1, 1, .iconst 1, 0), (35, .iastore, 1, .iastore, 0), (36, .aload_n 0, 1, .aload_n 0, 0), (37, .getfield 523, 3, .getfield 61, 449), (40, .aload_n 0, 1, .aload_n 0, 0), (41, .getfield 515, 3, .getfield 19, 441), (44, .aload_n 0, 1, .aload_n 0, 0), (45, .getfield 518, 3, .getfield 33, 444), (48, .aload_n 0, 1, .aload_n 0, 0), (49, .getfield 517, 3, .getfield 29, 443), (52, .getfield 324, 3, .getfield 145, 288), (55, .invokevirtual 1344, 3, .invokevirtual 244, 778), (58, .aload_n 0, 1, .aload_n 0, 0), (59, .aload_n 0, 1, .aload_n 0, 0), (60, .getfield 523, 3, .getfield 61, 449), (63, .aload_n 0, 1, .aload_n 0, 0)]
def m_X8_ifMarried_r2 : List mj_I := [(64, .getfield 515, 3, .getfield 19, 441), (67, .iconst 1, 1, .iconst 1, 0), (68, .iload_n 1, 1, .iload_n 1, 0), (69, .ishl, 1, .ishl, 0), (70, .invokevirtual 4144, 3, .invokevirtual 213, 838), (73, .iload_n 2, 1, .iload_n 2, 0), (74, .invokevirtual 37688, 3, .invokevirtual 202, 798), (77, .lreturn, 1, .lreturn, 0)]
def m_X8_ifMarried_E : List (List mj_I) := [m_X8_ifMarried_r0, m_X8_ifMarried_r1, m_X8_ifMarried_r2]
def m_X8_ifMarried : mj_M := (yX8_ifMarried, cX8_ifMarried, 3, (some .long), m_X8_ifMarried_E)
def m_X8_harm_r0 : List mj_I := [(0, .aload_n 0, 1, .aload_n 0, 0), (1, .getfield 514, 3, .getfield 98, 440), (4, .ifCond .ne 10, 3, .ifCond .ne 10, 0), (7, .aload_n 0, 1, .aload_n 0, 0), (8, .iconst 1, 1, .iconst 1, 0), (9, .invokevirtual 33832, 3, .invokevirtual 90, 500), (12, .i2l, 1, .i2l, 0), (13, .lreturn, 1, .lreturn, 0), (14, .iload_n 1, 1, .iload_n 1, 0), (15, .invokestatic 36120, 3, .invokestatic 248, 897), (18, .ifCond .ne 10, 3, .ifCond .ne 10, 0), (21, .aload_n 0, 1, .aload_n 0, 0), (22, .iconst 2, 1, .iconst 2, 0), (23, .invokevirtual 33832, 3, .invokevirtual 90, 500), (26, .i2l, 1, .i2l, 0), (27, .lreturn, 1, .lreturn, 0), (28, .aload_n 0, 1, .aload_n 0, 0), (29, .iload_n 1, 1, .iload_n 1, 0), (30, .invokevirtual 24616, 3, .invokevirtual 251, 900)]
def m_X8_harm_r1 : List mj_I := [(33, .aload_n 0, 1, .aload_n 0, 0), (34, .aload_n 0, 1, .aload_n 0, 0), (35, .getfield 525, 3, .getfield 67, 451), (38, .getfield 194, 3, .getfield 254, 409), (41, .iload_n 1, 1, .iload_n 1, 0), (42, .laload, 1, .laload, 0), (43, .iload_n 2, 1, .iload_n 2, 0), (44, .invokevirtual 37688, 3, .invokevirtual 202, 798), (47, .lreturn, 1, .lreturn, 0)]
def m_X8_harm_E : List (List mj_I) := [m_X8_harm_r0, m_X8_harm_r1]
def m_X8_harm : mj_M := (yX8_harm, cX8_harm, 3, (some .long), m_X8_harm_E)
def m_X8_fills_r0 : List mj_I := [(0, .aload_n 0, 1, .aload_n 0, 0), (1, .getfield 514, 3, .getfield 98, 440), (4, .ifCond .ne 9, 3, .ifCond .ne 9, 0), (7, .aload_n 0, 1, .aload_n 0, 0), (8, .iconst 1, 1, .iconst 1, 0), (9, .invokevirtual 33832, 3, .invokevirtual 90, 500), (12, .ireturn, 1, .ireturn, 0), (13, .iload_n 1, 1, .iload_n 1, 0), (14, .invokestatic 36120, 3, .invokestatic 248, 897), (17, .ifCond .ne 9, 3, .ifCond .ne 9, 0), (20, .aload_n 0, 1, .aload_n 0, 0), (21, .iconst 2, 1, .iconst 2, 0), (22, .invokevirtual 33832, 3, .invokevirtual 90, 500), (25, .ireturn, 1, .ireturn, 0), (26, .aload_n 0, 1, .aload_n 0, 0), (27, .iload_n 1, 1, .iload_n 1, 0), (28, .invokevirtual 24616, 3, .invokevirtual 251, 900), (31, .aload_n 0, 1, .aload_n 0, 0)]
def m_X8_fills_r1 : List mj_I := [(32, .aload_n 0, 1, .aload_n 0, 0), (33, .getfield 525, 3, .getfield 67, 451), (36, .getfield 193, 3, .getfield 258, 407), (39, .iload_n 1, 1, .iload_n 1, 0), (40, .ishr, 1, .ishr, 0), (41, .iconst 1, 1, .iconst 1, 0), (42, .iand, 1, .iand, 0), (43, .invokevirtual 34088, 3, .invokevirtual 115, 671), (46, .ireturn, 1, .ireturn, 0)]
def m_X8_fills_E : List (List mj_I) := [m_X8_fills_r0, m_X8_fills_r1]
def m_X8_fills : mj_M := (yX8_fills, cX8_fills, 2, (some .int), m_X8_fills_E)
def m_X8_bestLaw_r0 : List mj_I := [(0, .aload_n 0, 1, .aload_n 0, 0), (1, .getfield 514, 3, .getfield 98, 440), (4, .ifCond .ne 9, 3, .ifCond .ne 9, 0), (7, .aload_n 0, 1, .aload_n 0, 0), (8, .iconst 1, 1, .iconst 1, 0), (9, .invokevirtual 33832, 3, .invokevirtual 90, 500), (12, .ireturn, 1, .ireturn, 0), (13, .bipush (-2), 2, .bipush (-2), 0), (15, .istore_n 1, 1, .istore_n 1, 0), (16, .lconst 0, 1, .lconst 0, 0), (17, .lstore_n 2, 1, .lstore_n 2, 0), (18, .iconst 0, 1, .iconst 0, 0), (19, .istore 4, 2, .istore 4, 0), (21, .iload 4, 2, .iload 4, 0), (23, .bipush 16, 2, .bipush 16, 0), (25, .if_icmp .ge 66, 3, .if_icmp .ge 66, 0), (28, .aload_n 0, 1, .aload_n 0, 0), (29, .iload 4, 2, .iload 4, 0), (31, .invokevirtual 24616, 3, .invokevirtual 251, 900)]
def m_X8_bestLaw_r1 : List mj_I := [(34, .aload_n 0, 1, .aload_n 0, 0), (35, .getfield 525, 3, .getfield 67, 451), (38, .getfield 193, 3, .getfield 258, 407), (41, .iload 4, 2, .iload 4, 0), (43, .ishr, 1, .ishr, 0), (44, .iconst 1, 1, .iconst 1, 0), (45, .iand, 1, .iand, 0), (46, .iconst 1, 1, .iconst 1, 0), (47, .if_icmp .ne 38, 3, .if_icmp .ne 38, 0), (50, .iload_n 1, 1, .iload_n 1, 0), (51, .bipush (-2), 2, .bipush (-2), 0), (53, .if_icmp .eq 18, 3, .if_icmp .eq 18, 0), (56, .aload_n 0, 1, .aload_n 0, 0), (57, .getfield 525, 3, .getfield 67, 451), (60, .getfield 194, 3, .getfield 254, 409), (63, .iload 4, 2, .iload 4, 0)]
def m_X8_bestLaw_r2 : List mj_I := [(65, .laload, 1, .laload, 0), (66, .lload_n 2, 1, .lload_n 2, 0), (67, .lcmp, 1, .lcmp, 0), (68, .ifCond .ge 17, 3, .ifCond .ge 17, 0), (71, .iload 4, 2, .iload 4, 0), (73, .istore_n 1, 1, .istore_n 1, 0), (74, .aload_n 0, 1, .aload_n 0, 0), (75, .getfield 525, 3, .getfield 67, 451), (78, .getfield 194, 3, .getfield 254, 409), (81, .iload 4, 2, .iload 4, 0), (83, .laload, 1, .laload, 0), (84, .lstore_n 2, 1, .lstore_n 2, 0), (85, .iinc 4 1, 3, .iinc 4 1, 0), (88, .goto (-67), 3, .goto (-67), 0), (91, .aload_n 0, 1, .aload_n 0, 0), (92, .iload_n 1, 1, .iload_n 1, 0), (93, .invokevirtual 34088, 3, .invokevirtual 115, 671)]
def m_X8_bestLaw_r3 : List mj_I := [(96, .ireturn, 1, .ireturn, 0)]
def m_X8_bestLaw_E : List (List mj_I) := [m_X8_bestLaw_r0, m_X8_bestLaw_r1, m_X8_bestLaw_r2, m_X8_bestLaw_r3]
def m_X8_bestLaw : mj_M := (yX8_bestLaw, cX8_bestLaw, 5, (some .int), m_X8_bestLaw_E)
def m_X8_toSpare_r0 : List mj_I := [(0, .aload_n 0, 1, .aload_n 0, 0), (1, .getfield 514, 3, .getfield 98, 440), (4, .ifCond .ne 9, 3, .ifCond .ne 9, 0), (7, .aload_n 0, 1, .aload_n 0, 0), (8, .iconst 1, 1, .iconst 1, 0), (9, .invokevirtual 33832, 3, .invokevirtual 90, 500), (12, .ireturn, 1, .ireturn, 0), (13, .bipush (-2), 2, .bipush (-2), 0), (15, .istore_n 1, 1, .istore_n 1, 0), (16, .lconst 0, 1, .lconst 0, 0), (17, .lstore_n 2, 1, .lstore_n 2, 0), (18, .iconst 0, 1, .iconst 0, 0), (19, .istore 4, 2, .istore 4, 0), (21, .iload 4, 2, .iload 4, 0), (23, .iconst 4, 1, .iconst 4, 0), (24, .if_icmp .ge 79, 3, .if_icmp .ge 79, 0), (27, .aload_n 0, 1, .aload_n 0, 0), (28, .getfield 517, 3, .getfield 29, 443), (31, .getfield 324, 3, .getfield 145, 288)]
def m_X8_toSpare_r1 : List mj_I := [(34, .iload 4, 2, .iload 4, 0), (36, .ishr, 1, .ishr, 0), (37, .iconst 1, 1, .iconst 1, 0), (38, .iand, 1, .iand, 0), (39, .ifCond .ne 58, 3, .ifCond .ne 58, 0), (42, .aload_n 0, 1, .aload_n 0, 0), (43, .getfield 517, 3, .getfield 29, 443), (46, .getfield 324, 3, .getfield 145, 288), (49, .iconst 1, 1, .iconst 1, 0), (50, .iload 4, 2, .iload 4, 0), (52, .ishl, 1, .ishl, 0), (53, .ior, 1, .ior, 0), (54, .istore 5, 2, .istore 5, 0), (56, .aload_n 0, 1, .aload_n 0, 0), (57, .iload 5, 2, .iload 5, 0), (59, .invokevirtual 24616, 3, .invokevirtual 251, 900), (62, .iload_n 1, 1, .iload_n 1, 0), (63, .bipush (-2), 2, .bipush (-2), 0)]
def m_X8_toSpare_r2 : List mj_I := [(65, .if_icmp .eq 18, 3, .if_icmp .eq 18, 0), (68, .aload_n 0, 1, .aload_n 0, 0), (69, .getfield 525, 3, .getfield 67, 451), (72, .getfield 194, 3, .getfield 254, 409), (75, .iload 5, 2, .iload 5, 0), (77, .laload, 1, .laload, 0), (78, .lload_n 2, 1, .lload_n 2, 0), (79, .lcmp, 1, .lcmp, 0), (80, .ifCond .ge 17, 3, .ifCond .ge 17, 0), (83, .iload 4, 2, .iload 4, 0), (85, .istore_n 1, 1, .istore_n 1, 0), (86, .aload_n 0, 1, .aload_n 0, 0), (87, .getfield 525, 3, .getfield 67, 451), (90, .getfield 194, 3, .getfield 254, 409), (93, .iload 5, 2, .iload 5, 0), (95, .laload, 1, .laload, 0)]
def m_X8_toSpare_r3 : List mj_I := [(96, .lstore_n 2, 1, .lstore_n 2, 0), (97, .iinc 4 1, 3, .iinc 4 1, 0), (100, .goto (-79), 3, .goto (-79), 0), (103, .aload_n 0, 1, .aload_n 0, 0), (104, .iload_n 1, 1, .iload_n 1, 0), (105, .invokevirtual 34088, 3, .invokevirtual 115, 671), (108, .ireturn, 1, .ireturn, 0)]
def m_X8_toSpare_E : List (List mj_I) := [m_X8_toSpare_r0, m_X8_toSpare_r1, m_X8_toSpare_r2, m_X8_toSpare_r3]
def m_X8_toSpare : mj_M := (yX8_toSpare, cX8_toSpare, 6, (some .int), m_X8_toSpare_E)
def m_X8_learn_r0 : List mj_I := [(0, .aload_n 0, 1, .aload_n 0, 0), (1, .getfield 525, 3, .getfield 67, 451), (4, .getfield 192, 3, .getfield 261, 405), (7, .iload_n 1, 1, .iload_n 1, 0), (8, .ishr, 1, .ishr, 0), (9, .iconst 1, 1, .iconst 1, 0), (10, .iand, 1, .iand, 0), (11, .ifCond .ne 63, 3, .ifCond .ne 63, 0), (14, .aload_n 0, 1, .aload_n 0, 0), (15, .getfield 523, 3, .getfield 61, 449), (18, .aload_n 0, 1, .aload_n 0, 0), (19, .getfield 515, 3, .getfield 19, 441), (22, .aload_n 0, 1, .aload_n 0, 0), (23, .getfield 517, 3, .getfield 29, 443), (26, .iload_n 1, 1, .iload_n 1, 0), (27, .invokevirtual 1344, 3, .invokevirtual 244, 778), (30, .aload_n 0, 1, .aload_n 0, 0), (31, .getfield 525, 3, .getfield 67, 451)]
def m_X8_learn_r1 : List mj_I := [(34, .iload_n 1, 1, .iload_n 1, 0), (35, .aload_n 0, 1, .aload_n 0, 0), (36, .getfield 523, 3, .getfield 61, 449), (39, .aload_n 0, 1, .aload_n 0, 0), (40, .getfield 515, 3, .getfield 19, 441), (43, .aload_n 0, 1, .aload_n 0, 0), (44, .invokevirtual 35608, 3, .invokevirtual 264, 854), (47, .invokevirtual 4144, 3, .invokevirtual 213, 838), (50, .aload_n 0, 1, .aload_n 0, 0), (51, .getfield 523, 3, .getfield 61, 449), (54, .aload_n 0, 1, .aload_n 0, 0), (55, .getfield 515, 3, .getfield 19, 441), (58, .invokevirtual 3872, 3, .invokevirtual 236, 880), (61, .lconst 0, 1, .lconst 0, 0), (62, .lcmp, 1, .lcmp, 0), (63, .ifCond .ne 7, 3, .ifCond .ne 7, 0)]
def m_X8_learn_r2 : List mj_I := [(66, .iconst 1, 1, .iconst 1, 0), (67, .goto 4, 3, .goto 4, 0), (70, .iconst 0, 1, .iconst 0, 0), (71, .invokevirtual 6979, 3, .invokevirtual 268, 904), (74, .return_, 1, .return_, 0)]
def m_X8_learn_E : List (List mj_I) := [m_X8_learn_r0, m_X8_learn_r1, m_X8_learn_r2]
def m_X8_learn : mj_M := (yX8_learn, cX8_learn, 2, none, m_X8_learn_E)
def m_X8_rows_r0 : List mj_I := [(0, .aload_n 0, 1, .aload_n 0, 0), (1, .getfield 514, 3, .getfield 98, 440), (4, .ifCond .ne 9, 3, .ifCond .ne 9, 0), (7, .aload_n 0, 1, .aload_n 0, 0), (8, .iconst 1, 1, .iconst 1, 0), (9, .invokevirtual 33832, 3, .invokevirtual 90, 500), (12, .ireturn, 1, .ireturn, 0), (13, .aload_n 0, 1, .aload_n 0, 0), (14, .aload_n 0, 1, .aload_n 0, 0), (15, .invokevirtual 26392, 3, .invokevirtual 271, 924), (18, .getfield 448, 3, .getfield 275, 427), (21, .invokevirtual 34088, 3, .invokevirtual 115, 671), (24, .ireturn, 1, .ireturn, 0)]
def m_X8_rows_E : List (List mj_I) := [m_X8_rows_r0]
def m_X8_rows : mj_M := (yX8_rows, cX8_rows, 1, (some .int), m_X8_rows_E)
def m_X8_could_r0 : List mj_I := [(0, .aload_n 0, 1, .aload_n 0, 0), (1, .iload_n 1, 1, .iload_n 1, 0), (2, .invokevirtual 35368, 3, .invokevirtual 278, 944), (5, .ifCond .eq 25, 3, .ifCond .eq 25, 0), (8, .aload_n 0, 1, .aload_n 0, 0), (9, .aload_n 0, 1, .aload_n 0, 0), (10, .invokevirtual 26392, 3, .invokevirtual 271, 924), (13, .iload_n 1, 1, .iload_n 1, 0), (14, .aload_n 0, 1, .aload_n 0, 0), (15, .getfield 515, 3, .getfield 19, 441), (18, .getfield 65, 3, .getfield 112, 196), (21, .invokevirtual 16183, 3, .invokevirtual 281, 948), (24, .invokevirtual 34088, 3, .invokevirtual 115, 671), (27, .goto 8, 3, .goto 8, 0), (30, .aload_n 0, 1, .aload_n 0, 0), (31, .iconst 1, 1, .iconst 1, 0)]
def m_X8_could_r1 : List mj_I := [(32, .invokevirtual 33832, 3, .invokevirtual 90, 500), (35, .ireturn, 1, .ireturn, 0)]
def m_X8_could_E : List (List mj_I) := [m_X8_could_r0, m_X8_could_r1]
def m_X8_could : mj_M := (yX8_could, cX8_could, 2, (some .int), m_X8_could_E)
def m_X8_surely_r0 : List mj_I := [(0, .aload_n 0, 1, .aload_n 0, 0), (1, .iload_n 1, 1, .iload_n 1, 0), (2, .invokevirtual 35368, 3, .invokevirtual 278, 944), (5, .ifCond .eq 25, 3, .ifCond .eq 25, 0), (8, .aload_n 0, 1, .aload_n 0, 0), (9, .aload_n 0, 1, .aload_n 0, 0), (10, .invokevirtual 26392, 3, .invokevirtual 271, 924), (13, .iload_n 1, 1, .iload_n 1, 0), (14, .aload_n 0, 1, .aload_n 0, 0), (15, .getfield 515, 3, .getfield 19, 441), (18, .getfield 65, 3, .getfield 112, 196), (21, .invokevirtual 16439, 3, .invokevirtual 285, 956), (24, .invokevirtual 34088, 3, .invokevirtual 115, 671), (27, .goto 8, 3, .goto 8, 0), (30, .aload_n 0, 1, .aload_n 0, 0), (31, .iconst 1, 1, .iconst 1, 0)]
def m_X8_surely_r1 : List mj_I := [(32, .invokevirtual 33832, 3, .invokevirtual 90, 500), (35, .ireturn, 1, .ireturn, 0)]
def m_X8_surely_E : List (List mj_I) := [m_X8_surely_r0, m_X8_surely_r1]
def m_X8_surely : mj_M := (yX8_surely, cX8_surely, 2, (some .int), m_X8_surely_E)
def m_X8_ask_r0 : List mj_I := [(0, .aload_n 0, 1, .aload_n 0, 0), (1, .getfield 514, 3, .getfield 98, 440), (4, .ifCond .ne 9, 3, .ifCond .ne 9, 0), (7, .aload_n 0, 1, .aload_n 0, 0), (8, .iconst 1, 1, .iconst 1, 0), (9, .invokevirtual 33832, 3, .invokevirtual 90, 500), (12, .ireturn, 1, .ireturn, 0), (13, .aload_n 0, 1, .aload_n 0, 0), (14, .aload_n 0, 1, .aload_n 0, 0), (15, .invokevirtual 26392, 3, .invokevirtual 271, 924), (18, .aload_n 0, 1, .aload_n 0, 0), (19, .getfield 515, 3, .getfield 19, 441), (22, .invokevirtual 16935, 3, .invokevirtual 288, 964), (25, .invokevirtual 34088, 3, .invokevirtual 115, 671), (28, .ireturn, 1, .ireturn, 0)]
def m_X8_ask_E : List (List mj_I) := [m_X8_ask_r0]
def m_X8_ask : mj_M := (yX8_ask, cX8_ask, 1, (some .int), m_X8_ask_E)
def m_X8_askLeaves_r0 : List mj_I := [(0, .aload_n 0, 1, .aload_n 0, 0), (1, .getfield 514, 3, .getfield 98, 440), (4, .ifCond .ne 9, 3, .ifCond .ne 9, 0), (7, .aload_n 0, 1, .aload_n 0, 0), (8, .iconst 1, 1, .iconst 1, 0), (9, .invokevirtual 33832, 3, .invokevirtual 90, 500), (12, .ireturn, 1, .ireturn, 0), (13, .aload_n 0, 1, .aload_n 0, 0), (14, .invokevirtual 26392, 3, .invokevirtual 271, 924), (17, .aload_n 0, 1, .aload_n 0, 0), (18, .getfield 515, 3, .getfield 19, 441), (21, .invokevirtual 16935, 3, .invokevirtual 288, 964), (24, .istore_n 1, 1, .istore_n 1, 0), (25, .aload_n 0, 1, .aload_n 0, 0), (26, .iload_n 1, 1, .iload_n 1, 0), (27, .bipush (-2), 2, .bipush (-2), 0), (29, .if_icmp .ne 8, 3, .if_icmp .ne 8, 0)]
def m_X8_askLeaves_r1 : List mj_I := [(32, .bipush (-2), 2, .bipush (-2), 0), (34, .goto 18, 3, .goto 18, 0), (37, .aload_n 0, 1, .aload_n 0, 0), (38, .getfield 526, 3, .getfield 74, 452), (41, .iload_n 1, 1, .iload_n 1, 0), (42, .aload_n 0, 1, .aload_n 0, 0), (43, .getfield 515, 3, .getfield 19, 441), (46, .getfield 65, 3, .getfield 112, 196), (49, .invokevirtual 16695, 3, .invokevirtual 292, 979), (52, .invokevirtual 34088, 3, .invokevirtual 115, 671), (55, .ireturn, 1, .ireturn, 0)]
def m_X8_askLeaves_E : List (List mj_I) := [m_X8_askLeaves_r0, m_X8_askLeaves_r1]
def m_X8_askLeaves : mj_M := (yX8_askLeaves, cX8_askLeaves, 2, (some .int), m_X8_askLeaves_E)
def m_X8_surelyTaken_r0 : List mj_I := [(0, .aload_n 0, 1, .aload_n 0, 0), (1, .getfield 514, 3, .getfield 98, 440), (4, .ifCond .ne 9, 3, .ifCond .ne 9, 0), (7, .aload_n 0, 1, .aload_n 0, 0), (8, .iconst 1, 1, .iconst 1, 0), (9, .invokevirtual 33832, 3, .invokevirtual 90, 500), (12, .ireturn, 1, .ireturn, 0), (13, .aload_n 0, 1, .aload_n 0, 0), (14, .aload_n 0, 1, .aload_n 0, 0), (15, .invokevirtual 26392, 3, .invokevirtual 271, 924), (18, .getfield 449, 3, .getfield 295, 429), (21, .invokevirtual 34088, 3, .invokevirtual 115, 671), (24, .ireturn, 1, .ireturn, 0)]
def m_X8_surelyTaken_E : List (List mj_I) := [m_X8_surelyTaken_r0]
def m_X8_surelyTaken : mj_M := (yX8_surelyTaken, cX8_surelyTaken, 1, (some .int), m_X8_surelyTaken_E)
def m_X8_look_r0 : List mj_I := [(0, .aload_n 0, 1, .aload_n 0, 0), (1, .getfield 526, 3, .getfield 74, 452), (4, .aload_n 0, 1, .aload_n 0, 0), (5, .getfield 515, 3, .getfield 19, 441), (8, .aload_n 0, 1, .aload_n 0, 0), (9, .invokevirtual 37400, 3, .invokevirtual 194, 774), (12, .invokevirtual 15415, 3, .invokevirtual 298, 928), (15, .aload_n 0, 1, .aload_n 0, 0), (16, .getfield 526, 3, .getfield 74, 452), (19, .areturn, 1, .areturn, 0)]
def m_X8_look_E : List (List mj_I) := [m_X8_look_r0]
def m_X8_look : mj_M := (yX8_look, cX8_look, 1, (some (.object "LowNumber$Witness")), m_X8_look_E)
def m_X8_believed_r0 : List mj_I := [(0, .aload_n 0, 1, .aload_n 0, 0), (1, .getfield 514, 3, .getfield 98, 440), (4, .ifCond .ne 10, 3, .ifCond .ne 10, 0), (7, .aload_n 0, 1, .aload_n 0, 0), (8, .iconst 1, 1, .iconst 1, 0), (9, .invokevirtual 33832, 3, .invokevirtual 90, 500), (12, .i2l, 1, .i2l, 0), (13, .lreturn, 1, .lreturn, 0), (14, .aload_n 0, 1, .aload_n 0, 0), (15, .getfield 515, 3, .getfield 19, 441), (18, .getfield 73, 3, .getfield 301, 226), (21, .ifCond .ne 11, 3, .ifCond .ne 11, 0), (24, .aload_n 0, 1, .aload_n 0, 0), (25, .bipush 6, 2, .bipush 6, 0), (27, .invokevirtual 33832, 3, .invokevirtual 90, 500), (30, .i2l, 1, .i2l, 0), (31, .lreturn, 1, .lreturn, 0)]
def m_X8_believed_r1 : List mj_I := [(32, .aload_n 0, 1, .aload_n 0, 0), (33, .getfield 515, 3, .getfield 19, 441), (36, .getfield 76, 3, .getfield 304, 232), (39, .iload_n 1, 1, .iload_n 1, 0), (40, .ifCond .eq 13, 3, .ifCond .eq 13, 0), (43, .aload_n 0, 1, .aload_n 0, 0), (44, .getfield 515, 3, .getfield 19, 441), (47, .getfield 74, 3, .getfield 307, 228), (50, .goto 13, 3, .goto 13, 0), (53, .bipush 100, 2, .bipush 100, 0), (55, .aload_n 0, 1, .aload_n 0, 0), (56, .getfield 515, 3, .getfield 19, 441), (59, .getfield 74, 3, .getfield 307, 228), (62, .isub, 1, .isub, 0), (63, .imul, 1, .imul, 0)]
def m_X8_believed_r2 : List mj_I := [(64, .i2l, 1, .i2l, 0), (65, .lstore_n 3, 1, .lstore_n 3, 0), (66, .bipush 100, 2, .bipush 100, 0), (68, .aload_n 0, 1, .aload_n 0, 0), (69, .getfield 515, 3, .getfield 19, 441), (72, .getfield 76, 3, .getfield 304, 232), (75, .isub, 1, .isub, 0), (76, .iload_n 1, 1, .iload_n 1, 0), (77, .ifCond .eq 13, 3, .ifCond .eq 13, 0), (80, .aload_n 0, 1, .aload_n 0, 0), (81, .getfield 515, 3, .getfield 19, 441), (84, .getfield 75, 3, .getfield 310, 230), (87, .goto 13, 3, .goto 13, 0), (90, .bipush 100, 2, .bipush 100, 0), (92, .aload_n 0, 1, .aload_n 0, 0), (93, .getfield 515, 3, .getfield 19, 441)]
def m_X8_believed_r3 : List mj_I := [(96, .getfield 75, 3, .getfield 310, 230), (99, .isub, 1, .isub, 0), (100, .imul, 1, .imul, 0), (101, .i2l, 1, .i2l, 0), (102, .lstore 5, 2, .lstore 5, 0), (104, .aload_n 0, 1, .aload_n 0, 0), (105, .lload_n 3, 1, .lload_n 3, 0), (106, .lload_n 3, 1, .lload_n 3, 0), (107, .lload 5, 2, .lload 5, 0), (109, .ladd, 1, .ladd, 0), (110, .iload_n 2, 1, .iload_n 2, 0), (111, .invokevirtual 37960, 3, .invokevirtual 228, 803), (114, .lreturn, 1, .lreturn, 0)]
def m_X8_believed_E : List (List mj_I) := [m_X8_believed_r0, m_X8_believed_r1, m_X8_believed_r2, m_X8_believed_r3]
def m_X8_believed : mj_M := (yX8_believed, cX8_believed, 7, (some .long), m_X8_believed_E)
def m_X8_wrong_r0 : List mj_I := [(0, .aload_n 0, 1, .aload_n 0, 0), (1, .getfield 514, 3, .getfield 98, 440), (4, .ifCond .ne 10, 3, .ifCond .ne 10, 0), (7, .aload_n 0, 1, .aload_n 0, 0), (8, .iconst 1, 1, .iconst 1, 0), (9, .invokevirtual 33832, 3, .invokevirtual 90, 500), (12, .i2l, 1, .i2l, 0), (13, .lreturn, 1, .lreturn, 0), (14, .aload_n 0, 1, .aload_n 0, 0), (15, .getfield 515, 3, .getfield 19, 441), (18, .getfield 73, 3, .getfield 301, 226), (21, .ifCond .ne 11, 3, .ifCond .ne 11, 0), (24, .aload_n 0, 1, .aload_n 0, 0), (25, .bipush 6, 2, .bipush 6, 0), (27, .invokevirtual 33832, 3, .invokevirtual 90, 500), (30, .i2l, 1, .i2l, 0), (31, .lreturn, 1, .lreturn, 0)]
def m_X8_wrong_r1 : List mj_I := [(32, .aload_n 0, 1, .aload_n 0, 0), (33, .getfield 515, 3, .getfield 19, 441), (36, .getfield 76, 3, .getfield 304, 232), (39, .bipush 100, 2, .bipush 100, 0), (41, .aload_n 0, 1, .aload_n 0, 0), (42, .getfield 515, 3, .getfield 19, 441), (45, .getfield 74, 3, .getfield 307, 228), (48, .isub, 1, .isub, 0), (49, .imul, 1, .imul, 0), (50, .i2l, 1, .i2l, 0), (51, .lstore_n 2, 1, .lstore_n 2, 0), (52, .bipush 100, 2, .bipush 100, 0), (54, .aload_n 0, 1, .aload_n 0, 0), (55, .getfield 515, 3, .getfield 19, 441), (58, .getfield 76, 3, .getfield 304, 232), (61, .isub, 1, .isub, 0), (62, .aload_n 0, 1, .aload_n 0, 0), (63, .getfield 515, 3, .getfield 19, 441)]
def m_X8_wrong_r2 : List mj_I := [(66, .getfield 75, 3, .getfield 310, 230), (69, .imul, 1, .imul, 0), (70, .i2l, 1, .i2l, 0), (71, .lstore 4, 2, .lstore 4, 0), (73, .aload_n 0, 1, .aload_n 0, 0), (74, .lload_n 2, 1, .lload_n 2, 0), (75, .lload 4, 2, .lload 4, 0), (77, .ladd, 1, .ladd, 0), (78, .ldc2_w 10000, 3, .ldc2_w 313, 992), (81, .iload_n 1, 1, .iload_n 1, 0), (82, .invokevirtual 37960, 3, .invokevirtual 228, 803), (85, .lreturn, 1, .lreturn, 0)]
def m_X8_wrong_E : List (List mj_I) := [m_X8_wrong_r0, m_X8_wrong_r1, m_X8_wrong_r2]
def m_X8_wrong : mj_M := (yX8_wrong, cX8_wrong, 6, (some .long), m_X8_wrong_E)
def m_X8_agent_r0 : List mj_I := [(0, .aload_n 0, 1, .aload_n 0, 0), (1, .getfield 514, 3, .getfield 98, 440), (4, .ifCond .ne 12, 3, .ifCond .ne 12, 0), (7, .aload_n 0, 1, .aload_n 0, 0), (8, .iconst 1, 1, .iconst 1, 0), (9, .invokevirtual 33832, 3, .invokevirtual 90, 500), (12, .pop, 1, .pop, 0), (13, .bipush (-100), 2, .bipush (-100), 0), (15, .ireturn, 1, .ireturn, 0), (16, .iload_n 1, 1, .iload_n 1, 0), (17, .invokestatic 36376, 3, .invokestatic 315, 997), (20, .ifCond .eq 23, 3, .ifCond .eq 23, 0), (23, .iload_n 2, 1, .iload_n 2, 0), (24, .ifCond .lt 19, 3, .ifCond .lt 19, 0), (27, .iload_n 2, 1, .iload_n 2, 0), (28, .bipush 10, 2, .bipush 10, 0), (30, .if_icmp .ge 13, 3, .if_icmp .ge 13, 0)]
def m_X8_agent_r1 : List mj_I := [(33, .iload_n 3, 1, .iload_n 3, 0), (34, .ifCond .lt 9, 3, .ifCond .lt 9, 0), (37, .iload_n 3, 1, .iload_n 3, 0), (38, .bipush 10, 2, .bipush 10, 0), (40, .if_icmp .lt 12, 3, .if_icmp .lt 12, 0), (43, .aload_n 0, 1, .aload_n 0, 0), (44, .iconst 2, 1, .iconst 2, 0), (45, .invokevirtual 33832, 3, .invokevirtual 90, 500), (48, .pop, 1, .pop, 0), (49, .bipush (-100), 2, .bipush (-100), 0), (51, .ireturn, 1, .ireturn, 0), (52, .aload_n 0, 1, .aload_n 0, 0), (53, .iload 4, 2, .iload 4, 0), (55, .ifCond .eq 12, 3, .ifCond .eq 12, 0), (58, .iload_n 1, 1, .iload_n 1, 0), (59, .iload_n 3, 1, .iload_n 3, 0), (60, .iload_n 2, 1, .iload_n 2, 0), (61, .invokestatic 28472, 3, .invokestatic 318, 1000)]
def m_X8_agent_r2 : List mj_I := [(64, .goto 9, 3, .goto 9, 0), (67, .iload_n 1, 1, .iload_n 1, 0), (68, .iload_n 2, 1, .iload_n 2, 0), (69, .iload_n 3, 1, .iload_n 3, 0), (70, .invokestatic 28472, 3, .invokestatic 318, 1000), (73, .invokevirtual 34088, 3, .invokevirtual 115, 671), (76, .ireturn, 1, .ireturn, 0)]
def m_X8_agent_E : List (List mj_I) := [m_X8_agent_r0, m_X8_agent_r1, m_X8_agent_r2]
def m_X8_agent : mj_M := (yX8_agent, cX8_agent, 5, (some .int), m_X8_agent_E)
def m_X8_rests_r0 : List mj_I := [(0, .aload_n 0, 1, .aload_n 0, 0), (1, .getfield 514, 3, .getfield 98, 440), (4, .ifCond .ne 9, 3, .ifCond .ne 9, 0), (7, .aload_n 0, 1, .aload_n 0, 0), (8, .iconst 1, 1, .iconst 1, 0), (9, .invokevirtual 33832, 3, .invokevirtual 90, 500), (12, .ireturn, 1, .ireturn, 0), (13, .iload_n 1, 1, .iload_n 1, 0), (14, .invokestatic 36376, 3, .invokestatic 315, 997), (17, .ifCond .ne 9, 3, .ifCond .ne 9, 0), (20, .aload_n 0, 1, .aload_n 0, 0), (21, .iconst 2, 1, .iconst 2, 0), (22, .invokevirtual 33832, 3, .invokevirtual 90, 500), (25, .ireturn, 1, .ireturn, 0), (26, .iconst 0, 1, .iconst 0, 0), (27, .istore_n 2, 1, .istore_n 2, 0), (28, .iconst 0, 1, .iconst 0, 0), (29, .istore_n 3, 1, .istore_n 3, 0), (30, .iload_n 3, 1, .iload_n 3, 0), (31, .bipush 100, 2, .bipush 100, 0)]
def m_X8_rests_r1 : List mj_I := [(33, .if_icmp .ge 27, 3, .if_icmp .ge 27, 0), (36, .iload_n 1, 1, .iload_n 1, 0), (37, .iload_n 3, 1, .iload_n 3, 0), (38, .bipush 10, 2, .bipush 10, 0), (40, .idiv, 1, .idiv, 0), (41, .iload_n 3, 1, .iload_n 3, 0), (42, .bipush 10, 2, .bipush 10, 0), (44, .irem, 1, .irem, 0), (45, .invokestatic 27960, 3, .invokestatic 322, 1008), (48, .ifCond .eq 6, 3, .ifCond .eq 6, 0), (51, .iinc 2 1, 3, .iinc 2 1, 0), (54, .iinc 3 1, 3, .iinc 3 1, 0), (57, .goto (-27), 3, .goto (-27), 0), (60, .aload_n 0, 1, .aload_n 0, 0), (61, .iload_n 2, 1, .iload_n 2, 0), (62, .invokevirtual 34088, 3, .invokevirtual 115, 671)]
def m_X8_rests_r2 : List mj_I := [(65, .ireturn, 1, .ireturn, 0)]
def m_X8_rests_E : List (List mj_I) := [m_X8_rests_r0, m_X8_rests_r1, m_X8_rests_r2]
def m_X8_rests : mj_M := (yX8_rests, cX8_rests, 4, (some .int), m_X8_rests_E)
def m_X8_rest_r0 : List mj_I := [(0, .aload_n 0, 1, .aload_n 0, 0), (1, .getfield 514, 3, .getfield 98, 440), (4, .ifCond .ne 9, 3, .ifCond .ne 9, 0), (7, .aload_n 0, 1, .aload_n 0, 0), (8, .iconst 1, 1, .iconst 1, 0), (9, .invokevirtual 33832, 3, .invokevirtual 90, 500), (12, .ireturn, 1, .ireturn, 0), (13, .iload_n 1, 1, .iload_n 1, 0), (14, .invokestatic 36376, 3, .invokestatic 315, 997), (17, .ifCond .ne 9, 3, .ifCond .ne 9, 0), (20, .aload_n 0, 1, .aload_n 0, 0), (21, .iconst 2, 1, .iconst 2, 0), (22, .invokevirtual 33832, 3, .invokevirtual 90, 500), (25, .ireturn, 1, .ireturn, 0), (26, .iconst 0, 1, .iconst 0, 0), (27, .istore_n 2, 1, .istore_n 2, 0), (28, .iload_n 2, 1, .iload_n 2, 0), (29, .bipush 100, 2, .bipush 100, 0), (31, .if_icmp .ge 30, 3, .if_icmp .ge 30, 0)]
def m_X8_rest_r1 : List mj_I := [(34, .iload_n 1, 1, .iload_n 1, 0), (35, .iload_n 2, 1, .iload_n 2, 0), (36, .bipush 10, 2, .bipush 10, 0), (38, .idiv, 1, .idiv, 0), (39, .iload_n 2, 1, .iload_n 2, 0), (40, .bipush 10, 2, .bipush 10, 0), (42, .irem, 1, .irem, 0), (43, .invokestatic 27960, 3, .invokestatic 322, 1008), (46, .ifCond .eq 9, 3, .ifCond .eq 9, 0), (49, .aload_n 0, 1, .aload_n 0, 0), (50, .iload_n 2, 1, .iload_n 2, 0), (51, .invokevirtual 34088, 3, .invokevirtual 115, 671), (54, .ireturn, 1, .ireturn, 0), (55, .iinc 2 1, 3, .iinc 2 1, 0), (58, .goto (-30), 3, .goto (-30), 0), (61, .aload_n 0, 1, .aload_n 0, 0), (62, .bipush (-2), 2, .bipush (-2), 0)]
def m_X8_rest_r2 : List mj_I := [(64, .invokevirtual 34088, 3, .invokevirtual 115, 671), (67, .ireturn, 1, .ireturn, 0)]
def m_X8_rest_E : List (List mj_I) := [m_X8_rest_r0, m_X8_rest_r1, m_X8_rest_r2]
def m_X8_rest : mj_M := (yX8_rest, cX8_rest, 3, (some .int), m_X8_rest_E)
def m_X8_isRest_r0 : List mj_I := [(0, .iload_n 0, 1, .iload_n 0, 0), (1, .iload_n 1, 1, .iload_n 1, 0), (2, .iload_n 2, 1, .iload_n 2, 0), (3, .invokestatic 28216, 3, .invokestatic 326, 1011), (6, .ifCond .eq 16, 3, .ifCond .eq 16, 0), (9, .iload_n 0, 1, .iload_n 0, 0), (10, .iload_n 2, 1, .iload_n 2, 0), (11, .iload_n 1, 1, .iload_n 1, 0), (12, .invokestatic 28216, 3, .invokestatic 326, 1011), (15, .ifCond .eq 7, 3, .ifCond .eq 7, 0), (18, .iconst 1, 1, .iconst 1, 0), (19, .goto 4, 3, .goto 4, 0), (22, .iconst 0, 1, .iconst 0, 0), (23, .ireturn, 1, .ireturn, 0)]
def m_X8_isRest_E : List (List mj_I) := [m_X8_isRest_r0]
def m_X8_isRest : mj_M := (yX8_isRest, cX8_isRest, 3, (some .boolean), m_X8_isRest_E)
def m_X8_isBestReply_r0 : List mj_I := [(0, .iload_n 0, 1, .iload_n 0, 0), (1, .iload_n 1, 1, .iload_n 1, 0), (2, .iload_n 2, 1, .iload_n 2, 0), (3, .invokestatic 28472, 3, .invokestatic 318, 1000), (6, .istore_n 3, 1, .istore_n 3, 0), (7, .iconst 0, 1, .iconst 0, 0), (8, .istore 4, 2, .istore 4, 0), (10, .iload 4, 2, .iload 4, 0), (12, .bipush 10, 2, .bipush 10, 0), (14, .if_icmp .ge 22, 3, .if_icmp .ge 22, 0), (17, .iload_n 0, 1, .iload_n 0, 0), (18, .iload 4, 2, .iload 4, 0), (20, .iload_n 2, 1, .iload_n 2, 0), (21, .invokestatic 28472, 3, .invokestatic 318, 1000), (24, .iload_n 3, 1, .iload_n 3, 0), (25, .if_icmp .le 5, 3, .if_icmp .le 5, 0), (28, .iconst 0, 1, .iconst 0, 0), (29, .ireturn, 1, .ireturn, 0), (30, .iinc 4 1, 3, .iinc 4 1, 0)]
def m_X8_isBestReply_r1 : List mj_I := [(33, .goto (-23), 3, .goto (-23), 0), (36, .iconst 1, 1, .iconst 1, 0), (37, .ireturn, 1, .ireturn, 0)]
def m_X8_isBestReply_E : List (List mj_I) := [m_X8_isBestReply_r0, m_X8_isBestReply_r1]
def m_X8_isBestReply : mj_M := (yX8_isBestReply, cX8_isBestReply, 5, (some .boolean), m_X8_isBestReply_E)
def m_X8_gain_r0 : List mj_I := [(0, .iload_n 0, 1, .iload_n 0, 0), (1, .istore_n 3, 1, .istore_n 3, 0), (2, .iload_n 1, 1, .iload_n 1, 0), (3, .iload_n 2, 1, .iload_n 2, 0), (4, .if_icmp .ne 10, 3, .if_icmp .ne 10, 0), (7, .iload_n 0, 1, .iload_n 0, 0), (8, .iconst 2, 1, .iconst 2, 0), (9, .idiv, 1, .idiv, 0), (10, .istore_n 3, 1, .istore_n 3, 0), (11, .goto 16, 3, .goto 16, 0), (14, .iload_n 1, 1, .iload_n 1, 0), (15, .iload_n 2, 1, .iload_n 2, 0), (16, .if_icmp .le 11, 3, .if_icmp .le 11, 0), (19, .iload_n 0, 1, .iload_n 0, 0), (20, .iload_n 0, 1, .iload_n 0, 0), (21, .iconst 3, 1, .iconst 3, 0), (22, .invokestatic 72495, 3, .invokestatic 329, 1003), (25, .isub, 1, .isub, 0), (26, .istore_n 3, 1, .istore_n 3, 0), (27, .iload_n 1, 1, .iload_n 1, 0), (28, .iconst 1, 1, .iconst 1, 0), (29, .isub, 1, .isub, 0), (30, .iload_n 3, 1, .iload_n 3, 0), (31, .iconst 3, 1, .iconst 3, 0)]
def m_X8_gain_r1 : List mj_I := [(32, .invokestatic 72495, 3, .invokestatic 329, 1003), (35, .imul, 1, .imul, 0), (36, .ireturn, 1, .ireturn, 0)]
def m_X8_gain_E : List (List mj_I) := [m_X8_gain_r0, m_X8_gain_r1]
def m_X8_gain : mj_M := (yX8_gain, cX8_gain, 4, (some .int), m_X8_gain_E)
def m_X8_drafts_r0 : List mj_I := [(0, .aload_n 0, 1, .aload_n 0, 0), (1, .iload_n 1, 1, .iload_n 1, 0), (2, .iload_n 2, 1, .iload_n 2, 0), (3, .iload_n 3, 1, .iload_n 3, 0), (4, .iconst 0, 1, .iconst 0, 0), (5, .invokevirtual 29272, 3, .invokevirtual 334, 1022), (8, .ireturn, 1, .ireturn, 0)]
def m_X8_drafts_E : List (List mj_I) := [m_X8_drafts_r0]
def m_X8_drafts : mj_M := (yX8_drafts, cX8_drafts, 4, (some .int), m_X8_drafts_E)
def m_X8_sentIn_r0 : List mj_I := [(0, .aload_n 0, 1, .aload_n 0, 0), (1, .iload_n 1, 1, .iload_n 1, 0), (2, .iload_n 2, 1, .iload_n 2, 0), (3, .iload_n 3, 1, .iload_n 3, 0), (4, .iconst 1, 1, .iconst 1, 0), (5, .invokevirtual 29272, 3, .invokevirtual 334, 1022), (8, .ireturn, 1, .ireturn, 0)]
def m_X8_sentIn_E : List (List mj_I) := [m_X8_sentIn_r0]
def m_X8_sentIn : mj_M := (yX8_sentIn, cX8_sentIn, 4, (some .int), m_X8_sentIn_E)
def m_X8_countDraws_r0 : List mj_I := [(0, .aload_n 0, 1, .aload_n 0, 0), (1, .iload_n 1, 1, .iload_n 1, 0), (2, .invokevirtual 34856, 3, .invokevirtual 127, 687), (5, .ifCond .ne 9, 3, .ifCond .ne 9, 0), (8, .aload_n 0, 1, .aload_n 0, 0), (9, .iconst 1, 1, .iconst 1, 0), (10, .invokevirtual 33832, 3, .invokevirtual 90, 500), (13, .ireturn, 1, .ireturn, 0), (14, .iload_n 2, 1, .iload_n 2, 0), (15, .invokestatic 36632, 3, .invokestatic 338, 1026), (18, .ifCond .eq 10, 3, .ifCond .eq 10, 0), (21, .iload_n 3, 1, .iload_n 3, 0), (22, .invokestatic 36888, 3, .invokestatic 341, 1030), (25, .ifCond .ne 9, 3, .ifCond .ne 9, 0), (28, .aload_n 0, 1, .aload_n 0, 0), (29, .iconst 2, 1, .iconst 2, 0), (30, .invokevirtual 33832, 3, .invokevirtual 90, 500)]
def m_X8_countDraws_r1 : List mj_I := [(33, .ireturn, 1, .ireturn, 0), (34, .iconst 0, 1, .iconst 0, 0), (35, .istore 5, 2, .istore 5, 0), (37, .iload_n 2, 1, .iload_n 2, 0), (38, .istore 6, 2, .istore 6, 0), (40, .iconst 0, 1, .iconst 0, 0), (41, .istore 7, 2, .istore 7, 0), (43, .iload 7, 2, .iload 7, 0), (45, .iload_n 3, 1, .iload_n 3, 0), (46, .if_icmp .ge 48, 3, .if_icmp .ge 48, 0), (49, .aload_n 0, 1, .aload_n 0, 0), (50, .iload 6, 2, .iload 6, 0), (52, .invokevirtual 29736, 3, .invokevirtual 344, 1033), (55, .istore 6, 2, .istore 6, 0), (57, .iload 5, 2, .iload 5, 0), (59, .iload 4, 2, .iload 4, 0), (61, .ifCond .eq 13, 3, .ifCond .eq 13, 0)]
def m_X8_countDraws_r2 : List mj_I := [(64, .aload_n 0, 1, .aload_n 0, 0), (65, .getfield 520, 3, .getfield 46, 446), (68, .getfield 257, 3, .getfield 347, 349), (71, .goto 10, 3, .goto 10, 0), (74, .aload_n 0, 1, .aload_n 0, 0), (75, .getfield 520, 3, .getfield 46, 446), (78, .getfield 256, 3, .getfield 158, 347), (81, .iload_n 1, 1, .iload_n 1, 0), (82, .ishr, 1, .ishr, 0), (83, .iconst 1, 1, .iconst 1, 0), (84, .iand, 1, .iand, 0), (85, .iadd, 1, .iadd, 0), (86, .istore 5, 2, .istore 5, 0), (88, .iinc 7 1, 3, .iinc 7 1, 0), (91, .goto (-48), 3, .goto (-48), 0), (94, .aload_n 0, 1, .aload_n 0, 0), (95, .iload 5, 2, .iload 5, 0)]
def m_X8_countDraws_r3 : List mj_I := [(97, .invokevirtual 34088, 3, .invokevirtual 115, 671), (100, .ireturn, 1, .ireturn, 0)]
def m_X8_countDraws_E : List (List mj_I) := [m_X8_countDraws_r0, m_X8_countDraws_r1, m_X8_countDraws_r2, m_X8_countDraws_r3]
def m_X8_countDraws : mj_M := (yX8_countDraws, cX8_countDraws, 8, (some .int), m_X8_countDraws_E)
def m_X8_lossIn_r0 : List mj_I := [(0, .aload_n 0, 1, .aload_n 0, 0), (1, .getfield 514, 3, .getfield 98, 440), (4, .ifCond .ne 9, 3, .ifCond .ne 9, 0), (7, .aload_n 0, 1, .aload_n 0, 0), (8, .iconst 1, 1, .iconst 1, 0), (9, .invokevirtual 33832, 3, .invokevirtual 90, 500), (12, .ireturn, 1, .ireturn, 0), (13, .iload_n 1, 1, .iload_n 1, 0), (14, .invokestatic 36632, 3, .invokestatic 338, 1026), (17, .ifCond .eq 10, 3, .ifCond .eq 10, 0), (20, .iload_n 2, 1, .iload_n 2, 0), (21, .invokestatic 36888, 3, .invokestatic 341, 1030), (24, .ifCond .ne 9, 3, .ifCond .ne 9, 0), (27, .aload_n 0, 1, .aload_n 0, 0), (28, .iconst 2, 1, .iconst 2, 0), (29, .invokevirtual 33832, 3, .invokevirtual 90, 500)]
def m_X8_lossIn_r1 : List mj_I := [(32, .ireturn, 1, .ireturn, 0), (33, .iconst 0, 1, .iconst 0, 0), (34, .istore_n 3, 1, .istore_n 3, 0), (35, .iload_n 1, 1, .iload_n 1, 0), (36, .istore 4, 2, .istore 4, 0), (38, .iconst 0, 1, .iconst 0, 0), (39, .istore 5, 2, .istore 5, 0), (41, .iload 5, 2, .iload 5, 0), (43, .iload_n 2, 1, .iload_n 2, 0), (44, .if_icmp .ge 54, 3, .if_icmp .ge 54, 0), (47, .aload_n 0, 1, .aload_n 0, 0), (48, .iload 4, 2, .iload 4, 0), (50, .invokevirtual 29736, 3, .invokevirtual 344, 1033), (53, .istore 4, 2, .istore 4, 0), (55, .iconst 0, 1, .iconst 0, 0), (56, .istore 6, 2, .istore 6, 0), (58, .iload 6, 2, .iload 6, 0), (60, .aload_n 0, 1, .aload_n 0, 0), (61, .getfield 515, 3, .getfield 19, 441)]
def m_X8_lossIn_r2 : List mj_I := [(64, .getfield 65, 3, .getfield 112, 196), (67, .if_icmp .ge 25, 3, .if_icmp .ge 25, 0), (70, .iload_n 3, 1, .iload_n 3, 0), (71, .aload_n 0, 1, .aload_n 0, 0), (72, .getfield 520, 3, .getfield 46, 446), (75, .aload_n 0, 1, .aload_n 0, 0), (76, .getfield 515, 3, .getfield 19, 441), (79, .iload 6, 2, .iload 6, 0), (81, .invokevirtual 8244, 3, .invokevirtual 168, 747), (84, .iadd, 1, .iadd, 0), (85, .istore_n 3, 1, .istore_n 3, 0), (86, .iinc 6 1, 3, .iinc 6 1, 0), (89, .goto (-31), 3, .goto (-31), 0), (92, .iinc 5 1, 3, .iinc 5 1, 0), (95, .goto (-54), 3, .goto (-54), 0)]
def m_X8_lossIn_r3 : List mj_I := [(98, .aload_n 0, 1, .aload_n 0, 0), (99, .iload_n 3, 1, .iload_n 3, 0), (100, .invokevirtual 34088, 3, .invokevirtual 115, 671), (103, .ireturn, 1, .ireturn, 0)]
def m_X8_lossIn_E : List (List mj_I) := [m_X8_lossIn_r0, m_X8_lossIn_r1, m_X8_lossIn_r2, m_X8_lossIn_r3]
def m_X8_lossIn : mj_M := (yX8_lossIn, cX8_lossIn, 7, (some .int), m_X8_lossIn_E)
def m_X8_levyByDraws_r0 : List mj_I := [(0, .aload_n 0, 1, .aload_n 0, 0), (1, .getfield 521, 3, .getfield 50, 447), (4, .aload_n 0, 1, .aload_n 0, 0), (5, .getfield 515, 3, .getfield 19, 441), (8, .getfield 65, 3, .getfield 112, 196), (11, .invokestatic 38696, 3, .invokestatic 172, 755), (14, .iload_n 1, 1, .iload_n 1, 0), (15, .istore_n 2, 1, .istore_n 2, 0), (16, .aload_n 0, 1, .aload_n 0, 0), (17, .getfield 515, 3, .getfield 19, 441), (20, .getfield 65, 3, .getfield 112, 196), (23, .istore_n 3, 1, .istore_n 3, 0), (24, .iload_n 3, 1, .iload_n 3, 0), (25, .iconst 2, 1, .iconst 2, 0), (26, .if_icmp .lt 34, 3, .if_icmp .lt 34, 0), (29, .bipush 75, 2, .bipush 75, 0), (31, .iload_n 2, 1, .iload_n 2, 0)]
def m_X8_levyByDraws_r1 : List mj_I := [(32, .imul, 1, .imul, 0), (33, .bipush 74, 2, .bipush 74, 0), (35, .iadd, 1, .iadd, 0), (36, .iconst 65537, 3, .ldc_w 350, 1037), (39, .irem, 1, .irem, 0), (40, .istore_n 2, 1, .istore_n 2, 0), (41, .aload_n 0, 1, .aload_n 0, 0), (42, .getfield 521, 3, .getfield 50, 447), (45, .iload_n 2, 1, .iload_n 2, 0), (46, .iload_n 3, 1, .iload_n 3, 0), (47, .irem, 1, .irem, 0), (48, .iload_n 3, 1, .iload_n 3, 0), (49, .iconst 1, 1, .iconst 1, 0), (50, .isub, 1, .isub, 0), (51, .invokestatic 39224, 3, .invokestatic 351, 767), (54, .iinc 3 (-1), 3, .iinc 3 (-1), 0), (57, .goto (-33), 3, .goto (-33), 0), (60, .aload_n 0, 1, .aload_n 0, 0), (61, .getfield 520, 3, .getfield 46, 446)]
def m_X8_levyByDraws_r2 : List mj_I := [(64, .aload_n 0, 1, .aload_n 0, 0), (65, .getfield 515, 3, .getfield 19, 441), (68, .aload_n 0, 1, .aload_n 0, 0), (69, .getfield 517, 3, .getfield 29, 443), (72, .aload_n 0, 1, .aload_n 0, 0), (73, .getfield 517, 3, .getfield 29, 443), (76, .getfield 324, 3, .getfield 145, 288), (79, .aload_n 0, 1, .aload_n 0, 0), (80, .getfield 521, 3, .getfield 50, 447), (83, .invokevirtual 7508, 3, .invokevirtual 176, 723), (86, .iload_n 2, 1, .iload_n 2, 0), (87, .ireturn, 1, .ireturn, 0)]
def m_X8_levyByDraws_E : List (List mj_I) := [m_X8_levyByDraws_r0, m_X8_levyByDraws_r1, m_X8_levyByDraws_r2]
def m_X8_levyByDraws : mj_M := (yX8_levyByDraws, cX8_levyByDraws, 4, (some .int), m_X8_levyByDraws_E)
def m_X8_marry_r0 : List mj_I := [(0, .aload_n 0, 1, .aload_n 0, 0), (1, .iload_n 1, 1, .iload_n 1, 0), (2, .invokevirtual 34856, 3, .invokevirtual 127, 687), (5, .ifCond .ne 9, 3, .ifCond .ne 9, 0), (8, .aload_n 0, 1, .aload_n 0, 0), (9, .iconst 1, 1, .iconst 1, 0), (10, .invokevirtual 34344, 3, .invokevirtual 355, 1050), (13, .ireturn, 1, .ireturn, 0), (14, .aload_n 0, 1, .aload_n 0, 0), (15, .getfield 517, 3, .getfield 29, 443), (18, .getfield 320, 3, .getfield 130, 279), (21, .iload_n 1, 1, .iload_n 1, 0), (22, .iaload, 1, .iaload, 0), (23, .iconst 1, 1, .iconst 1, 0), (24, .if_icmp .ne 9, 3, .if_icmp .ne 9, 0), (27, .aload_n 0, 1, .aload_n 0, 0), (28, .iconst 5, 1, .iconst 5, 0), (29, .invokevirtual 34344, 3, .invokevirtual 355, 1050)]
def m_X8_marry_r1 : List mj_I := [(32, .ireturn, 1, .ireturn, 0), (33, .aload_n 0, 1, .aload_n 0, 0), (34, .getfield 519, 3, .getfield 39, 445), (37, .aload_n 0, 1, .aload_n 0, 0), (38, .getfield 517, 3, .getfield 29, 443), (41, .invokevirtual 5410, 3, .invokevirtual 358, 1054), (44, .aload_n 0, 1, .aload_n 0, 0), (45, .getfield 517, 3, .getfield 29, 443), (48, .getfield 320, 3, .getfield 130, 279), (51, .iload_n 1, 1, .iload_n 1, 0), (52, .iconst 1, 1, .iconst 1, 0), (53, .iastore, 1, .iastore, 0), (54, .aload_n 0, 1, .aload_n 0, 0), (55, .invokevirtual 37144, 3, .invokevirtual 109, 663), (58, .aload_n 0, 1, .aload_n 0, 0), (59, .invokevirtual 34584, 3, .invokevirtual 361, 1060), (62, .ireturn, 1, .ireturn, 0)]
def m_X8_marry_E : List (List mj_I) := [m_X8_marry_r0, m_X8_marry_r1]
def m_X8_marry : mj_M := (yX8_marry, cX8_marry, 2, (some .boolean), m_X8_marry_E)
def m_X8_spare_r0 : List mj_I := [(0, .aload_n 0, 1, .aload_n 0, 0), (1, .getfield 514, 3, .getfield 98, 440), (4, .ifCond .ne 9, 3, .ifCond .ne 9, 0), (7, .aload_n 0, 1, .aload_n 0, 0), (8, .iconst 1, 1, .iconst 1, 0), (9, .invokevirtual 34344, 3, .invokevirtual 355, 1050), (12, .ireturn, 1, .ireturn, 0), (13, .iload_n 1, 1, .iload_n 1, 0), (14, .invokestatic 35864, 3, .invokestatic 148, 699), (17, .ifCond .ne 9, 3, .ifCond .ne 9, 0), (20, .aload_n 0, 1, .aload_n 0, 0), (21, .iconst 2, 1, .iconst 2, 0), (22, .invokevirtual 34344, 3, .invokevirtual 355, 1050), (25, .ireturn, 1, .ireturn, 0), (26, .aload_n 0, 1, .aload_n 0, 0), (27, .getfield 517, 3, .getfield 29, 443), (30, .getfield 324, 3, .getfield 145, 288)]
def m_X8_spare_r1 : List mj_I := [(33, .iload_n 1, 1, .iload_n 1, 0), (34, .ishr, 1, .ishr, 0), (35, .iconst 1, 1, .iconst 1, 0), (36, .iand, 1, .iand, 0), (37, .iload_n 2, 1, .iload_n 2, 0), (38, .ifCond .eq 7, 3, .ifCond .eq 7, 0), (41, .iconst 1, 1, .iconst 1, 0), (42, .goto 4, 3, .goto 4, 0), (45, .iconst 0, 1, .iconst 0, 0), (46, .if_icmp .ne 9, 3, .if_icmp .ne 9, 0), (49, .aload_n 0, 1, .aload_n 0, 0), (50, .iconst 5, 1, .iconst 5, 0), (51, .invokevirtual 34344, 3, .invokevirtual 355, 1050), (54, .ireturn, 1, .ireturn, 0), (55, .aload_n 0, 1, .aload_n 0, 0), (56, .getfield 519, 3, .getfield 39, 445), (59, .aload_n 0, 1, .aload_n 0, 0), (60, .getfield 517, 3, .getfield 29, 443), (63, .invokevirtual 5410, 3, .invokevirtual 358, 1054)]
def m_X8_spare_r2 : List mj_I := [(66, .aload_n 0, 1, .aload_n 0, 0), (67, .getfield 517, 3, .getfield 29, 443), (70, .dup, 1, .dup, 0), (71, .getfield 324, 3, .getfield 145, 288), (74, .iconst 1, 1, .iconst 1, 0), (75, .iload_n 1, 1, .iload_n 1, 0), (76, .ishl, 1, .ishl, 0), (77, .ixor, 1, .ixor, 0), (78, .putfield 324, 3, .putfield 145, 288), (81, .aload_n 0, 1, .aload_n 0, 0), (82, .invokevirtual 37144, 3, .invokevirtual 109, 663), (85, .aload_n 0, 1, .aload_n 0, 0), (86, .invokevirtual 34584, 3, .invokevirtual 361, 1060), (89, .ireturn, 1, .ireturn, 0)]
def m_X8_spare_E : List (List mj_I) := [m_X8_spare_r0, m_X8_spare_r1, m_X8_spare_r2]
def m_X8_spare : mj_M := (yX8_spare, cX8_spare, 3, (some .boolean), m_X8_spare_E)
def m_X8_hold_r0 : List mj_I := [(0, .aload_n 0, 1, .aload_n 0, 0), (1, .getfield 514, 3, .getfield 98, 440), (4, .ifCond .ne 9, 3, .ifCond .ne 9, 0), (7, .aload_n 0, 1, .aload_n 0, 0), (8, .iconst 1, 1, .iconst 1, 0), (9, .invokevirtual 33832, 3, .invokevirtual 90, 500), (12, .ireturn, 1, .ireturn, 0), (13, .aload_n 0, 1, .aload_n 0, 0), (14, .getfield 519, 3, .getfield 39, 445), (17, .aload_n 0, 1, .aload_n 0, 0), (18, .getfield 517, 3, .getfield 29, 443), (21, .invokevirtual 5410, 3, .invokevirtual 358, 1054), (24, .aload_n 0, 1, .aload_n 0, 0), (25, .getfield 517, 3, .getfield 29, 443), (28, .aload_n 0, 1, .aload_n 0, 0), (29, .aload_n 0, 1, .aload_n 0, 0), (30, .getfield 517, 3, .getfield 29, 443)]
def m_X8_hold_r1 : List mj_I := [(33, .getfield 325, 3, .getfield 365, 290), (36, .invokevirtual 29736, 3, .invokevirtual 344, 1033), (39, .putfield 325, 3, .putfield 365, 290), (42, .aload_n 0, 1, .aload_n 0, 0), (43, .getfield 517, 3, .getfield 29, 443), (46, .dup, 1, .dup, 0), (47, .getfield 326, 3, .getfield 368, 292), (50, .iconst 1, 1, .iconst 1, 0), (51, .iadd, 1, .iadd, 0), (52, .putfield 326, 3, .putfield 368, 292), (55, .aload_n 0, 1, .aload_n 0, 0), (56, .getfield 517, 3, .getfield 29, 443), (59, .aload_n 0, 1, .aload_n 0, 0), (60, .getfield 520, 3, .getfield 46, 446), (63, .getfield 256, 3, .getfield 158, 347)]
def m_X8_hold_r2 : List mj_I := [(66, .putfield 327, 3, .putfield 371, 294), (69, .iconst 0, 1, .iconst 0, 0), (70, .istore_n 1, 1, .istore_n 1, 0), (71, .iload_n 1, 1, .iload_n 1, 0), (72, .aload_n 0, 1, .aload_n 0, 0), (73, .getfield 515, 3, .getfield 19, 441), (76, .getfield 65, 3, .getfield 112, 196), (79, .if_icmp .ge 83, 3, .if_icmp .ge 83, 0), (82, .aload_n 0, 1, .aload_n 0, 0), (83, .getfield 517, 3, .getfield 29, 443), (86, .getfield 322, 3, .getfield 372, 284), (89, .iload_n 1, 1, .iload_n 1, 0), (90, .aload_n 0, 1, .aload_n 0, 0), (91, .getfield 521, 3, .getfield 50, 447), (94, .iload_n 1, 1, .iload_n 1, 0), (95, .iaload, 1, .iaload, 0)]
def m_X8_hold_r3 : List mj_I := [(96, .iastore, 1, .iastore, 0), (97, .aload_n 0, 1, .aload_n 0, 0), (98, .getfield 517, 3, .getfield 29, 443), (101, .getfield 323, 3, .getfield 375, 286), (104, .iload_n 1, 1, .iload_n 1, 0), (105, .aload_n 0, 1, .aload_n 0, 0), (106, .getfield 520, 3, .getfield 46, 446), (109, .getfield 259, 3, .getfield 161, 355), (112, .iload_n 1, 1, .iload_n 1, 0), (113, .iaload, 1, .iaload, 0), (114, .iastore, 1, .iastore, 0), (115, .aload_n 0, 1, .aload_n 0, 0), (116, .getfield 520, 3, .getfield 46, 446), (119, .getfield 259, 3, .getfield 161, 355), (122, .iload_n 1, 1, .iload_n 1, 0), (123, .iaload, 1, .iaload, 0), (124, .ifCond .lt 32, 3, .ifCond .lt 32, 0), (127, .aload_n 0, 1, .aload_n 0, 0)]
def m_X8_hold_r4 : List mj_I := [(128, .getfield 517, 3, .getfield 29, 443), (131, .getfield 321, 3, .getfield 136, 282), (134, .iload_n 1, 1, .iload_n 1, 0), (135, .dup2, 1, .dup2, 0), (136, .iaload, 1, .iaload, 0), (137, .aload_n 0, 1, .aload_n 0, 0), (138, .getfield 515, 3, .getfield 19, 441), (141, .getfield 69, 3, .getfield 139, 211), (144, .aload_n 0, 1, .aload_n 0, 0), (145, .getfield 520, 3, .getfield 46, 446), (148, .getfield 259, 3, .getfield 161, 355), (151, .iload_n 1, 1, .iload_n 1, 0), (152, .iaload, 1, .iaload, 0), (153, .iaload, 1, .iaload, 0), (154, .isub, 1, .isub, 0), (155, .iastore, 1, .iastore, 0), (156, .iinc 1 1, 3, .iinc 1 1, 0), (159, .goto (-88), 3, .goto (-88), 0)]
def m_X8_hold_r5 : List mj_I := [(162, .aload_n 0, 1, .aload_n 0, 0), (163, .invokevirtual 37144, 3, .invokevirtual 109, 663), (166, .aload_n 0, 1, .aload_n 0, 0), (167, .aload_n 0, 1, .aload_n 0, 0), (168, .getfield 517, 3, .getfield 29, 443), (171, .getfield 327, 3, .getfield 371, 294), (174, .aload_n 0, 1, .aload_n 0, 0), (175, .getfield 517, 3, .getfield 29, 443), (178, .getfield 323, 3, .getfield 375, 286), (181, .invokestatic 38440, 3, .invokestatic 164, 736), (184, .invokevirtual 34088, 3, .invokevirtual 115, 671), (187, .ireturn, 1, .ireturn, 0)]
def m_X8_hold_E : List (List mj_I) := [m_X8_hold_r0, m_X8_hold_r1, m_X8_hold_r2, m_X8_hold_r3, m_X8_hold_r4, m_X8_hold_r5]
def m_X8_hold : mj_M := (yX8_hold, cX8_hold, 2, (some .int), m_X8_hold_E)
def m_X8_desert_r0 : List mj_I := [(0, .aload_n 0, 1, .aload_n 0, 0), (1, .iload_n 1, 1, .iload_n 1, 0), (2, .invokevirtual 34856, 3, .invokevirtual 127, 687), (5, .ifCond .ne 9, 3, .ifCond .ne 9, 0), (8, .aload_n 0, 1, .aload_n 0, 0), (9, .iconst 1, 1, .iconst 1, 0), (10, .invokevirtual 33832, 3, .invokevirtual 90, 500), (13, .ireturn, 1, .ireturn, 0), (14, .aload_n 0, 1, .aload_n 0, 0), (15, .iload_n 1, 1, .iload_n 1, 0), (16, .invokevirtual 31272, 3, .invokevirtual 376, 1076), (19, .istore_n 2, 1, .istore_n 2, 0), (20, .iload_n 2, 1, .iload_n 2, 0), (21, .ifCond .ge 9, 3, .ifCond .ge 9, 0), (24, .aload_n 0, 1, .aload_n 0, 0), (25, .iconst 5, 1, .iconst 5, 0), (26, .invokevirtual 33832, 3, .invokevirtual 90, 500), (29, .ireturn, 1, .ireturn, 0), (30, .aload_n 0, 1, .aload_n 0, 0), (31, .getfield 519, 3, .getfield 39, 445)]
def m_X8_desert_r1 : List mj_I := [(34, .aload_n 0, 1, .aload_n 0, 0), (35, .getfield 517, 3, .getfield 29, 443), (38, .invokevirtual 5410, 3, .invokevirtual 358, 1054), (41, .aload_n 0, 1, .aload_n 0, 0), (42, .getfield 517, 3, .getfield 29, 443), (45, .getfield 323, 3, .getfield 375, 286), (48, .iload_n 2, 1, .iload_n 2, 0), (49, .bipush (-2), 2, .bipush (-2), 0), (51, .iastore, 1, .iastore, 0), (52, .aload_n 0, 1, .aload_n 0, 0), (53, .iload_n 2, 1, .iload_n 2, 0), (54, .invokevirtual 34088, 3, .invokevirtual 115, 671), (57, .ireturn, 1, .ireturn, 0)]
def m_X8_desert_E : List (List mj_I) := [m_X8_desert_r0, m_X8_desert_r1]
def m_X8_desert : mj_M := (yX8_desert, cX8_desert, 3, (some .int), m_X8_desert_E)
def m_X8_fate_r0 : List mj_I := [(0, .aload_n 0, 1, .aload_n 0, 0), (1, .iload_n 1, 1, .iload_n 1, 0), (2, .invokevirtual 34856, 3, .invokevirtual 127, 687), (5, .ifCond .ne 9, 3, .ifCond .ne 9, 0), (8, .aload_n 0, 1, .aload_n 0, 0), (9, .iconst 1, 1, .iconst 1, 0), (10, .invokevirtual 33832, 3, .invokevirtual 90, 500), (13, .ireturn, 1, .ireturn, 0), (14, .aload_n 0, 1, .aload_n 0, 0), (15, .getfield 517, 3, .getfield 29, 443), (18, .getfield 327, 3, .getfield 371, 294), (21, .iload_n 1, 1, .iload_n 1, 0), (22, .ishr, 1, .ishr, 0), (23, .iconst 1, 1, .iconst 1, 0), (24, .iand, 1, .iand, 0), (25, .iconst 1, 1, .iconst 1, 0), (26, .if_icmp .ne 25, 3, .if_icmp .ne 25, 0), (29, .aload_n 0, 1, .aload_n 0, 0), (30, .aload_n 0, 1, .aload_n 0, 0), (31, .getfield 517, 3, .getfield 29, 443)]
def m_X8_fate_r1 : List mj_I := [(34, .getfield 323, 3, .getfield 375, 286), (37, .iload_n 1, 1, .iload_n 1, 0), (38, .iaload, 1, .iaload, 0), (39, .ifCond .ge 7, 3, .ifCond .ge 7, 0), (42, .iconst 1, 1, .iconst 1, 0), (43, .goto 4, 3, .goto 4, 0), (46, .iconst 2, 1, .iconst 2, 0), (47, .invokevirtual 34088, 3, .invokevirtual 115, 671), (50, .ireturn, 1, .ireturn, 0), (51, .aload_n 0, 1, .aload_n 0, 0), (52, .aload_n 0, 1, .aload_n 0, 0), (53, .iload_n 1, 1, .iload_n 1, 0), (54, .invokevirtual 31272, 3, .invokevirtual 376, 1076), (57, .ifCond .ge 7, 3, .ifCond .ge 7, 0), (60, .iconst 0, 1, .iconst 0, 0), (61, .goto 4, 3, .goto 4, 0)]
def m_X8_fate_r2 : List mj_I := [(64, .iconst 3, 1, .iconst 3, 0), (65, .invokevirtual 34088, 3, .invokevirtual 115, 671), (68, .ireturn, 1, .ireturn, 0)]
def m_X8_fate_E : List (List mj_I) := [m_X8_fate_r0, m_X8_fate_r1, m_X8_fate_r2]
def m_X8_fate : mj_M := (yX8_fate, cX8_fate, 2, (some .int), m_X8_fate_E)
def m_X8_senderOf_r0 : List mj_I := [(0, .iconst 0, 1, .iconst 0, 0), (1, .istore_n 2, 1, .istore_n 2, 0), (2, .iload_n 2, 1, .iload_n 2, 0), (3, .aload_n 0, 1, .aload_n 0, 0), (4, .getfield 515, 3, .getfield 19, 441), (7, .getfield 65, 3, .getfield 112, 196), (10, .if_icmp .ge 24, 3, .if_icmp .ge 24, 0), (13, .aload_n 0, 1, .aload_n 0, 0), (14, .getfield 517, 3, .getfield 29, 443), (17, .getfield 323, 3, .getfield 375, 286), (20, .iload_n 2, 1, .iload_n 2, 0), (21, .iaload, 1, .iaload, 0), (22, .iload_n 1, 1, .iload_n 1, 0), (23, .if_icmp .ne 5, 3, .if_icmp .ne 5, 0), (26, .iload_n 2, 1, .iload_n 2, 0), (27, .ireturn, 1, .ireturn, 0), (28, .iinc 2 1, 3, .iinc 2 1, 0), (31, .goto (-29), 3, .goto (-29), 0)]
def m_X8_senderOf_r1 : List mj_I := [(34, .bipush (-2), 2, .bipush (-2), 0), (36, .ireturn, 1, .ireturn, 0)]
def m_X8_senderOf_E : List (List mj_I) := [m_X8_senderOf_r0, m_X8_senderOf_r1]
def m_X8_senderOf : mj_M := (yX8_senderOf, cX8_senderOf, 3, (some .int), m_X8_senderOf_E)
def m_X8_lot_r0 : List mj_I := [(0, .aload_n 0, 1, .aload_n 0, 0), (1, .iload_n 1, 1, .iload_n 1, 0), (2, .invokevirtual 34856, 3, .invokevirtual 127, 687), (5, .ifCond .eq 13, 3, .ifCond .eq 13, 0), (8, .aload_n 0, 1, .aload_n 0, 0), (9, .getfield 517, 3, .getfield 29, 443), (12, .getfield 326, 3, .getfield 368, 292), (15, .ifCond .ne 9, 3, .ifCond .ne 9, 0), (18, .aload_n 0, 1, .aload_n 0, 0), (19, .iconst 1, 1, .iconst 1, 0), (20, .invokevirtual 33832, 3, .invokevirtual 90, 500), (23, .ireturn, 1, .ireturn, 0), (24, .aload_n 0, 1, .aload_n 0, 0), (25, .aload_n 0, 1, .aload_n 0, 0), (26, .getfield 517, 3, .getfield 29, 443), (29, .getfield 322, 3, .getfield 372, 284)]
def m_X8_lot_r1 : List mj_I := [(32, .iload_n 1, 1, .iload_n 1, 0), (33, .iaload, 1, .iaload, 0), (34, .invokevirtual 34088, 3, .invokevirtual 115, 671), (37, .ireturn, 1, .ireturn, 0)]
def m_X8_lot_E : List (List mj_I) := [m_X8_lot_r0, m_X8_lot_r1]
def m_X8_lot : mj_M := (yX8_lot, cX8_lot, 2, (some .int), m_X8_lot_E)
def m_X8_seed_r0 : List mj_I := [(0, .aload_n 0, 1, .aload_n 0, 0), (1, .getfield 514, 3, .getfield 98, 440), (4, .ifCond .ne 9, 3, .ifCond .ne 9, 0), (7, .aload_n 0, 1, .aload_n 0, 0), (8, .iconst 1, 1, .iconst 1, 0), (9, .invokevirtual 34344, 3, .invokevirtual 355, 1050), (12, .ireturn, 1, .ireturn, 0), (13, .iload_n 1, 1, .iload_n 1, 0), (14, .invokestatic 36632, 3, .invokestatic 338, 1026), (17, .ifCond .ne 9, 3, .ifCond .ne 9, 0), (20, .aload_n 0, 1, .aload_n 0, 0), (21, .iconst 2, 1, .iconst 2, 0), (22, .invokevirtual 34344, 3, .invokevirtual 355, 1050), (25, .ireturn, 1, .ireturn, 0), (26, .aload_n 0, 1, .aload_n 0, 0), (27, .getfield 517, 3, .getfield 29, 443), (30, .iload_n 1, 1, .iload_n 1, 0), (31, .putfield 325, 3, .putfield 365, 290)]
def m_X8_seed_r1 : List mj_I := [(34, .aload_n 0, 1, .aload_n 0, 0), (35, .invokevirtual 34584, 3, .invokevirtual 361, 1060), (38, .ireturn, 1, .ireturn, 0)]
def m_X8_seed_E : List (List mj_I) := [m_X8_seed_r0, m_X8_seed_r1]
def m_X8_seed : mj_M := (yX8_seed, cX8_seed, 2, (some .boolean), m_X8_seed_E)
def m_X8_undo_r0 : List mj_I := [(0, .aload_n 0, 1, .aload_n 0, 0), (1, .getfield 519, 3, .getfield 39, 445), (4, .aload_n 0, 1, .aload_n 0, 0), (5, .getfield 517, 3, .getfield 29, 443), (8, .invokevirtual 5666, 3, .invokevirtual 379, 1096), (11, .ifCond .ne 10, 3, .ifCond .ne 10, 0), (14, .aload_n 0, 1, .aload_n 0, 0), (15, .bipush 6, 2, .bipush 6, 0), (17, .invokevirtual 34344, 3, .invokevirtual 355, 1050), (20, .ireturn, 1, .ireturn, 0), (21, .aload_n 0, 1, .aload_n 0, 0), (22, .invokevirtual 37144, 3, .invokevirtual 109, 663), (25, .aload_n 0, 1, .aload_n 0, 0), (26, .invokevirtual 34584, 3, .invokevirtual 361, 1060), (29, .ireturn, 1, .ireturn, 0)]
def m_X8_undo_E : List (List mj_I) := [m_X8_undo_r0]
def m_X8_undo : mj_M := (yX8_undo, cX8_undo, 1, (some .boolean), m_X8_undo_E)
def m_X8_image_r0 : List mj_I := [(0, .aload_n 0, 1, .aload_n 0, 0), (1, .getfield 514, 3, .getfield 98, 440), (4, .ifCond .ne 9, 3, .ifCond .ne 9, 0), (7, .aload_n 0, 1, .aload_n 0, 0), (8, .iconst 1, 1, .iconst 1, 0), (9, .invokevirtual 33832, 3, .invokevirtual 90, 500), (12, .ireturn, 1, .ireturn, 0), (13, .aload_n 0, 1, .aload_n 0, 0), (14, .getfield 519, 3, .getfield 39, 445), (17, .aload_n 0, 1, .aload_n 0, 0), (18, .getfield 517, 3, .getfield 29, 443), (21, .invokevirtual 5922, 3, .invokevirtual 383, 1104), (24, .istore_n 1, 1, .istore_n 1, 0), (25, .iload_n 1, 1, .iload_n 1, 0), (26, .ifCond .ge 11, 3, .ifCond .ge 11, 0), (29, .aload_n 0, 1, .aload_n 0, 0), (30, .iconst 3, 1, .iconst 3, 0), (31, .invokevirtual 33832, 3, .invokevirtual 90, 500)]
def m_X8_image_r1 : List mj_I := [(34, .goto 8, 3, .goto 8, 0), (37, .aload_n 0, 1, .aload_n 0, 0), (38, .iload_n 1, 1, .iload_n 1, 0), (39, .invokevirtual 34088, 3, .invokevirtual 115, 671), (42, .ireturn, 1, .ireturn, 0)]
def m_X8_image_E : List (List mj_I) := [m_X8_image_r0, m_X8_image_r1]
def m_X8_image : mj_M := (yX8_image, cX8_image, 2, (some .int), m_X8_image_E)
def m_X8_back_r0 : List mj_I := [(0, .aload_n 0, 1, .aload_n 0, 0), (1, .getfield 519, 3, .getfield 39, 445), (4, .iload_n 1, 1, .iload_n 1, 0), (5, .aload_n 0, 1, .aload_n 0, 0), (6, .getfield 517, 3, .getfield 29, 443), (9, .invokevirtual 6194, 3, .invokevirtual 387, 1112), (12, .ifCond .ne 9, 3, .ifCond .ne 9, 0), (15, .aload_n 0, 1, .aload_n 0, 0), (16, .iconst 1, 1, .iconst 1, 0), (17, .invokevirtual 34344, 3, .invokevirtual 355, 1050), (20, .ireturn, 1, .ireturn, 0), (21, .aload_n 0, 1, .aload_n 0, 0), (22, .invokevirtual 37144, 3, .invokevirtual 109, 663), (25, .aload_n 0, 1, .aload_n 0, 0), (26, .invokevirtual 34584, 3, .invokevirtual 361, 1060), (29, .ireturn, 1, .ireturn, 0)]
def m_X8_back_E : List (List mj_I) := [m_X8_back_r0]
def m_X8_back : mj_M := (yX8_back, cX8_back, 2, (some .boolean), m_X8_back_E)
def m_X8_led_r0 : List mj_I := [(0, .aload_n 0, 1, .aload_n 0, 0), (1, .getfield 514, 3, .getfield 98, 440), (4, .ifCond .eq 23, 3, .ifCond .eq 23, 0), (7, .aload_n 0, 1, .aload_n 0, 0), (8, .getfield 517, 3, .getfield 29, 443), (11, .getfield 327, 3, .getfield 371, 294), (14, .aload_n 0, 1, .aload_n 0, 0), (15, .getfield 517, 3, .getfield 29, 443), (18, .getfield 323, 3, .getfield 375, 286), (21, .invokestatic 38440, 3, .invokestatic 164, 736), (24, .goto 4, 3, .goto 4, 0), (27, .iconst 0, 1, .iconst 0, 0), (28, .istore_n 2, 1, .istore_n 2, 0), (29, .iconst 0, 1, .iconst 0, 0), (30, .istore_n 3, 1, .istore_n 3, 0), (31, .iconst 0, 1, .iconst 0, 0)]
def m_X8_led_r1 : List mj_I := [(32, .istore 4, 2, .istore 4, 0), (34, .iload 4, 2, .iload 4, 0), (36, .bipush 6, 2, .bipush 6, 0), (38, .if_icmp .ge 30, 3, .if_icmp .ge 30, 0), (41, .iload_n 2, 1, .iload_n 2, 0), (42, .iload 4, 2, .iload 4, 0), (44, .ishr, 1, .ishr, 0), (45, .iconst 1, 1, .iconst 1, 0), (46, .iand, 1, .iand, 0), (47, .iconst 1, 1, .iconst 1, 0), (48, .if_icmp .ne 14, 3, .if_icmp .ne 14, 0), (51, .iload_n 3, 1, .iload_n 3, 0), (52, .iload_n 1, 1, .iload_n 1, 0), (53, .if_icmp .ne 6, 3, .if_icmp .ne 6, 0), (56, .iload 4, 2, .iload 4, 0), (58, .ireturn, 1, .ireturn, 0), (59, .iinc 3 1, 3, .iinc 3 1, 0), (62, .iinc 4 1, 3, .iinc 4 1, 0)]
def m_X8_led_r2 : List mj_I := [(65, .goto (-31), 3, .goto (-31), 0)]
def m_X8_led_E : List (List mj_I) := [m_X8_led_r0, m_X8_led_r1, m_X8_led_r2]
def m_X8_led : mj_M := (yX8_led, cX8_led, 5, (some .int), m_X8_led_E)
def m_X8_size_r0 : List mj_I := [(0, .iload_n 1, 1, .iload_n 1, 0), (1, .bipush 9, 2, .bipush 9, 0), (3, .if_icmp .ne 11, 3, .if_icmp .ne 11, 0), (6, .aload_n 0, 1, .aload_n 0, 0), (7, .getfield 512, 3, .getfield 10, 438), (10, .getfield 385, 3, .getfield 86, 141), (13, .ireturn, 1, .ireturn, 0), (14, .iload_n 1, 1, .iload_n 1, 0), (15, .ifCond .lt 9, 3, .ifCond .lt 9, 0), (18, .iload_n 1, 1, .iload_n 1, 0), (19, .bipush 9, 2, .bipush 9, 0), (21, .if_icmp .le 5, 3, .if_icmp .le 5, 0), (24, .iconst (-1), 1, .iconst (-1), 0), (25, .ireturn, 1, .ireturn, 0), (26, .aload_n 0, 1, .aload_n 0, 0), (27, .getfield 514, 3, .getfield 98, 440), (30, .ifCond .eq 11, 3, .ifCond .eq 11, 0)]
def m_X8_size_r1 : List mj_I := [(33, .aload_n 0, 1, .aload_n 0, 0), (34, .iload_n 1, 1, .iload_n 1, 0), (35, .invokevirtual 33320, 3, .invokevirtual 398, 1120), (38, .goto 4, 3, .goto 4, 0), (41, .iconst 0, 1, .iconst 0, 0), (42, .ireturn, 1, .ireturn, 0)]
def m_X8_size_E : List (List mj_I) := [m_X8_size_r0, m_X8_size_r1]
def m_X8_size : mj_M := (yX8_size, cX8_size, 2, (some .int), m_X8_size_E)
def m_X8_sizeOfDraft_r0 : List mj_I := [(0, .iload_n 1, 1, .iload_n 1, 0), (1, .tableswitch 119 0 7 #[47, 55, 63, 71, 87, 95, 103, 111], 47, .tableswitch 119 0 7 #[47, 55, 63, 71, 87, 95, 103, 111], 0)]
def m_X8_sizeOfDraft_r1 : List mj_I := [(48, .aload_n 0, 1, .aload_n 0, 0), (49, .getfield 515, 3, .getfield 19, 441), (52, .getfield 64, 3, .getfield 401, 191), (55, .ireturn, 1, .ireturn, 0), (56, .aload_n 0, 1, .aload_n 0, 0), (57, .getfield 515, 3, .getfield 19, 441), (60, .getfield 65, 3, .getfield 112, 196), (63, .ireturn, 1, .ireturn, 0)]
def m_X8_sizeOfDraft_r2 : List mj_I := [(64, .aload_n 0, 1, .aload_n 0, 0), (65, .getfield 515, 3, .getfield 19, 441), (68, .getfield 71, 3, .getfield 404, 220), (71, .ireturn, 1, .ireturn, 0), (72, .aload_n 0, 1, .aload_n 0, 0), (73, .getfield 515, 3, .getfield 19, 441), (76, .getfield 73, 3, .getfield 301, 226), (79, .ifCond .eq 7, 3, .ifCond .eq 7, 0), (82, .iconst 1, 1, .iconst 1, 0), (83, .goto 4, 3, .goto 4, 0), (86, .iconst 0, 1, .iconst 0, 0), (87, .ireturn, 1, .ireturn, 0), (88, .aload_n 0, 1, .aload_n 0, 0), (89, .getfield 515, 3, .getfield 19, 441), (92, .getfield 78, 3, .getfield 407, 239), (95, .ireturn, 1, .ireturn, 0)]
def m_X8_sizeOfDraft_r3 : List mj_I := [(96, .aload_n 0, 1, .aload_n 0, 0), (97, .getfield 517, 3, .getfield 29, 443), (100, .getfield 326, 3, .getfield 368, 292), (103, .ireturn, 1, .ireturn, 0), (104, .aload_n 0, 1, .aload_n 0, 0), (105, .getfield 517, 3, .getfield 29, 443), (108, .getfield 325, 3, .getfield 365, 290), (111, .ireturn, 1, .ireturn, 0), (112, .aload_n 0, 1, .aload_n 0, 0), (113, .getfield 519, 3, .getfield 39, 445), (116, .getfield 131, 3, .getfield 410, 325), (119, .ireturn, 1, .ireturn, 0), (120, .aload_n 0, 1, .aload_n 0, 0), (121, .getfield 519, 3, .getfield 39, 445), (124, .getfield 132, 3, .getfield 413, 327), (127, .ireturn, 1, .ireturn, 0)]
def m_X8_sizeOfDraft_E : List (List mj_I) := [m_X8_sizeOfDraft_r0, m_X8_sizeOfDraft_r1, m_X8_sizeOfDraft_r2, m_X8_sizeOfDraft_r3]
def m_X8_sizeOfDraft : mj_M := (yX8_sizeOfDraft, cX8_sizeOfDraft, 2, (some .int), m_X8_sizeOfDraft_E)
def m_X8_trouble_r0 : List mj_I := [(0, .aload_n 0, 1, .aload_n 0, 0), (1, .getfield 513, 3, .getfield 121, 439), (4, .ireturn, 1, .ireturn, 0)]
def m_X8_trouble_E : List (List mj_I) := [m_X8_trouble_r0]
def m_X8_trouble : mj_M := (yX8_trouble, cX8_trouble, 1, (some .int), m_X8_trouble_E)
def m_X8_refuse_r0 : List mj_I := [(0, .aload_n 0, 1, .aload_n 0, 0), (1, .iload_n 1, 1, .iload_n 1, 0), (2, .putfield 513, 3, .putfield 121, 439), (5, .iconst (-1), 1, .iconst (-1), 0), (6, .ireturn, 1, .ireturn, 0)]
def m_X8_refuse_E : List (List mj_I) := [m_X8_refuse_r0]
def m_X8_refuse : mj_M := (yX8_refuse, cX8_refuse, 2, (some .int), m_X8_refuse_E)
def m_X8_answer_r0 : List mj_I := [(0, .aload_n 0, 1, .aload_n 0, 0), (1, .iconst 0, 1, .iconst 0, 0), (2, .putfield 513, 3, .putfield 121, 439), (5, .iload_n 1, 1, .iload_n 1, 0), (6, .ireturn, 1, .ireturn, 0)]
def m_X8_answer_E : List (List mj_I) := [m_X8_answer_r0]
def m_X8_answer : mj_M := (yX8_answer, cX8_answer, 2, (some .int), m_X8_answer_E)
def m_X8_deny_r0 : List mj_I := [(0, .aload_n 0, 1, .aload_n 0, 0), (1, .iload_n 1, 1, .iload_n 1, 0), (2, .putfield 513, 3, .putfield 121, 439), (5, .iconst 0, 1, .iconst 0, 0), (6, .ireturn, 1, .ireturn, 0)]
def m_X8_deny_E : List (List mj_I) := [m_X8_deny_r0]
def m_X8_deny : mj_M := (yX8_deny, cX8_deny, 2, (some .boolean), m_X8_deny_E)
def m_X8_grant_r0 : List mj_I := [(0, .aload_n 0, 1, .aload_n 0, 0), (1, .iconst 0, 1, .iconst 0, 0), (2, .putfield 513, 3, .putfield 121, 439), (5, .iconst 1, 1, .iconst 1, 0), (6, .ireturn, 1, .ireturn, 0)]
def m_X8_grant_E : List (List mj_I) := [m_X8_grant_r0]
def m_X8_grant : mj_M := (yX8_grant, cX8_grant, 1, (some .boolean), m_X8_grant_E)
def m_X8_isMan_r0 : List mj_I := [(0, .aload_n 0, 1, .aload_n 0, 0), (1, .getfield 514, 3, .getfield 98, 440), (4, .ifCond .eq 22, 3, .ifCond .eq 22, 0), (7, .iload_n 1, 1, .iload_n 1, 0), (8, .ifCond .lt 18, 3, .ifCond .lt 18, 0), (11, .iload_n 1, 1, .iload_n 1, 0), (12, .aload_n 0, 1, .aload_n 0, 0), (13, .getfield 515, 3, .getfield 19, 441), (16, .getfield 65, 3, .getfield 112, 196), (19, .if_icmp .ge 7, 3, .if_icmp .ge 7, 0), (22, .iconst 1, 1, .iconst 1, 0), (23, .goto 4, 3, .goto 4, 0), (26, .iconst 0, 1, .iconst 0, 0), (27, .ireturn, 1, .ireturn, 0)]
def m_X8_isMan_E : List (List mj_I) := [m_X8_isMan_r0]
def m_X8_isMan : mj_M := (yX8_isMan, cX8_isMan, 2, (some .boolean), m_X8_isMan_E)
def m_X8_isClub_r0 : List mj_I := [(0, .aload_n 0, 1, .aload_n 0, 0), (1, .getfield 514, 3, .getfield 98, 440), (4, .ifCond .eq 19, 3, .ifCond .eq 19, 0), (7, .iload_n 1, 1, .iload_n 1, 0), (8, .ifCond .lt 15, 3, .ifCond .lt 15, 0), (11, .iload_n 1, 1, .iload_n 1, 0), (12, .aload_n 0, 1, .aload_n 0, 0), (13, .invokevirtual 35608, 3, .invokevirtual 264, 854), (16, .if_icmp .gt 7, 3, .if_icmp .gt 7, 0), (19, .iconst 1, 1, .iconst 1, 0), (20, .goto 4, 3, .goto 4, 0), (23, .iconst 0, 1, .iconst 0, 0), (24, .ireturn, 1, .ireturn, 0)]
def m_X8_isClub_E : List (List mj_I) := [m_X8_isClub_r0]
def m_X8_isClub : mj_M := (yX8_isClub, cX8_isClub, 2, (some .boolean), m_X8_isClub_E)
def m_X8_isTold_r0 : List mj_I := [(0, .aload_n 0, 1, .aload_n 0, 0), (1, .getfield 514, 3, .getfield 98, 440), (4, .ifCond .eq 22, 3, .ifCond .eq 22, 0), (7, .iload_n 1, 1, .iload_n 1, 0), (8, .ifCond .lt 18, 3, .ifCond .lt 18, 0), (11, .iload_n 1, 1, .iload_n 1, 0), (12, .aload_n 0, 1, .aload_n 0, 0), (13, .getfield 515, 3, .getfield 19, 441), (16, .getfield 78, 3, .getfield 407, 239), (19, .if_icmp .ge 7, 3, .if_icmp .ge 7, 0), (22, .iconst 1, 1, .iconst 1, 0), (23, .goto 4, 3, .goto 4, 0), (26, .iconst 0, 1, .iconst 0, 0), (27, .ireturn, 1, .ireturn, 0)]
def m_X8_isTold_E : List (List mj_I) := [m_X8_isTold_r0]
def m_X8_isTold : mj_M := (yX8_isTold, cX8_isTold, 2, (some .boolean), m_X8_isTold_E)
def m_X8_allMen_r0 : List mj_I := [(0, .iconst 1, 1, .iconst 1, 0), (1, .aload_n 0, 1, .aload_n 0, 0), (2, .getfield 515, 3, .getfield 19, 441), (5, .getfield 65, 3, .getfield 112, 196), (8, .ishl, 1, .ishl, 0), (9, .iconst 1, 1, .iconst 1, 0), (10, .isub, 1, .isub, 0), (11, .ireturn, 1, .ireturn, 0)]
def m_X8_allMen_E : List (List mj_I) := [m_X8_allMen_r0]
def m_X8_allMen : mj_M := (yX8_allMen, cX8_allMen, 1, (some .int), m_X8_allMen_E)
def m_X8_isSort_r0 : List mj_I := [(0, .iload_n 0, 1, .iload_n 0, 0), (1, .ifCond .lt 12, 3, .ifCond .lt 12, 0), (4, .iload_n 0, 1, .iload_n 0, 0), (5, .iconst 4, 1, .iconst 4, 0), (6, .if_icmp .ge 7, 3, .if_icmp .ge 7, 0), (9, .iconst 1, 1, .iconst 1, 0), (10, .goto 4, 3, .goto 4, 0), (13, .iconst 0, 1, .iconst 0, 0), (14, .ireturn, 1, .ireturn, 0)]
def m_X8_isSort_E : List (List mj_I) := [m_X8_isSort_r0]
def m_X8_isSort : mj_M := (yX8_isSort, cX8_isSort, 1, (some .boolean), m_X8_isSort_E)
def m_X8_isLaw_r0 : List mj_I := [(0, .iload_n 0, 1, .iload_n 0, 0), (1, .ifCond .lt 13, 3, .ifCond .lt 13, 0), (4, .iload_n 0, 1, .iload_n 0, 0), (5, .bipush 16, 2, .bipush 16, 0), (7, .if_icmp .ge 7, 3, .if_icmp .ge 7, 0), (10, .iconst 1, 1, .iconst 1, 0), (11, .goto 4, 3, .goto 4, 0), (14, .iconst 0, 1, .iconst 0, 0), (15, .ireturn, 1, .ireturn, 0)]
def m_X8_isLaw_E : List (List mj_I) := [m_X8_isLaw_r0]
def m_X8_isLaw : mj_M := (yX8_isLaw, cX8_isLaw, 1, (some .boolean), m_X8_isLaw_E)
def m_X8_isBuyers_r0 : List mj_I := [(0, .iload_n 0, 1, .iload_n 0, 0), (1, .ifCond .lt 13, 3, .ifCond .lt 13, 0), (4, .iload_n 0, 1, .iload_n 0, 0), (5, .bipush 99, 2, .bipush 99, 0), (7, .if_icmp .gt 7, 3, .if_icmp .gt 7, 0), (10, .iconst 1, 1, .iconst 1, 0), (11, .goto 4, 3, .goto 4, 0), (14, .iconst 0, 1, .iconst 0, 0), (15, .ireturn, 1, .ireturn, 0)]
def m_X8_isBuyers_E : List (List mj_I) := [m_X8_isBuyers_r0]
def m_X8_isBuyers : mj_M := (yX8_isBuyers, cX8_isBuyers, 1, (some .boolean), m_X8_isBuyers_E)
def m_X8_isSeed_r0 : List mj_I := [(0, .iload_n 0, 1, .iload_n 0, 0), (1, .ifCond .lt 14, 3, .ifCond .lt 14, 0), (4, .iload_n 0, 1, .iload_n 0, 0), (5, .iconst 65536, 3, .ldc_w 416, 1029), (8, .if_icmp .gt 7, 3, .if_icmp .gt 7, 0), (11, .iconst 1, 1, .iconst 1, 0), (12, .goto 4, 3, .goto 4, 0), (15, .iconst 0, 1, .iconst 0, 0), (16, .ireturn, 1, .ireturn, 0)]
def m_X8_isSeed_E : List (List mj_I) := [m_X8_isSeed_r0]
def m_X8_isSeed : mj_M := (yX8_isSeed, cX8_isSeed, 1, (some .boolean), m_X8_isSeed_E)
def m_X8_isDrafts_r0 : List mj_I := [(0, .iload_n 0, 1, .iload_n 0, 0), (1, .iconst 1, 1, .iconst 1, 0), (2, .if_icmp .lt 13, 3, .if_icmp .lt 13, 0), (5, .iload_n 0, 1, .iload_n 0, 0), (6, .bipush 90, 2, .bipush 90, 0), (8, .if_icmp .gt 7, 3, .if_icmp .gt 7, 0), (11, .iconst 1, 1, .iconst 1, 0), (12, .goto 4, 3, .goto 4, 0), (15, .iconst 0, 1, .iconst 0, 0), (16, .ireturn, 1, .ireturn, 0)]
def m_X8_isDrafts_E : List (List mj_I) := [m_X8_isDrafts_r0]
def m_X8_isDrafts : mj_M := (yX8_isDrafts, cX8_isDrafts, 1, (some .boolean), m_X8_isDrafts_E)
def m_X8_changed_r0 : List mj_I := [(0, .aload_n 0, 1, .aload_n 0, 0), (1, .iconst 1, 1, .iconst 1, 0), (2, .putfield 524, 3, .putfield 417, 450), (5, .aload_n 0, 1, .aload_n 0, 0), (6, .getfield 525, 3, .getfield 67, 451), (9, .invokevirtual 6675, 3, .invokevirtual 420, 667), (12, .return_, 1, .return_, 0)]
def m_X8_changed_E : List (List mj_I) := [m_X8_changed_r0]
def m_X8_changed : mj_M := (yX8_changed, cX8_changed, 1, none, m_X8_changed_E)
def m_X8_table_r0 : List mj_I := [(0, .aload_n 0, 1, .aload_n 0, 0), (1, .getfield 524, 3, .getfield 417, 450), (4, .ifCond .eq 30, 3, .ifCond .eq 30, 0), (7, .aload_n 0, 1, .aload_n 0, 0), (8, .getfield 522, 3, .getfield 57, 448), (11, .aload_n 0, 1, .aload_n 0, 0), (12, .getfield 515, 3, .getfield 19, 441), (15, .aload_n 0, 1, .aload_n 0, 0), (16, .getfield 517, 3, .getfield 29, 443), (19, .aload_n 0, 1, .aload_n 0, 0), (20, .getfield 517, 3, .getfield 29, 443), (23, .getfield 324, 3, .getfield 145, 288), (26, .invokevirtual 1344, 3, .invokevirtual 244, 778), (29, .aload_n 0, 1, .aload_n 0, 0), (30, .iconst 0, 1, .iconst 0, 0), (31, .putfield 524, 3, .putfield 417, 450)]
def m_X8_table_r1 : List mj_I := [(34, .aload_n 0, 1, .aload_n 0, 0), (35, .getfield 522, 3, .getfield 57, 448), (38, .areturn, 1, .areturn, 0)]
def m_X8_table_E : List (List mj_I) := [m_X8_table_r0, m_X8_table_r1]
def m_X8_table : mj_M := (yX8_table, cX8_table, 1, (some (.object "LowNumber$Cases")), m_X8_table_E)
def m_X8_odds_r0 : List mj_I := [(0, .aload_n 0, 1, .aload_n 0, 0), (1, .lload_n 1, 1, .lload_n 1, 0), (2, .getstatic 100, 3, .getstatic 220, 802), (5, .aload_n 0, 1, .aload_n 0, 0), (6, .getfield 515, 3, .getfield 19, 441), (9, .getfield 65, 3, .getfield 112, 196), (12, .iaload, 1, .iaload, 0), (13, .i2l, 1, .i2l, 0), (14, .iload_n 3, 1, .iload_n 3, 0), (15, .invokevirtual 37960, 3, .invokevirtual 228, 803), (18, .lreturn, 1, .lreturn, 0)]
def m_X8_odds_E : List (List mj_I) := [m_X8_odds_r0]
def m_X8_odds : mj_M := (yX8_odds, cX8_odds, 4, (some .long), m_X8_odds_E)
def m_X8_part_r0 : List mj_I := [(0, .aload_n 0, 1, .aload_n 0, 0), (1, .iconst 0, 1, .iconst 0, 0), (2, .putfield 513, 3, .putfield 121, 439), (5, .lload_n 1, 1, .lload_n 1, 0), (6, .lconst 0, 1, .lconst 0, 0), (7, .lcmp, 1, .lcmp, 0), (8, .ifCond .eq 9, 3, .ifCond .eq 9, 0), (11, .lload_n 3, 1, .lload_n 3, 0), (12, .lconst 0, 1, .lconst 0, 0), (13, .lcmp, 1, .lcmp, 0), (14, .ifCond .ne 14, 3, .ifCond .ne 14, 0), (17, .iload 5, 2, .iload 5, 0), (19, .ifCond .eq 7, 3, .ifCond .eq 7, 0), (22, .lconst 1, 1, .lconst 1, 0), (23, .goto 4, 3, .goto 4, 0), (26, .lconst 0, 1, .lconst 0, 0), (27, .lreturn, 1, .lreturn, 0), (28, .lload_n 1, 1, .lload_n 1, 0), (29, .lload_n 3, 1, .lload_n 3, 0), (30, .invokestatic 38184, 3, .invokestatic 423, 807)]
def m_X8_part_r1 : List mj_I := [(33, .lstore 6, 2, .lstore 6, 0), (35, .lload 6, 2, .lload 6, 0), (37, .lconst 0, 1, .lconst 0, 0), (38, .lcmp, 1, .lcmp, 0), (39, .ifCond .ne 14, 3, .ifCond .ne 14, 0), (42, .iload 5, 2, .iload 5, 0), (44, .ifCond .eq 7, 3, .ifCond .eq 7, 0), (47, .lconst 1, 1, .lconst 1, 0), (48, .goto 4, 3, .goto 4, 0), (51, .lconst 0, 1, .lconst 0, 0), (52, .lreturn, 1, .lreturn, 0), (53, .iload 5, 2, .iload 5, 0), (55, .ifCond .eq 10, 3, .ifCond .eq 10, 0), (58, .lload_n 3, 1, .lload_n 3, 0), (59, .lload 6, 2, .lload 6, 0), (61, .ldiv, 1, .ldiv, 0), (62, .goto 7, 3, .goto 7, 0)]
def m_X8_part_r2 : List mj_I := [(65, .lload_n 1, 1, .lload_n 1, 0), (66, .lload 6, 2, .lload 6, 0), (68, .ldiv, 1, .ldiv, 0), (69, .lreturn, 1, .lreturn, 0)]
def m_X8_part_E : List (List mj_I) := [m_X8_part_r0, m_X8_part_r1, m_X8_part_r2]
def m_X8_part : mj_M := (yX8_part, cX8_part, 8, (some .long), m_X8_part_E)
def m_X8_commonDivisor_r0 : List mj_I := [(0, .lload_n 0, 1, .lload_n 0, 0), (1, .lstore 4, 2, .lstore 4, 0), (3, .lload_n 2, 1, .lload_n 2, 0), (4, .lstore 6, 2, .lstore 6, 0), (6, .iconst 0, 1, .iconst 0, 0), (7, .istore 8, 2, .istore 8, 0), (9, .iload 8, 2, .iload 8, 0), (11, .sipush 200, 3, .sipush 200, 0), (14, .if_icmp .ge 31, 3, .if_icmp .ge 31, 0), (17, .lload 6, 2, .lload 6, 0), (19, .lconst 0, 1, .lconst 0, 0), (20, .lcmp, 1, .lcmp, 0), (21, .ifCond .eq 24, 3, .ifCond .eq 24, 0), (24, .lload 4, 2, .lload 4, 0), (26, .lload 6, 2, .lload 6, 0), (28, .lrem, 1, .lrem, 0), (29, .lstore 9, 2, .lstore 9, 0), (31, .lload 6, 2, .lload 6, 0)]
def m_X8_commonDivisor_r1 : List mj_I := [(33, .lstore 4, 2, .lstore 4, 0), (35, .lload 9, 2, .lload 9, 0), (37, .lstore 6, 2, .lstore 6, 0), (39, .iinc 8 1, 3, .iinc 8 1, 0), (42, .goto (-33), 3, .goto (-33), 0), (45, .lload 4, 2, .lload 4, 0), (47, .lreturn, 1, .lreturn, 0)]
def m_X8_commonDivisor_E : List (List mj_I) := [m_X8_commonDivisor_r0, m_X8_commonDivisor_r1]
def m_X8_commonDivisor : mj_M := (yX8_commonDivisor, cX8_commonDivisor, 11, (some .long), m_X8_commonDivisor_E)
def m_X8_goers_r0 : List mj_I := [(0, .iconst 0, 1, .iconst 0, 0), (1, .istore_n 2, 1, .istore_n 2, 0), (2, .iconst 0, 1, .iconst 0, 0), (3, .istore_n 3, 1, .istore_n 3, 0), (4, .iload_n 3, 1, .iload_n 3, 0), (5, .bipush 6, 2, .bipush 6, 0), (7, .if_icmp .ge 36, 3, .if_icmp .ge 36, 0), (10, .iload_n 0, 1, .iload_n 0, 0), (11, .iload_n 3, 1, .iload_n 3, 0), (12, .ishr, 1, .ishr, 0), (13, .iconst 1, 1, .iconst 1, 0), (14, .iand, 1, .iand, 0), (15, .iconst 1, 1, .iconst 1, 0), (16, .if_icmp .ne 21, 3, .if_icmp .ne 21, 0), (19, .iload_n 2, 1, .iload_n 2, 0), (20, .iconst 1, 1, .iconst 1, 0), (21, .aload_n 1, 1, .aload_n 1, 0), (22, .iload_n 3, 1, .iload_n 3, 0), (23, .iaload, 1, .iaload, 0), (24, .ifCond .ge 7, 3, .ifCond .ge 7, 0), (27, .iload_n 3, 1, .iload_n 3, 0), (28, .goto 6, 3, .goto 6, 0), (31, .aload_n 1, 1, .aload_n 1, 0)]
def m_X8_goers_r1 : List mj_I := [(32, .iload_n 3, 1, .iload_n 3, 0), (33, .iaload, 1, .iaload, 0), (34, .ishl, 1, .ishl, 0), (35, .ior, 1, .ior, 0), (36, .istore_n 2, 1, .istore_n 2, 0), (37, .iinc 3 1, 3, .iinc 3 1, 0), (40, .goto (-36), 3, .goto (-36), 0), (43, .iload_n 2, 1, .iload_n 2, 0), (44, .ireturn, 1, .ireturn, 0)]
def m_X8_goers_E : List (List mj_I) := [m_X8_goers_r0, m_X8_goers_r1]
def m_X8_goers : mj_M := (yX8_goers, cX8_goers, 4, (some .int), m_X8_goers_E)
def m_X8_byNumbers_r0 : List mj_I := [(0, .iconst 0, 1, .iconst 0, 0), (1, .istore_n 2, 1, .istore_n 2, 0), (2, .iload_n 2, 1, .iload_n 2, 0), (3, .iload_n 1, 1, .iload_n 1, 0), (4, .if_icmp .ge 13, 3, .if_icmp .ge 13, 0), (7, .aload_n 0, 1, .aload_n 0, 0), (8, .iload_n 2, 1, .iload_n 2, 0), (9, .iload_n 2, 1, .iload_n 2, 0), (10, .iastore, 1, .iastore, 0), (11, .iinc 2 1, 3, .iinc 2 1, 0), (14, .goto (-12), 3, .goto (-12), 0), (17, .return_, 1, .return_, 0)]
def m_X8_byNumbers_E : List (List mj_I) := [m_X8_byNumbers_r0]
def m_X8_byNumbers : mj_M := (yX8_byNumbers, cX8_byNumbers, 3, none, m_X8_byNumbers_E)
def m_X8_numberOf_r0 : List mj_I := [(0, .iconst 0, 1, .iconst 0, 0), (1, .istore_n 2, 1, .istore_n 2, 0), (2, .iconst 0, 1, .iconst 0, 0), (3, .istore_n 3, 1, .istore_n 3, 0), (4, .iload_n 3, 1, .iload_n 3, 0), (5, .iload_n 1, 1, .iload_n 1, 0), (6, .if_icmp .ge 18, 3, .if_icmp .ge 18, 0), (9, .bipush 10, 2, .bipush 10, 0), (11, .iload_n 2, 1, .iload_n 2, 0), (12, .imul, 1, .imul, 0), (13, .aload_n 0, 1, .aload_n 0, 0), (14, .iload_n 3, 1, .iload_n 3, 0), (15, .iaload, 1, .iaload, 0), (16, .iadd, 1, .iadd, 0), (17, .istore_n 2, 1, .istore_n 2, 0), (18, .iinc 3 1, 3, .iinc 3 1, 0), (21, .goto (-17), 3, .goto (-17), 0), (24, .iload_n 2, 1, .iload_n 2, 0), (25, .ireturn, 1, .ireturn, 0)]
def m_X8_numberOf_E : List (List mj_I) := [m_X8_numberOf_r0]
def m_X8_numberOf : mj_M := (yX8_numberOf, cX8_numberOf, 4, (some .int), m_X8_numberOf_E)
def m_X8_swap_r0 : List mj_I := [(0, .aload_n 0, 1, .aload_n 0, 0), (1, .iload_n 1, 1, .iload_n 1, 0), (2, .iaload, 1, .iaload, 0), (3, .istore_n 3, 1, .istore_n 3, 0), (4, .aload_n 0, 1, .aload_n 0, 0), (5, .iload_n 1, 1, .iload_n 1, 0), (6, .aload_n 0, 1, .aload_n 0, 0), (7, .iload_n 2, 1, .iload_n 2, 0), (8, .iaload, 1, .iaload, 0), (9, .iastore, 1, .iastore, 0), (10, .aload_n 0, 1, .aload_n 0, 0), (11, .iload_n 2, 1, .iload_n 2, 0), (12, .iload_n 3, 1, .iload_n 3, 0), (13, .iastore, 1, .iastore, 0), (14, .return_, 1, .return_, 0)]
def m_X8_swap_E : List (List mj_I) := [m_X8_swap_r0]
def m_X8_swap : mj_M := (yX8_swap, cX8_swap, 4, none, m_X8_swap_E)
def m_X8_turn_r0 : List mj_I := [(0, .iload_n 1, 1, .iload_n 1, 0), (1, .istore_n 3, 1, .istore_n 3, 0), (2, .iload_n 2, 1, .iload_n 2, 0), (3, .istore 4, 2, .istore 4, 0), (5, .iload_n 3, 1, .iload_n 3, 0), (6, .iload 4, 2, .iload 4, 0), (8, .if_icmp .ge 19, 3, .if_icmp .ge 19, 0), (11, .aload_n 0, 1, .aload_n 0, 0), (12, .iload_n 3, 1, .iload_n 3, 0), (13, .iload 4, 2, .iload 4, 0), (15, .invokestatic 39224, 3, .invokestatic 351, 767), (18, .iinc 3 1, 3, .iinc 3 1, 0), (21, .iinc 4 (-1), 3, .iinc 4 (-1), 0), (24, .goto (-19), 3, .goto (-19), 0), (27, .return_, 1, .return_, 0)]
def m_X8_turn_E : List (List mj_I) := [m_X8_turn_r0]
def m_X8_turn : mj_M := (yX8_turn, cX8_turn, 5, none, m_X8_turn_E)
def m_X8_nextRow_r0 : List mj_I := [(0, .aload_n 0, 1, .aload_n 0, 0), (1, .iload_n 2, 1, .iload_n 2, 0), (2, .iload_n 1, 1, .iload_n 1, 0), (3, .iconst 1, 1, .iconst 1, 0), (4, .isub, 1, .isub, 0), (5, .invokestatic 39480, 3, .invokestatic 427, 764), (8, .iload_n 1, 1, .iload_n 1, 0), (9, .iconst 2, 1, .iconst 2, 0), (10, .isub, 1, .isub, 0), (11, .istore_n 3, 1, .istore_n 3, 0), (12, .iload_n 3, 1, .iload_n 3, 0), (13, .ifCond .lt 20, 3, .ifCond .lt 20, 0), (16, .aload_n 0, 1, .aload_n 0, 0), (17, .iload_n 3, 1, .iload_n 3, 0), (18, .iaload, 1, .iaload, 0), (19, .aload_n 0, 1, .aload_n 0, 0), (20, .iload_n 3, 1, .iload_n 3, 0), (21, .iconst 1, 1, .iconst 1, 0), (22, .iadd, 1, .iadd, 0), (23, .iaload, 1, .iaload, 0), (24, .if_icmp .le 9, 3, .if_icmp .le 9, 0), (27, .iinc 3 (-1), 3, .iinc 3 (-1), 0), (30, .goto (-18), 3, .goto (-18), 0)]
def m_X8_nextRow_r1 : List mj_I := [(33, .iload_n 3, 1, .iload_n 3, 0), (34, .ifCond .ge 5, 3, .ifCond .ge 5, 0), (37, .iconst 0, 1, .iconst 0, 0), (38, .ireturn, 1, .ireturn, 0), (39, .iload_n 1, 1, .iload_n 1, 0), (40, .iconst 1, 1, .iconst 1, 0), (41, .isub, 1, .isub, 0), (42, .istore 4, 2, .istore 4, 0), (44, .iload 4, 2, .iload 4, 0), (46, .iload_n 3, 1, .iload_n 3, 0), (47, .if_icmp .le 19, 3, .if_icmp .le 19, 0), (50, .aload_n 0, 1, .aload_n 0, 0), (51, .iload 4, 2, .iload 4, 0), (53, .iaload, 1, .iaload, 0), (54, .aload_n 0, 1, .aload_n 0, 0), (55, .iload_n 3, 1, .iload_n 3, 0), (56, .iaload, 1, .iaload, 0), (57, .if_icmp .ge 9, 3, .if_icmp .ge 9, 0), (60, .iinc 4 (-1), 3, .iinc 4 (-1), 0), (63, .goto (-19), 3, .goto (-19), 0)]
def m_X8_nextRow_r2 : List mj_I := [(66, .aload_n 0, 1, .aload_n 0, 0), (67, .iload_n 3, 1, .iload_n 3, 0), (68, .iload 4, 2, .iload 4, 0), (70, .invokestatic 39224, 3, .invokestatic 351, 767), (73, .aload_n 0, 1, .aload_n 0, 0), (74, .iload_n 3, 1, .iload_n 3, 0), (75, .iconst 1, 1, .iconst 1, 0), (76, .iadd, 1, .iadd, 0), (77, .iload_n 1, 1, .iload_n 1, 0), (78, .iconst 1, 1, .iconst 1, 0), (79, .isub, 1, .isub, 0), (80, .invokestatic 39480, 3, .invokestatic 427, 764), (83, .iconst 1, 1, .iconst 1, 0), (84, .ireturn, 1, .ireturn, 0)]
def m_X8_nextRow_E : List (List mj_I) := [m_X8_nextRow_r0, m_X8_nextRow_r1, m_X8_nextRow_r2]
def m_X8_nextRow : mj_M := (yX8_nextRow, cX8_nextRow, 5, (some .boolean), m_X8_nextRow_E)
def m_X9_init_r0 : List mj_I := [(0, .aload_n 0, 1, .aload_n 0, 0), (1, .invokespecial 31, 3, .invokespecial 3, 1343), (4, .aload_n 0, 1, .aload_n 0, 0), (5, .iconst (-1), 1, .iconst (-1), 0), (6, .putfield 576, 3, .putfield 9, 1344), (9, .aload_n 0, 1, .aload_n 0, 0), (10, .iconst (-1), 1, .iconst (-1), 0), (11, .putfield 581, 3, .putfield 15, 1352), (14, .aload_n 0, 1, .aload_n 0, 0), (15, .bipush 6, 2, .bipush 6, 0), (17, .newarray .int, 2, .newarray .int, 0), (19, .putfield 584, 3, .putfield 18, 1356), (22, .aload_n 0, 1, .aload_n 0, 0), (23, .bipush 6, 2, .bipush 6, 0), (25, .newarray .int, 2, .newarray .int, 0), (27, .putfield 585, 3, .putfield 22, 1358), (30, .aload_n 0, 1, .aload_n 0, 0), (31, .bipush 6, 2, .bipush 6, 0)]
def m_X9_init_r1 : List mj_I := [(33, .newarray .int, 2, .newarray .int, 0), (35, .putfield 586, 3, .putfield 25, 1360), (38, .aload_n 0, 1, .aload_n 0, 0), (39, .bipush 6, 2, .bipush 6, 0), (41, .newarray .int, 2, .newarray .int, 0), (43, .putfield 587, 3, .putfield 28, 1362), (46, .aload_n 0, 1, .aload_n 0, 0), (47, .bipush 6, 2, .bipush 6, 0), (49, .newarray .int, 2, .newarray .int, 0), (51, .putfield 588, 3, .putfield 31, 1364), (54, .aload_n 0, 1, .aload_n 0, 0), (55, .bipush 6, 2, .bipush 6, 0), (57, .newarray .long, 2, .newarray .long, 0), (59, .putfield 589, 3, .putfield 34, 1366), (62, .aload_n 0, 1, .aload_n 0, 0), (63, .iconst 3, 1, .iconst 3, 0)]
def m_X9_init_r2 : List mj_I := [(64, .newarray .int, 2, .newarray .int, 0), (66, .putfield 590, 3, .putfield 38, 1368), (69, .return_, 1, .return_, 0)]
def m_X9_init_E : List (List mj_I) := [m_X9_init_r0, m_X9_init_r1, m_X9_init_r2]
def m_X9_init : mj_M := (yX9_init, cX9_init, 1, none, m_X9_init_E)
def m_X9_find_r0 : List mj_I := [(0, .iconst 0, 1, .iconst 0, 0), (1, .istore_n 3, 1, .istore_n 3, 0), (2, .iload_n 3, 1, .iload_n 3, 0), (3, .aload_n 0, 1, .aload_n 0, 0), (4, .getfield 577, 3, .getfield 41, 1346), (7, .if_icmp .ge 22, 3, .if_icmp .ge 22, 0), (10, .aload_n 0, 1, .aload_n 0, 0), (11, .getfield 589, 3, .getfield 34, 1366), (14, .iload_n 3, 1, .iload_n 3, 0), (15, .laload, 1, .laload, 0), (16, .lload_n 1, 1, .lload_n 1, 0), (17, .lcmp, 1, .lcmp, 0), (18, .ifCond .ne 5, 3, .ifCond .ne 5, 0), (21, .iload_n 3, 1, .iload_n 3, 0), (22, .ireturn, 1, .ireturn, 0), (23, .iinc 3 1, 3, .iinc 3 1, 0), (26, .goto (-24), 3, .goto (-24), 0), (29, .iconst (-1), 1, .iconst (-1), 0), (30, .ireturn, 1, .ireturn, 0)]
def m_X9_find_E : List (List mj_I) := [m_X9_find_r0]
def m_X9_find : mj_M := (yX9_find, cX9_find, 4, (some .int), m_X9_find_E)
def m_X9_hasGone_r0 : List mj_I := [(0, .iconst 0, 1, .iconst 0, 0), (1, .istore_n 2, 1, .istore_n 2, 0), (2, .iload_n 2, 1, .iload_n 2, 0), (3, .aload_n 0, 1, .aload_n 0, 0), (4, .getfield 579, 3, .getfield 44, 1349), (7, .if_icmp .ge 21, 3, .if_icmp .ge 21, 0), (10, .aload_n 0, 1, .aload_n 0, 0), (11, .getfield 590, 3, .getfield 38, 1368), (14, .iload_n 2, 1, .iload_n 2, 0), (15, .iaload, 1, .iaload, 0), (16, .iload_n 1, 1, .iload_n 1, 0), (17, .if_icmp .ne 5, 3, .if_icmp .ne 5, 0), (20, .iconst 1, 1, .iconst 1, 0), (21, .ireturn, 1, .ireturn, 0), (22, .iinc 2 1, 3, .iinc 2 1, 0), (25, .goto (-23), 3, .goto (-23), 0), (28, .iconst 0, 1, .iconst 0, 0), (29, .ireturn, 1, .ireturn, 0)]
def m_X9_hasGone_E : List (List mj_I) := [m_X9_hasGone_r0]
def m_X9_hasGone : mj_M := (yX9_hasGone, cX9_hasGone, 3, (some .boolean), m_X9_hasGone_E)
def m_X10_init_r0 : List mj_I := [(0, .aload_n 0, 1, .aload_n 0, 0), (1, .invokespecial 31, 3, .invokespecial 3, 1206), (4, .aload_n 0, 1, .aload_n 0, 0), (5, .iconst (-1), 1, .iconst (-1), 0), (6, .putfield 642, 3, .putfield 9, 1209), (9, .aload_n 0, 1, .aload_n 0, 0), (10, .sipush 800, 3, .sipush 800, 0), (13, .newarray .byte, 2, .newarray .byte, 0), (15, .putfield 645, 3, .putfield 13, 1212), (18, .aload_n 0, 1, .aload_n 0, 0), (19, .bipush 28, 2, .bipush 28, 0), (21, .newarray .int, 2, .newarray .int, 0), (23, .putfield 655, 3, .putfield 17, 1222), (26, .aload_n 0, 1, .aload_n 0, 0), (27, .sipush 448, 3, .sipush 448, 0), (30, .newarray .int, 2, .newarray .int, 0)]
def m_X10_init_r1 : List mj_I := [(32, .putfield 656, 3, .putfield 21, 1223), (35, .aload_n 0, 1, .aload_n 0, 0), (36, .bipush 84, 2, .bipush 84, 0), (38, .newarray .int, 2, .newarray .int, 0), (40, .putfield 657, 3, .putfield 24, 1224), (43, .aload_n 0, 1, .aload_n 0, 0), (44, .bipush 6, 2, .bipush 6, 0), (46, .newarray .int, 2, .newarray .int, 0), (48, .putfield 660, 3, .putfield 27, 1227), (51, .aload_n 0, 1, .aload_n 0, 0), (52, .bipush 6, 2, .bipush 6, 0), (54, .newarray .int, 2, .newarray .int, 0), (56, .putfield 661, 3, .putfield 30, 1228), (59, .aload_n 0, 1, .aload_n 0, 0), (60, .bipush 6, 2, .bipush 6, 0), (62, .newarray .int, 2, .newarray .int, 0)]
def m_X10_init_r2 : List mj_I := [(64, .putfield 662, 3, .putfield 33, 1229), (67, .aload_n 0, 1, .aload_n 0, 0), (68, .bipush 6, 2, .bipush 6, 0), (70, .newarray .int, 2, .newarray .int, 0), (72, .putfield 663, 3, .putfield 36, 1230), (75, .aload_n 0, 1, .aload_n 0, 0), (76, .bipush 6, 2, .bipush 6, 0), (78, .newarray .long, 2, .newarray .long, 0), (80, .putfield 667, 3, .putfield 39, 1234), (83, .aload_n 0, 1, .aload_n 0, 0), (84, .bipush 6, 2, .bipush 6, 0), (86, .newarray .long, 2, .newarray .long, 0), (88, .putfield 668, 3, .putfield 43, 1235), (91, .aload_n 0, 1, .aload_n 0, 0), (92, .bipush 6, 2, .bipush 6, 0), (94, .newarray .long, 2, .newarray .long, 0)]
def m_X10_init_r3 : List mj_I := [(96, .putfield 669, 3, .putfield 46, 1236), (99, .aload_n 0, 1, .aload_n 0, 0), (100, .bipush 36, 2, .bipush 36, 0), (102, .newarray .long, 2, .newarray .long, 0), (104, .putfield 670, 3, .putfield 49, 1237), (107, .aload_n 0, 1, .aload_n 0, 0), (108, .bipush 18, 2, .bipush 18, 0), (110, .newarray .int, 2, .newarray .int, 0), (112, .putfield 673, 3, .putfield 52, 1240), (115, .return_, 1, .return_, 0)]
def m_X10_init_E : List (List mj_I) := [m_X10_init_r0, m_X10_init_r1, m_X10_init_r2, m_X10_init_r3]
def m_X10_init : mj_M := (yX10_init, cX10_init, 1, none, m_X10_init_E)
def m_X10_thrown_r0 : List mj_I := [(0, .aload_n 0, 1, .aload_n 0, 0), (1, .getfield 640, 3, .getfield 55, 1207), (4, .ireturn, 1, .ireturn, 0)]
def m_X10_thrown_E : List (List mj_I) := [m_X10_thrown_r0]
def m_X10_thrown : mj_M := (yX10_thrown, cX10_thrown, 1, (some .int), m_X10_thrown_E)
def m_X10_refused_r0 : List mj_I := [(0, .aload_n 0, 1, .aload_n 0, 0), (1, .iload_n 1, 1, .iload_n 1, 0), (2, .putfield 641, 3, .putfield 58, 1208), (5, .aload_n 0, 1, .aload_n 0, 0), (6, .iconst (-1), 1, .iconst (-1), 0), (7, .putfield 642, 3, .putfield 9, 1209), (10, .iconst (-1), 1, .iconst (-1), 0), (11, .ireturn, 1, .ireturn, 0)]
def m_X10_refused_E : List (List mj_I) := [m_X10_refused_r0]
def m_X10_refused : mj_M := (yX10_refused, cX10_refused, 2, (some .int), m_X10_refused_E)
def m_X10_lost_r0 : List mj_I := [(0, .aload_n 0, 1, .aload_n 0, 0), (1, .iload_n 1, 1, .iload_n 1, 0), (2, .invokevirtual 41258, 3, .invokevirtual 61, 1334), (5, .pop, 1, .pop, 0), (6, .bipush (-100), 2, .bipush (-100), 0), (8, .ireturn, 1, .ireturn, 0)]
def m_X10_lost_E : List (List mj_I) := [m_X10_lost_r0]
def m_X10_lost : mj_M := (yX10_lost, cX10_lost, 2, (some .int), m_X10_lost_E)
def m_X10_denied_r0 : List mj_I := [(0, .aload_n 0, 1, .aload_n 0, 0), (1, .iload_n 1, 1, .iload_n 1, 0), (2, .invokevirtual 41258, 3, .invokevirtual 61, 1334), (5, .pop, 1, .pop, 0), (6, .iconst 0, 1, .iconst 0, 0), (7, .ireturn, 1, .ireturn, 0)]
def m_X10_denied_E : List (List mj_I) := [m_X10_denied_r0]
def m_X10_denied : mj_M := (yX10_denied, cX10_denied, 2, (some .boolean), m_X10_denied_E)
def m_X10_good_r0 : List mj_I := [(0, .aload_n 0, 1, .aload_n 0, 0), (1, .iconst 0, 1, .iconst 0, 0), (2, .putfield 641, 3, .putfield 58, 1208), (5, .aload_n 0, 1, .aload_n 0, 0), (6, .iconst (-1), 1, .iconst (-1), 0), (7, .putfield 642, 3, .putfield 9, 1209), (10, .iload_n 1, 1, .iload_n 1, 0), (11, .ireturn, 1, .ireturn, 0)]
def m_X10_good_E : List (List mj_I) := [m_X10_good_r0]
def m_X10_good : mj_M := (yX10_good, cX10_good, 2, (some .int), m_X10_good_E)
def m_X10_granted_r0 : List mj_I := [(0, .aload_n 0, 1, .aload_n 0, 0), (1, .iconst 0, 1, .iconst 0, 0), (2, .invokevirtual 42026, 3, .invokevirtual 65, 1524), (5, .pop, 1, .pop, 0), (6, .iconst 1, 1, .iconst 1, 0), (7, .ireturn, 1, .ireturn, 0)]
def m_X10_granted_E : List (List mj_I) := [m_X10_granted_r0]
def m_X10_granted : mj_M := (yX10_granted, cX10_granted, 1, (some .boolean), m_X10_granted_E)
def m_X10_in_r0 : List mj_I := [(0, .iload_n 0, 1, .iload_n 0, 0), (1, .iload_n 1, 1, .iload_n 1, 0), (2, .if_icmp .lt 12, 3, .if_icmp .lt 12, 0), (5, .iload_n 0, 1, .iload_n 0, 0), (6, .iload_n 2, 1, .iload_n 2, 0), (7, .if_icmp .gt 7, 3, .if_icmp .gt 7, 0), (10, .iconst 1, 1, .iconst 1, 0), (11, .goto 4, 3, .goto 4, 0), (14, .iconst 0, 1, .iconst 0, 0), (15, .ireturn, 1, .ireturn, 0)]
def m_X10_in_E : List (List mj_I) := [m_X10_in_r0]
def m_X10_in : mj_M := (yX10_in, cX10_in, 3, (some .boolean), m_X10_in_E)
def m_X10_bit_r0 : List mj_I := [(0, .iload_n 0, 1, .iload_n 0, 0), (1, .iload_n 1, 1, .iload_n 1, 0), (2, .ishr, 1, .ishr, 0), (3, .iconst 1, 1, .iconst 1, 0), (4, .iand, 1, .iand, 0), (5, .iconst 1, 1, .iconst 1, 0), (6, .if_icmp .ne 7, 3, .if_icmp .ne 7, 0), (9, .iconst 1, 1, .iconst 1, 0), (10, .goto 4, 3, .goto 4, 0), (13, .iconst 0, 1, .iconst 0, 0), (14, .ireturn, 1, .ireturn, 0)]
def m_X10_bit_E : List (List mj_I) := [m_X10_bit_r0]
def m_X10_bit : mj_M := (yX10_bit, cX10_bit, 2, (some .boolean), m_X10_bit_E)
def m_X10_bits_r0 : List mj_I := [(0, .iconst 0, 1, .iconst 0, 0), (1, .istore_n 1, 1, .istore_n 1, 0), (2, .iload_n 0, 1, .iload_n 0, 0), (3, .istore_n 2, 1, .istore_n 2, 0), (4, .iload_n 2, 1, .iload_n 2, 0), (5, .ifCond .eq 15, 3, .ifCond .eq 15, 0), (8, .iinc 1 1, 3, .iinc 1 1, 0), (11, .iload_n 2, 1, .iload_n 2, 0), (12, .iload_n 2, 1, .iload_n 2, 0), (13, .iconst 1, 1, .iconst 1, 0), (14, .isub, 1, .isub, 0), (15, .iand, 1, .iand, 0), (16, .istore_n 2, 1, .istore_n 2, 0), (17, .goto (-13), 3, .goto (-13), 0), (20, .iload_n 1, 1, .iload_n 1, 0), (21, .ireturn, 1, .ireturn, 0)]
def m_X10_bits_E : List (List mj_I) := [m_X10_bits_r0]
def m_X10_bits : mj_M := (yX10_bits, cX10_bits, 3, (some .int), m_X10_bits_E)
def m_X10_common_r0 : List mj_I := [(0, .lload_n 0, 1, .lload_n 0, 0), (1, .lstore 4, 2, .lstore 4, 0), (3, .lload_n 2, 1, .lload_n 2, 0), (4, .lstore 6, 2, .lstore 6, 0), (6, .lload 6, 2, .lload 6, 0), (8, .lconst 0, 1, .lconst 0, 0), (9, .lcmp, 1, .lcmp, 0), (10, .ifCond .eq 21, 3, .ifCond .eq 21, 0), (13, .lload 4, 2, .lload 4, 0), (15, .lload 6, 2, .lload 6, 0), (17, .lrem, 1, .lrem, 0), (18, .lstore 8, 2, .lstore 8, 0), (20, .lload 6, 2, .lload 6, 0), (22, .lstore 4, 2, .lstore 4, 0), (24, .lload 8, 2, .lload 8, 0), (26, .lstore 6, 2, .lstore 6, 0), (28, .goto (-22), 3, .goto (-22), 0), (31, .lload 4, 2, .lload 4, 0)]
def m_X10_common_r1 : List mj_I := [(33, .lreturn, 1, .lreturn, 0)]
def m_X10_common_E : List (List mj_I) := [m_X10_common_r0, m_X10_common_r1]
def m_X10_common : mj_M := (yX10_common, cX10_common, 10, (some .long), m_X10_common_E)
def m_X10_fraction_r0 : List mj_I := [(0, .aload_n 0, 1, .aload_n 0, 0), (1, .iconst 0, 1, .iconst 0, 0), (2, .invokevirtual 42026, 3, .invokevirtual 65, 1524), (5, .pop, 1, .pop, 0), (6, .iload 5, 2, .iload 5, 0), (8, .ifCond .eq 7, 3, .ifCond .eq 7, 0), (11, .lload_n 3, 1, .lload_n 3, 0), (12, .goto 4, 3, .goto 4, 0), (15, .lload_n 1, 1, .lload_n 1, 0), (16, .lload_n 1, 1, .lload_n 1, 0), (17, .lload_n 3, 1, .lload_n 3, 0), (18, .invokestatic 43306, 3, .invokestatic 68, 1655), (21, .ldiv, 1, .ldiv, 0), (22, .lreturn, 1, .lreturn, 0)]
def m_X10_fraction_E : List (List mj_I) := [m_X10_fraction_r0]
def m_X10_fraction : mj_M := (yX10_fraction, cX10_fraction, 6, (some .long), m_X10_fraction_E)
def m_X10_byteAt_r0 : List mj_I := [(0, .iload_n 1, 1, .iload_n 1, 0), (1, .aload_n 0, 1, .aload_n 0, 0), (2, .getfield 647, 3, .getfield 72, 1214), (5, .if_icmp .ge 16, 3, .if_icmp .ge 16, 0), (8, .aload_n 0, 1, .aload_n 0, 0), (9, .getfield 645, 3, .getfield 13, 1212), (12, .iload_n 1, 1, .iload_n 1, 0), (13, .baload, 1, .baload, 0), (14, .sipush 255, 3, .sipush 255, 0), (17, .iand, 1, .iand, 0), (18, .goto 4, 3, .goto 4, 0), (21, .iconst (-1), 1, .iconst (-1), 0), (22, .ireturn, 1, .ireturn, 0)]
def m_X10_byteAt_E : List (List mj_I) := [m_X10_byteAt_r0]
def m_X10_byteAt : mj_M := (yX10_byteAt, cX10_byteAt, 2, (some .int), m_X10_byteAt_E)
def m_X10_isLetter_r0 : List mj_I := [(0, .iload_n 0, 1, .iload_n 0, 0), (1, .bipush 97, 2, .bipush 97, 0), (3, .if_icmp .lt 13, 3, .if_icmp .lt 13, 0), (6, .iload_n 0, 1, .iload_n 0, 0), (7, .bipush 122, 2, .bipush 122, 0), (9, .if_icmp .gt 7, 3, .if_icmp .gt 7, 0), (12, .iconst 1, 1, .iconst 1, 0), (13, .goto 4, 3, .goto 4, 0), (16, .iconst 0, 1, .iconst 0, 0), (17, .ireturn, 1, .ireturn, 0)]
def m_X10_isLetter_E : List (List mj_I) := [m_X10_isLetter_r0]
def m_X10_isLetter : mj_M := (yX10_isLetter, cX10_isLetter, 1, (some .boolean), m_X10_isLetter_E)
def m_X10_isDigit_r0 : List mj_I := [(0, .iload_n 0, 1, .iload_n 0, 0), (1, .bipush 48, 2, .bipush 48, 0), (3, .if_icmp .lt 13, 3, .if_icmp .lt 13, 0), (6, .iload_n 0, 1, .iload_n 0, 0), (7, .bipush 57, 2, .bipush 57, 0), (9, .if_icmp .gt 7, 3, .if_icmp .gt 7, 0), (12, .iconst 1, 1, .iconst 1, 0), (13, .goto 4, 3, .goto 4, 0), (16, .iconst 0, 1, .iconst 0, 0), (17, .ireturn, 1, .ireturn, 0)]
def m_X10_isDigit_E : List (List mj_I) := [m_X10_isDigit_r0]
def m_X10_isDigit : mj_M := (yX10_isDigit, cX10_isDigit, 1, (some .boolean), m_X10_isDigit_E)
def m_X10_packed_r0 : List mj_I := [(0, .lconst 0, 1, .lconst 0, 0), (1, .lstore_n 1, 1, .lstore_n 1, 0), (2, .iconst 0, 1, .iconst 0, 0), (3, .istore_n 3, 1, .istore_n 3, 0), (4, .iload_n 3, 1, .iload_n 3, 0), (5, .aload_n 0, 1, .aload_n 0, 0), (6, .invokevirtual 287, 3, .invokevirtual 75, 1432), (9, .if_icmp .ge 27, 3, .if_icmp .ge 27, 0), (12, .ldc2_w 32, 3, .ldc2_w 81, 1412), (15, .lload_n 1, 1, .lload_n 1, 0), (16, .lmul, 1, .lmul, 0), (17, .aload_n 0, 1, .aload_n 0, 0), (18, .iload_n 3, 1, .iload_n 3, 0), (19, .invokevirtual 559, 3, .invokevirtual 83, 1433), (22, .bipush 97, 2, .bipush 97, 0), (24, .isub, 1, .isub, 0), (25, .iconst 1, 1, .iconst 1, 0), (26, .iadd, 1, .iadd, 0), (27, .i2l, 1, .i2l, 0), (28, .ladd, 1, .ladd, 0), (29, .lstore_n 1, 1, .lstore_n 1, 0), (30, .iinc 3 1, 3, .iinc 3 1, 0)]
def m_X10_packed_r1 : List mj_I := [(33, .goto (-29), 3, .goto (-29), 0), (36, .lload_n 1, 1, .lload_n 1, 0), (37, .lreturn, 1, .lreturn, 0)]
def m_X10_packed_E : List (List mj_I) := [m_X10_packed_r0, m_X10_packed_r1]
def m_X10_packed : mj_M := (yX10_packed, cX10_packed, 4, (some .long), m_X10_packed_E)
def m_X10_goesOn_r0 : List mj_I := [(0, .aload_n 0, 1, .aload_n 0, 0), (1, .getfield 649, 3, .getfield 87, 1216), (4, .iconst 5, 1, .iconst 5, 0), (5, .if_icmp .ne 4, 3, .if_icmp .ne 4, 0), (8, .return_, 1, .return_, 0), (9, .aload_n 0, 1, .aload_n 0, 0), (10, .aload_n 0, 1, .aload_n 0, 0), (11, .getfield 648, 3, .getfield 90, 1215), (14, .invokevirtual 43818, 3, .invokevirtual 93, 1405), (17, .bipush 32, 2, .bipush 32, 0), (19, .if_icmp .ne 16, 3, .if_icmp .ne 16, 0), (22, .aload_n 0, 1, .aload_n 0, 0), (23, .dup, 1, .dup, 0), (24, .getfield 648, 3, .getfield 90, 1215), (27, .iconst 1, 1, .iconst 1, 0), (28, .iadd, 1, .iadd, 0), (29, .putfield 648, 3, .putfield 90, 1215)]
def m_X10_goesOn_r1 : List mj_I := [(32, .goto (-23), 3, .goto (-23), 0), (35, .aload_n 0, 1, .aload_n 0, 0), (36, .aload_n 0, 1, .aload_n 0, 0), (37, .getfield 648, 3, .getfield 90, 1215), (40, .putfield 650, 3, .putfield 96, 1217), (43, .aload_n 0, 1, .aload_n 0, 0), (44, .iconst 0, 1, .iconst 0, 0), (45, .putfield 649, 3, .putfield 87, 1216), (48, .aload_n 0, 1, .aload_n 0, 0), (49, .aload_n 0, 1, .aload_n 0, 0), (50, .getfield 648, 3, .getfield 90, 1215), (53, .invokevirtual 43818, 3, .invokevirtual 93, 1405), (56, .istore_n 1, 1, .istore_n 1, 0), (57, .iconst 0, 1, .iconst 0, 0), (58, .istore_n 2, 1, .istore_n 2, 0), (59, .iload_n 1, 1, .iload_n 1, 0), (60, .iconst (-1), 1, .iconst (-1), 0), (61, .if_icmp .ne 11, 3, .if_icmp .ne 11, 0)]
def m_X10_goesOn_r2 : List mj_I := [(64, .aload_n 0, 1, .aload_n 0, 0), (65, .iconst 1, 1, .iconst 1, 0), (66, .putfield 649, 3, .putfield 87, 1216), (69, .goto 196, 3, .goto 196, 0), (72, .iload_n 1, 1, .iload_n 1, 0), (73, .invokestatic 44058, 3, .invokestatic 99, 1409), (76, .ifCond .eq 85, 3, .ifCond .eq 85, 0), (79, .aload_n 0, 1, .aload_n 0, 0), (80, .lconst 0, 1, .lconst 0, 0), (81, .putfield 654, 3, .putfield 103, 1221), (84, .aload_n 0, 1, .aload_n 0, 0), (85, .aload_n 0, 1, .aload_n 0, 0), (86, .getfield 648, 3, .getfield 90, 1215), (89, .invokevirtual 43818, 3, .invokevirtual 93, 1405), (92, .invokestatic 44058, 3, .invokestatic 99, 1409), (95, .ifCond .eq 52, 3, .ifCond .eq 52, 0)]
def m_X10_goesOn_r3 : List mj_I := [(98, .iload_n 2, 1, .iload_n 2, 0), (99, .bipush 8, 2, .bipush 8, 0), (101, .if_icmp .ge 30, 3, .if_icmp .ge 30, 0), (104, .aload_n 0, 1, .aload_n 0, 0), (105, .ldc2_w 32, 3, .ldc2_w 81, 1412), (108, .aload_n 0, 1, .aload_n 0, 0), (109, .getfield 654, 3, .getfield 103, 1221), (112, .lmul, 1, .lmul, 0), (113, .aload_n 0, 1, .aload_n 0, 0), (114, .aload_n 0, 1, .aload_n 0, 0), (115, .getfield 648, 3, .getfield 90, 1215), (118, .invokevirtual 43818, 3, .invokevirtual 93, 1405), (121, .bipush 97, 2, .bipush 97, 0), (123, .isub, 1, .isub, 0), (124, .iconst 1, 1, .iconst 1, 0), (125, .iadd, 1, .iadd, 0), (126, .i2l, 1, .i2l, 0), (127, .ladd, 1, .ladd, 0)]
def m_X10_goesOn_r4 : List mj_I := [(128, .putfield 654, 3, .putfield 103, 1221), (131, .iinc 2 1, 3, .iinc 2 1, 0), (134, .aload_n 0, 1, .aload_n 0, 0), (135, .dup, 1, .dup, 0), (136, .getfield 648, 3, .getfield 90, 1215), (139, .iconst 1, 1, .iconst 1, 0), (140, .iadd, 1, .iadd, 0), (141, .putfield 648, 3, .putfield 90, 1215), (144, .goto (-60), 3, .goto (-60), 0), (147, .iload_n 2, 1, .iload_n 2, 0), (148, .bipush 8, 2, .bipush 8, 0), (150, .if_icmp .gt 115, 3, .if_icmp .gt 115, 0), (153, .aload_n 0, 1, .aload_n 0, 0), (154, .iconst 2, 1, .iconst 2, 0), (155, .putfield 649, 3, .putfield 87, 1216), (158, .goto 107, 3, .goto 107, 0)]
def m_X10_goesOn_r5 : List mj_I := [(161, .iload_n 1, 1, .iload_n 1, 0), (162, .invokestatic 44314, 3, .invokestatic 107, 1413), (165, .ifCond .eq 79, 3, .ifCond .eq 79, 0), (168, .aload_n 0, 1, .aload_n 0, 0), (169, .iconst 0, 1, .iconst 0, 0), (170, .putfield 651, 3, .putfield 110, 1218), (173, .aload_n 0, 1, .aload_n 0, 0), (174, .aload_n 0, 1, .aload_n 0, 0), (175, .getfield 648, 3, .getfield 90, 1215), (178, .invokevirtual 43818, 3, .invokevirtual 93, 1405), (181, .invokestatic 44314, 3, .invokestatic 107, 1413), (184, .ifCond .eq 47, 3, .ifCond .eq 47, 0), (187, .iload_n 2, 1, .iload_n 2, 0), (188, .iconst 3, 1, .iconst 3, 0), (189, .if_icmp .ge 26, 3, .if_icmp .ge 26, 0)]
def m_X10_goesOn_r6 : List mj_I := [(192, .aload_n 0, 1, .aload_n 0, 0), (193, .bipush 10, 2, .bipush 10, 0), (195, .aload_n 0, 1, .aload_n 0, 0), (196, .getfield 651, 3, .getfield 110, 1218), (199, .imul, 1, .imul, 0), (200, .aload_n 0, 1, .aload_n 0, 0), (201, .aload_n 0, 1, .aload_n 0, 0), (202, .getfield 648, 3, .getfield 90, 1215), (205, .invokevirtual 43818, 3, .invokevirtual 93, 1405), (208, .iadd, 1, .iadd, 0), (209, .bipush 48, 2, .bipush 48, 0), (211, .isub, 1, .isub, 0), (212, .putfield 651, 3, .putfield 110, 1218), (215, .iinc 2 1, 3, .iinc 2 1, 0), (218, .aload_n 0, 1, .aload_n 0, 0), (219, .dup, 1, .dup, 0), (220, .getfield 648, 3, .getfield 90, 1215), (223, .iconst 1, 1, .iconst 1, 0)]
def m_X10_goesOn_r7 : List mj_I := [(224, .iadd, 1, .iadd, 0), (225, .putfield 648, 3, .putfield 90, 1215), (228, .goto (-55), 3, .goto (-55), 0), (231, .iload_n 2, 1, .iload_n 2, 0), (232, .iconst 3, 1, .iconst 3, 0), (233, .if_icmp .gt 32, 3, .if_icmp .gt 32, 0), (236, .aload_n 0, 1, .aload_n 0, 0), (237, .iconst 3, 1, .iconst 3, 0), (238, .putfield 649, 3, .putfield 87, 1216), (241, .goto 24, 3, .goto 24, 0), (244, .iload_n 1, 1, .iload_n 1, 0), (245, .bipush 59, 2, .bipush 59, 0), (247, .if_icmp .ne 18, 3, .if_icmp .ne 18, 0), (250, .aload_n 0, 1, .aload_n 0, 0), (251, .iconst 4, 1, .iconst 4, 0), (252, .putfield 649, 3, .putfield 87, 1216), (255, .aload_n 0, 1, .aload_n 0, 0)]
def m_X10_goesOn_r8 : List mj_I := [(256, .dup, 1, .dup, 0), (257, .getfield 648, 3, .getfield 90, 1215), (260, .iconst 1, 1, .iconst 1, 0), (261, .iadd, 1, .iadd, 0), (262, .putfield 648, 3, .putfield 90, 1215), (265, .return_, 1, .return_, 0)]
def m_X10_goesOn_E : List (List mj_I) := [m_X10_goesOn_r0, m_X10_goesOn_r1, m_X10_goesOn_r2, m_X10_goesOn_r3, m_X10_goesOn_r4, m_X10_goesOn_r5, m_X10_goesOn_r6, m_X10_goesOn_r7, m_X10_goesOn_r8]
def m_X10_goesOn : mj_M := (yX10_goesOn, cX10_goesOn, 3, none, m_X10_goesOn_E)
def m_X10_flaw_r0 : List mj_I := [(0, .aload_n 0, 1, .aload_n 0, 0), (1, .getfield 649, 3, .getfield 87, 1216), (4, .iconst 5, 1, .iconst 5, 0), (5, .if_icmp .ne 4, 3, .if_icmp .ne 4, 0), (8, .return_, 1, .return_, 0), (9, .aload_n 0, 1, .aload_n 0, 0), (10, .iload_n 1, 1, .iload_n 1, 0), (11, .putfield 652, 3, .putfield 113, 1219), (14, .aload_n 0, 1, .aload_n 0, 0), (15, .aload_n 0, 1, .aload_n 0, 0), (16, .getfield 650, 3, .getfield 96, 1217), (19, .putfield 653, 3, .putfield 116, 1220), (22, .aload_n 0, 1, .aload_n 0, 0), (23, .iconst 5, 1, .iconst 5, 0), (24, .putfield 649, 3, .putfield 87, 1216), (27, .return_, 1, .return_, 0)]
def m_X10_flaw_E : List (List mj_I) := [m_X10_flaw_r0]
def m_X10_flaw : mj_M := (yX10_flaw, cX10_flaw, 2, none, m_X10_flaw_E)
def m_X10_isWord_r0 : List mj_I := [(0, .aload_n 0, 1, .aload_n 0, 0), (1, .getfield 649, 3, .getfield 87, 1216), (4, .iconst 2, 1, .iconst 2, 0), (5, .if_icmp .ne 19, 3, .if_icmp .ne 19, 0), (8, .aload_n 0, 1, .aload_n 0, 0), (9, .getfield 654, 3, .getfield 103, 1221), (12, .aload_n 1, 1, .aload_n 1, 0), (13, .invokestatic 44570, 3, .invokestatic 119, 1429), (16, .lcmp, 1, .lcmp, 0), (17, .ifCond .ne 7, 3, .ifCond .ne 7, 0), (20, .iconst 1, 1, .iconst 1, 0), (21, .goto 4, 3, .goto 4, 0), (24, .iconst 0, 1, .iconst 0, 0), (25, .ireturn, 1, .ireturn, 0)]
def m_X10_isWord_E : List (List mj_I) := [m_X10_isWord_r0]
def m_X10_isWord : mj_M := (yX10_isWord, cX10_isWord, 2, (some .boolean), m_X10_isWord_E)
def m_X10_eatsSemicolon_r0 : List mj_I := [(0, .aload_n 0, 1, .aload_n 0, 0), (1, .getfield 649, 3, .getfield 87, 1216), (4, .iconst 4, 1, .iconst 4, 0), (5, .if_icmp .ne 7, 3, .if_icmp .ne 7, 0), (8, .iconst 1, 1, .iconst 1, 0), (9, .goto 4, 3, .goto 4, 0), (12, .iconst 0, 1, .iconst 0, 0), (13, .istore_n 1, 1, .istore_n 1, 0), (14, .iload_n 1, 1, .iload_n 1, 0), (15, .ifCond .eq 7, 3, .ifCond .eq 7, 0), (18, .aload_n 0, 1, .aload_n 0, 0), (19, .invokevirtual 44826, 3, .invokevirtual 123, 1401), (22, .iload_n 1, 1, .iload_n 1, 0), (23, .ireturn, 1, .ireturn, 0)]
def m_X10_eatsSemicolon_E : List (List mj_I) := [m_X10_eatsSemicolon_r0]
def m_X10_eatsSemicolon : mj_M := (yX10_eatsSemicolon, cX10_eatsSemicolon, 2, (some .boolean), m_X10_eatsSemicolon_E)
def m_X10_needs_r0 : List mj_I := [(0, .aload_n 0, 1, .aload_n 0, 0), (1, .aload_n 1, 1, .aload_n 1, 0), (2, .invokevirtual 45354, 3, .invokevirtual 126, 1425), (5, .ifCond .ne 8, 3, .ifCond .ne 8, 0), (8, .aload_n 0, 1, .aload_n 0, 0), (9, .iconst 1, 1, .iconst 1, 0), (10, .invokevirtual 45098, 3, .invokevirtual 130, 1438), (13, .aload_n 0, 1, .aload_n 0, 0), (14, .invokevirtual 44826, 3, .invokevirtual 123, 1401), (17, .return_, 1, .return_, 0)]
def m_X10_needs_E : List (List mj_I) := [m_X10_needs_r0]
def m_X10_needs : mj_M := (yX10_needs, cX10_needs, 2, none, m_X10_needs_E)
def m_X10_readWhole_r0 : List mj_I := [(0, .aload_n 0, 1, .aload_n 0, 0), (1, .getfield 649, 3, .getfield 87, 1216), (4, .iconst 3, 1, .iconst 3, 0), (5, .if_icmp .eq 11, 3, .if_icmp .eq 11, 0), (8, .aload_n 0, 1, .aload_n 0, 0), (9, .iconst 1, 1, .iconst 1, 0), (10, .invokevirtual 45098, 3, .invokevirtual 130, 1438), (13, .goto 20, 3, .goto 20, 0), (16, .aload_n 0, 1, .aload_n 0, 0), (17, .getfield 651, 3, .getfield 110, 1218), (20, .iload_n 1, 1, .iload_n 1, 0), (21, .iload_n 2, 1, .iload_n 2, 0), (22, .invokestatic 42554, 3, .invokestatic 134, 1455), (25, .ifCond .ne 8, 3, .ifCond .ne 8, 0), (28, .aload_n 0, 1, .aload_n 0, 0), (29, .iconst 4, 1, .iconst 4, 0), (30, .invokevirtual 45098, 3, .invokevirtual 130, 1438)]
def m_X10_readWhole_r1 : List mj_I := [(33, .aload_n 0, 1, .aload_n 0, 0), (34, .getfield 649, 3, .getfield 87, 1216), (37, .iconst 5, 1, .iconst 5, 0), (38, .if_icmp .ne 7, 3, .if_icmp .ne 7, 0), (41, .iload_n 1, 1, .iload_n 1, 0), (42, .goto 7, 3, .goto 7, 0), (45, .aload_n 0, 1, .aload_n 0, 0), (46, .getfield 651, 3, .getfield 110, 1218), (49, .istore_n 3, 1, .istore_n 3, 0), (50, .aload_n 0, 1, .aload_n 0, 0), (51, .invokevirtual 44826, 3, .invokevirtual 123, 1401), (54, .iload_n 3, 1, .iload_n 3, 0), (55, .ireturn, 1, .ireturn, 0)]
def m_X10_readWhole_E : List (List mj_I) := [m_X10_readWhole_r0, m_X10_readWhole_r1]
def m_X10_readWhole : mj_M := (yX10_readWhole, cX10_readWhole, 4, (some .int), m_X10_readWhole_E)
def m_X10_readPart_r0 : List mj_I := [(0, .aload_n 0, 1, .aload_n 0, 0), (1, .aload_n 1, 1, .aload_n 1, 0), (2, .invokevirtual 45866, 3, .invokevirtual 138, 1447), (5, .aload_n 0, 1, .aload_n 0, 0), (6, .iload_n 2, 1, .iload_n 2, 0), (7, .iload_n 3, 1, .iload_n 3, 0), (8, .invokevirtual 46138, 3, .invokevirtual 142, 1451), (11, .ireturn, 1, .ireturn, 0)]
def m_X10_readPart_E : List (List mj_I) := [m_X10_readPart_r0]
def m_X10_readPart : mj_M := (yX10_readPart, cX10_readPart, 4, (some .int), m_X10_readPart_E)
def m_X10_isName_r0 : List mj_I := [(0, .aload_n 0, 1, .aload_n 0, 0), (1, .getfield 649, 3, .getfield 87, 1216), (4, .iconst 2, 1, .iconst 2, 0), (5, .if_icmp .ne 30, 3, .if_icmp .ne 30, 0), (8, .aload_n 0, 1, .aload_n 0, 0), (9, .ldc 18, 2, .ldc 146, 1424), (11, .invokevirtual 45354, 3, .invokevirtual 126, 1425), (14, .ifCond .ne 21, 3, .ifCond .ne 21, 0), (17, .aload_n 0, 1, .aload_n 0, 0), (18, .ldc 20, 2, .ldc 148, 1458), (20, .invokevirtual 45354, 3, .invokevirtual 126, 1425), (23, .ifCond .ne 12, 3, .ifCond .ne 12, 0), (26, .aload_n 0, 1, .aload_n 0, 0), (27, .ldc 21, 2, .ldc 150, 1471), (29, .invokevirtual 45354, 3, .invokevirtual 126, 1425)]
def m_X10_isName_r1 : List mj_I := [(32, .ifCond .eq 5, 3, .ifCond .eq 5, 0), (35, .iconst 0, 1, .iconst 0, 0), (36, .ireturn, 1, .ireturn, 0), (37, .aload_n 0, 1, .aload_n 0, 0), (38, .ldc 22, 2, .ldc 152, 1472), (40, .invokevirtual 45354, 3, .invokevirtual 126, 1425), (43, .ifCond .ne 25, 3, .ifCond .ne 25, 0), (46, .aload_n 0, 1, .aload_n 0, 0), (47, .ldc 23, 2, .ldc 154, 1473), (49, .invokevirtual 45354, 3, .invokevirtual 126, 1425), (52, .ifCond .ne 16, 3, .ifCond .ne 16, 0), (55, .aload_n 0, 1, .aload_n 0, 0), (56, .ldc 24, 2, .ldc 156, 1474), (58, .invokevirtual 45354, 3, .invokevirtual 126, 1425), (61, .ifCond .ne 7, 3, .ifCond .ne 7, 0)]
def m_X10_isName_r2 : List mj_I := [(64, .iconst 1, 1, .iconst 1, 0), (65, .goto 4, 3, .goto 4, 0), (68, .iconst 0, 1, .iconst 0, 0), (69, .ireturn, 1, .ireturn, 0)]
def m_X10_isName_E : List (List mj_I) := [m_X10_isName_r0, m_X10_isName_r1, m_X10_isName_r2]
def m_X10_isName : mj_M := (yX10_isName, cX10_isName, 1, (some .boolean), m_X10_isName_E)
def m_X10_lineBegins_r0 : List mj_I := [(0, .iload_n 1, 1, .iload_n 1, 0), (1, .iload_n 2, 1, .iload_n 2, 0), (2, .if_icmp .ne 8, 3, .if_icmp .ne 8, 0), (5, .aload_n 0, 1, .aload_n 0, 0), (6, .iconst 5, 1, .iconst 5, 0), (7, .invokevirtual 45098, 3, .invokevirtual 130, 1438), (10, .aload_n 0, 1, .aload_n 0, 0), (11, .getfield 644, 3, .getfield 158, 1211), (14, .getfield 576, 3, .getfield 162, 1345), (17, .iconst (-1), 1, .iconst (-1), 0), (18, .if_icmp .ne 9, 3, .if_icmp .ne 9, 0), (21, .aload_n 0, 1, .aload_n 0, 0), (22, .bipush 6, 2, .bipush 6, 0), (24, .invokevirtual 45098, 3, .invokevirtual 130, 1438), (27, .aload_n 0, 1, .aload_n 0, 0), (28, .invokevirtual 44826, 3, .invokevirtual 123, 1401), (31, .return_, 1, .return_, 0)]
def m_X10_lineBegins_E : List (List mj_I) := [m_X10_lineBegins_r0]
def m_X10_lineBegins : mj_M := (yX10_lineBegins, cX10_lineBegins, 3, none, m_X10_lineBegins_E)
def m_X10_knownMan_r0 : List mj_I := [(0, .aload_n 0, 1, .aload_n 0, 0), (1, .invokevirtual 46618, 3, .invokevirtual 166, 1467), (4, .ifCond .ne 8, 3, .ifCond .ne 8, 0), (7, .aload_n 0, 1, .aload_n 0, 0), (8, .iconst 1, 1, .iconst 1, 0), (9, .invokevirtual 45098, 3, .invokevirtual 130, 1438), (12, .aload_n 0, 1, .aload_n 0, 0), (13, .getfield 644, 3, .getfield 158, 1211), (16, .aload_n 0, 1, .aload_n 0, 0), (17, .getfield 654, 3, .getfield 103, 1221), (20, .invokevirtual 40233, 3, .invokevirtual 170, 1475), (23, .istore_n 1, 1, .istore_n 1, 0), (24, .iload_n 1, 1, .iload_n 1, 0), (25, .iconst (-1), 1, .iconst (-1), 0), (26, .if_icmp .ne 8, 3, .if_icmp .ne 8, 0), (29, .aload_n 0, 1, .aload_n 0, 0), (30, .iconst 2, 1, .iconst 2, 0), (31, .invokevirtual 45098, 3, .invokevirtual 130, 1438)]
def m_X10_knownMan_r1 : List mj_I := [(34, .aload_n 0, 1, .aload_n 0, 0), (35, .getfield 649, 3, .getfield 87, 1216), (38, .iconst 5, 1, .iconst 5, 0), (39, .if_icmp .ne 7, 3, .if_icmp .ne 7, 0), (42, .iconst 0, 1, .iconst 0, 0), (43, .goto 4, 3, .goto 4, 0), (46, .iload_n 1, 1, .iload_n 1, 0), (47, .ireturn, 1, .ireturn, 0)]
def m_X10_knownMan_E : List (List mj_I) := [m_X10_knownMan_r0, m_X10_knownMan_r1]
def m_X10_knownMan : mj_M := (yX10_knownMan, cX10_knownMan, 2, (some .int), m_X10_knownMan_E)
def m_X10_sortAtHand_r0 : List mj_I := [(0, .aload_n 0, 1, .aload_n 0, 0), (1, .ldc 25, 2, .ldc 174, 1483), (3, .invokevirtual 45354, 3, .invokevirtual 126, 1425), (6, .ifCond .eq 7, 3, .ifCond .eq 7, 0), (9, .iconst 0, 1, .iconst 0, 0), (10, .goto 43, 3, .goto 43, 0), (13, .aload_n 0, 1, .aload_n 0, 0), (14, .ldc 26, 2, .ldc 176, 1484), (16, .invokevirtual 45354, 3, .invokevirtual 126, 1425), (19, .ifCond .eq 7, 3, .ifCond .eq 7, 0), (22, .iconst 1, 1, .iconst 1, 0), (23, .goto 30, 3, .goto 30, 0), (26, .aload_n 0, 1, .aload_n 0, 0), (27, .ldc 27, 2, .ldc 178, 1485), (29, .invokevirtual 45354, 3, .invokevirtual 126, 1425)]
def m_X10_sortAtHand_r1 : List mj_I := [(32, .ifCond .eq 7, 3, .ifCond .eq 7, 0), (35, .iconst 2, 1, .iconst 2, 0), (36, .goto 17, 3, .goto 17, 0), (39, .aload_n 0, 1, .aload_n 0, 0), (40, .ldc 28, 2, .ldc 180, 1486), (42, .invokevirtual 45354, 3, .invokevirtual 126, 1425), (45, .ifCond .eq 7, 3, .ifCond .eq 7, 0), (48, .iconst 3, 1, .iconst 3, 0), (49, .goto 4, 3, .goto 4, 0), (52, .iconst (-1), 1, .iconst (-1), 0), (53, .istore_n 1, 1, .istore_n 1, 0), (54, .iload_n 1, 1, .iload_n 1, 0), (55, .iconst (-1), 1, .iconst (-1), 0), (56, .if_icmp .ne 8, 3, .if_icmp .ne 8, 0), (59, .aload_n 0, 1, .aload_n 0, 0), (60, .iconst 1, 1, .iconst 1, 0), (61, .invokevirtual 45098, 3, .invokevirtual 130, 1438)]
def m_X10_sortAtHand_r2 : List mj_I := [(64, .iload_n 1, 1, .iload_n 1, 0), (65, .iconst (-1), 1, .iconst (-1), 0), (66, .if_icmp .ne 7, 3, .if_icmp .ne 7, 0), (69, .iconst 0, 1, .iconst 0, 0), (70, .goto 4, 3, .goto 4, 0), (73, .iload_n 1, 1, .iload_n 1, 0), (74, .ireturn, 1, .ireturn, 0)]
def m_X10_sortAtHand_E : List (List mj_I) := [m_X10_sortAtHand_r0, m_X10_sortAtHand_r1, m_X10_sortAtHand_r2]
def m_X10_sortAtHand : mj_M := (yX10_sortAtHand, cX10_sortAtHand, 2, (some .int), m_X10_sortAtHand_E)
def m_X10_readAll_r0 : List mj_I := [(0, .iconst 1, 1, .iconst 1, 0), (1, .istore_n 1, 1, .istore_n 1, 0), (2, .iload_n 1, 1, .iload_n 1, 0), (3, .ifCond .eq 15, 3, .ifCond .eq 15, 0), (6, .aload_n 0, 1, .aload_n 0, 0), (7, .invokevirtual 47898, 3, .invokevirtual 182, 1420), (10, .aload_n 0, 1, .aload_n 0, 0), (11, .invokevirtual 45594, 3, .invokevirtual 185, 1520), (14, .istore_n 1, 1, .istore_n 1, 0), (15, .goto (-13), 3, .goto (-13), 0), (18, .aload_n 0, 1, .aload_n 0, 0), (19, .getfield 649, 3, .getfield 87, 1216), (22, .iconst 1, 1, .iconst 1, 0), (23, .if_icmp .eq 8, 3, .if_icmp .eq 8, 0), (26, .aload_n 0, 1, .aload_n 0, 0), (27, .iconst 1, 1, .iconst 1, 0), (28, .invokevirtual 45098, 3, .invokevirtual 130, 1438), (31, .aload_n 0, 1, .aload_n 0, 0)]
def m_X10_readAll_r1 : List mj_I := [(32, .getfield 644, 3, .getfield 158, 1211), (35, .getfield 577, 3, .getfield 188, 1347), (38, .ifCond .ne 9, 3, .ifCond .ne 9, 0), (41, .aload_n 0, 1, .aload_n 0, 0), (42, .bipush 6, 2, .bipush 6, 0), (44, .invokevirtual 45098, 3, .invokevirtual 130, 1438), (47, .return_, 1, .return_, 0)]
def m_X10_readAll_E : List (List mj_I) := [m_X10_readAll_r0, m_X10_readAll_r1]
def m_X10_readAll : mj_M := (yX10_readAll, cX10_readAll, 2, none, m_X10_readAll_E)
def m_X10_readLine_r0 : List mj_I := [(0, .aload_n 0, 1, .aload_n 0, 0), (1, .ldc 18, 2, .ldc 146, 1424), (3, .invokevirtual 45354, 3, .invokevirtual 126, 1425), (6, .ifCond .eq 10, 3, .ifCond .eq 10, 0), (9, .aload_n 0, 1, .aload_n 0, 0), (10, .invokevirtual 48154, 3, .invokevirtual 191, 1434), (13, .goto 88, 3, .goto 88, 0), (16, .aload_n 0, 1, .aload_n 0, 0), (17, .ldc 20, 2, .ldc 148, 1458), (19, .invokevirtual 45354, 3, .invokevirtual 126, 1425), (22, .ifCond .eq 10, 3, .ifCond .eq 10, 0), (25, .aload_n 0, 1, .aload_n 0, 0), (26, .invokevirtual 48410, 3, .invokevirtual 194, 1459), (29, .goto 72, 3, .goto 72, 0)]
def m_X10_readLine_r1 : List mj_I := [(32, .aload_n 0, 1, .aload_n 0, 0), (33, .ldc 21, 2, .ldc 150, 1471), (35, .invokevirtual 45354, 3, .invokevirtual 126, 1425), (38, .ifCond .eq 10, 3, .ifCond .eq 10, 0), (41, .aload_n 0, 1, .aload_n 0, 0), (42, .invokevirtual 48666, 3, .invokevirtual 197, 1490), (45, .goto 56, 3, .goto 56, 0), (48, .aload_n 0, 1, .aload_n 0, 0), (49, .ldc 22, 2, .ldc 152, 1472), (51, .invokevirtual 45354, 3, .invokevirtual 126, 1425), (54, .ifCond .eq 10, 3, .ifCond .eq 10, 0), (57, .aload_n 0, 1, .aload_n 0, 0), (58, .invokevirtual 48922, 3, .invokevirtual 200, 1501), (61, .goto 40, 3, .goto 40, 0)]
def m_X10_readLine_r2 : List mj_I := [(64, .aload_n 0, 1, .aload_n 0, 0), (65, .ldc 23, 2, .ldc 154, 1473), (67, .invokevirtual 45354, 3, .invokevirtual 126, 1425), (70, .ifCond .eq 10, 3, .ifCond .eq 10, 0), (73, .aload_n 0, 1, .aload_n 0, 0), (74, .invokevirtual 49178, 3, .invokevirtual 203, 1505), (77, .goto 24, 3, .goto 24, 0), (80, .aload_n 0, 1, .aload_n 0, 0), (81, .ldc 24, 2, .ldc 156, 1474), (83, .invokevirtual 45354, 3, .invokevirtual 126, 1425), (86, .ifCond .eq 10, 3, .ifCond .eq 10, 0), (89, .aload_n 0, 1, .aload_n 0, 0), (90, .invokevirtual 49434, 3, .invokevirtual 206, 1512), (93, .goto 8, 3, .goto 8, 0)]
def m_X10_readLine_r3 : List mj_I := [(96, .aload_n 0, 1, .aload_n 0, 0), (97, .iconst 1, 1, .iconst 1, 0), (98, .invokevirtual 45098, 3, .invokevirtual 130, 1438), (101, .return_, 1, .return_, 0)]
def m_X10_readLine_E : List (List mj_I) := [m_X10_readLine_r0, m_X10_readLine_r1, m_X10_readLine_r2, m_X10_readLine_r3]
def m_X10_readLine : mj_M := (yX10_readLine, cX10_readLine, 1, none, m_X10_readLine_E)
def m_X10_readDraft_r0 : List mj_I := [(0, .aload_n 0, 1, .aload_n 0, 0), (1, .getfield 644, 3, .getfield 158, 1211), (4, .getfield 576, 3, .getfield 162, 1345), (7, .iconst (-1), 1, .iconst (-1), 0), (8, .if_icmp .eq 8, 3, .if_icmp .eq 8, 0), (11, .aload_n 0, 1, .aload_n 0, 0), (12, .iconst 3, 1, .iconst 3, 0), (13, .invokevirtual 45098, 3, .invokevirtual 130, 1438), (16, .aload_n 0, 1, .aload_n 0, 0), (17, .invokevirtual 44826, 3, .invokevirtual 123, 1401), (20, .aload_n 0, 1, .aload_n 0, 0), (21, .ldc 19, 2, .ldc 209, 1442), (23, .iconst 0, 1, .iconst 0, 0), (24, .iconst 5, 1, .iconst 5, 0), (25, .invokevirtual 46410, 3, .invokevirtual 210, 1443), (28, .istore_n 1, 1, .istore_n 1, 0), (29, .aload_n 0, 1, .aload_n 0, 0), (30, .getfield 649, 3, .getfield 87, 1216)]
def m_X10_readDraft_r1 : List mj_I := [(33, .iconst 5, 1, .iconst 5, 0), (34, .if_icmp .eq 11, 3, .if_icmp .eq 11, 0), (37, .aload_n 0, 1, .aload_n 0, 0), (38, .getfield 644, 3, .getfield 158, 1211), (41, .iload_n 1, 1, .iload_n 1, 0), (42, .putfield 576, 3, .putfield 162, 1345), (45, .return_, 1, .return_, 0)]
def m_X10_readDraft_E : List (List mj_I) := [m_X10_readDraft_r0, m_X10_readDraft_r1]
def m_X10_readDraft : mj_M := (yX10_readDraft, cX10_readDraft, 2, none, m_X10_readDraft_E)
def m_X10_readMan_r0 : List mj_I := [(0, .aload_n 0, 1, .aload_n 0, 0), (1, .aload_n 0, 1, .aload_n 0, 0), (2, .getfield 644, 3, .getfield 158, 1211), (5, .getfield 577, 3, .getfield 188, 1347), (8, .bipush 6, 2, .bipush 6, 0), (10, .invokevirtual 46906, 3, .invokevirtual 214, 1463), (13, .aload_n 0, 1, .aload_n 0, 0), (14, .invokevirtual 46618, 3, .invokevirtual 166, 1467), (17, .ifCond .ne 8, 3, .ifCond .ne 8, 0), (20, .aload_n 0, 1, .aload_n 0, 0), (21, .iconst 1, 1, .iconst 1, 0), (22, .invokevirtual 45098, 3, .invokevirtual 130, 1438), (25, .aload_n 0, 1, .aload_n 0, 0), (26, .getfield 644, 3, .getfield 158, 1211), (29, .aload_n 0, 1, .aload_n 0, 0), (30, .getfield 654, 3, .getfield 103, 1221)]
def m_X10_readMan_r1 : List mj_I := [(33, .invokevirtual 40233, 3, .invokevirtual 170, 1475), (36, .iconst (-1), 1, .iconst (-1), 0), (37, .if_icmp .eq 8, 3, .if_icmp .eq 8, 0), (40, .aload_n 0, 1, .aload_n 0, 0), (41, .iconst 3, 1, .iconst 3, 0), (42, .invokevirtual 45098, 3, .invokevirtual 130, 1438), (45, .aload_n 0, 1, .aload_n 0, 0), (46, .getfield 654, 3, .getfield 103, 1221), (49, .lstore_n 1, 1, .lstore_n 1, 0), (50, .aload_n 0, 1, .aload_n 0, 0), (51, .invokevirtual 44826, 3, .invokevirtual 123, 1401), (54, .aload_n 0, 1, .aload_n 0, 0), (55, .invokevirtual 47386, 3, .invokevirtual 218, 1479), (58, .istore_n 3, 1, .istore_n 3, 0), (59, .aload_n 0, 1, .aload_n 0, 0), (60, .invokevirtual 44826, 3, .invokevirtual 123, 1401), (63, .aload_n 0, 1, .aload_n 0, 0)]
def m_X10_readMan_r2 : List mj_I := [(64, .ldc 29, 2, .ldc 221, 1487), (66, .iconst 0, 1, .iconst 0, 0), (67, .bipush 99, 2, .bipush 99, 0), (69, .invokevirtual 46410, 3, .invokevirtual 210, 1443), (72, .istore 4, 2, .istore 4, 0), (74, .aload_n 0, 1, .aload_n 0, 0), (75, .ldc 30, 2, .ldc 223, 1488), (77, .iconst 0, 1, .iconst 0, 0), (78, .sipush 200, 3, .sipush 200, 0), (81, .invokevirtual 46410, 3, .invokevirtual 210, 1443), (84, .istore 5, 2, .istore 5, 0), (86, .aload_n 0, 1, .aload_n 0, 0), (87, .ldc 31, 2, .ldc 225, 1489), (89, .iconst 0, 1, .iconst 0, 0), (90, .bipush 99, 2, .bipush 99, 0), (92, .invokevirtual 46410, 3, .invokevirtual 210, 1443), (95, .istore 6, 2, .istore 6, 0)]
def m_X10_readMan_r3 : List mj_I := [(97, .aload_n 0, 1, .aload_n 0, 0), (98, .getfield 649, 3, .getfield 87, 1216), (101, .iconst 5, 1, .iconst 5, 0), (102, .if_icmp .ne 4, 3, .if_icmp .ne 4, 0), (105, .return_, 1, .return_, 0), (106, .aload_n 0, 1, .aload_n 0, 0), (107, .getfield 644, 3, .getfield 158, 1211), (110, .getfield 577, 3, .getfield 188, 1347), (113, .istore 7, 2, .istore 7, 0), (115, .aload_n 0, 1, .aload_n 0, 0), (116, .getfield 644, 3, .getfield 158, 1211), (119, .getfield 589, 3, .getfield 227, 1367), (122, .iload 7, 2, .iload 7, 0), (124, .lload_n 1, 1, .lload_n 1, 0), (125, .lastore, 1, .lastore, 0), (126, .aload_n 0, 1, .aload_n 0, 0), (127, .getfield 644, 3, .getfield 158, 1211)]
def m_X10_readMan_r4 : List mj_I := [(130, .getfield 584, 3, .getfield 230, 1357), (133, .iload 7, 2, .iload 7, 0), (135, .iload_n 3, 1, .iload_n 3, 0), (136, .iastore, 1, .iastore, 0), (137, .aload_n 0, 1, .aload_n 0, 0), (138, .getfield 644, 3, .getfield 158, 1211), (141, .getfield 585, 3, .getfield 232, 1359), (144, .iload 7, 2, .iload 7, 0), (146, .iload 4, 2, .iload 4, 0), (148, .iastore, 1, .iastore, 0), (149, .aload_n 0, 1, .aload_n 0, 0), (150, .getfield 644, 3, .getfield 158, 1211), (153, .getfield 586, 3, .getfield 234, 1361), (156, .iload 7, 2, .iload 7, 0), (158, .iload 5, 2, .iload 5, 0)]
def m_X10_readMan_r5 : List mj_I := [(160, .iastore, 1, .iastore, 0), (161, .aload_n 0, 1, .aload_n 0, 0), (162, .getfield 644, 3, .getfield 158, 1211), (165, .getfield 587, 3, .getfield 236, 1363), (168, .iload 7, 2, .iload 7, 0), (170, .iload 6, 2, .iload 6, 0), (172, .iastore, 1, .iastore, 0), (173, .aload_n 0, 1, .aload_n 0, 0), (174, .getfield 644, 3, .getfield 158, 1211), (177, .dup, 1, .dup, 0), (178, .getfield 577, 3, .getfield 188, 1347), (181, .iconst 1, 1, .iconst 1, 0), (182, .iadd, 1, .iadd, 0), (183, .putfield 577, 3, .putfield 188, 1347), (186, .return_, 1, .return_, 0)]
def m_X10_readMan_E : List (List mj_I) := [m_X10_readMan_r0, m_X10_readMan_r1, m_X10_readMan_r2, m_X10_readMan_r3, m_X10_readMan_r4, m_X10_readMan_r5]
def m_X10_readMan : mj_M := (yX10_readMan, cX10_readMan, 8, none, m_X10_readMan_E)
def m_X10_readKin_r0 : List mj_I := [(0, .aload_n 0, 1, .aload_n 0, 0), (1, .aload_n 0, 1, .aload_n 0, 0), (2, .getfield 644, 3, .getfield 158, 1211), (5, .getfield 578, 3, .getfield 238, 1348), (8, .bipush 6, 2, .bipush 6, 0), (10, .invokevirtual 46906, 3, .invokevirtual 214, 1463), (13, .aload_n 0, 1, .aload_n 0, 0), (14, .invokevirtual 47130, 3, .invokevirtual 241, 1494), (17, .istore_n 1, 1, .istore_n 1, 0), (18, .aload_n 0, 1, .aload_n 0, 0), (19, .invokevirtual 44826, 3, .invokevirtual 123, 1401), (22, .aload_n 0, 1, .aload_n 0, 0), (23, .invokevirtual 47130, 3, .invokevirtual 241, 1494), (26, .istore_n 2, 1, .istore_n 2, 0), (27, .aload_n 0, 1, .aload_n 0, 0), (28, .getfield 649, 3, .getfield 87, 1216), (31, .iconst 5, 1, .iconst 5, 0)]
def m_X10_readKin_r1 : List mj_I := [(32, .if_icmp .eq 29, 3, .if_icmp .eq 29, 0), (35, .iload_n 1, 1, .iload_n 1, 0), (36, .iload_n 2, 1, .iload_n 2, 0), (37, .if_icmp .eq 19, 3, .if_icmp .eq 19, 0), (40, .aload_n 0, 1, .aload_n 0, 0), (41, .getfield 644, 3, .getfield 158, 1211), (44, .getfield 588, 3, .getfield 244, 1365), (47, .iload_n 1, 1, .iload_n 1, 0), (48, .iaload, 1, .iaload, 0), (49, .iload_n 2, 1, .iload_n 2, 0), (50, .invokestatic 42794, 3, .invokestatic 246, 1498), (53, .ifCond .eq 8, 3, .ifCond .eq 8, 0), (56, .aload_n 0, 1, .aload_n 0, 0), (57, .iconst 3, 1, .iconst 3, 0), (58, .invokevirtual 45098, 3, .invokevirtual 130, 1438), (61, .aload_n 0, 1, .aload_n 0, 0), (62, .invokevirtual 44826, 3, .invokevirtual 123, 1401)]
def m_X10_readKin_r2 : List mj_I := [(65, .aload_n 0, 1, .aload_n 0, 0), (66, .getfield 649, 3, .getfield 87, 1216), (69, .iconst 5, 1, .iconst 5, 0), (70, .if_icmp .ne 4, 3, .if_icmp .ne 4, 0), (73, .return_, 1, .return_, 0), (74, .aload_n 0, 1, .aload_n 0, 0), (75, .getfield 644, 3, .getfield 158, 1211), (78, .getfield 588, 3, .getfield 244, 1365), (81, .iload_n 1, 1, .iload_n 1, 0), (82, .dup2, 1, .dup2, 0), (83, .iaload, 1, .iaload, 0), (84, .iconst 1, 1, .iconst 1, 0), (85, .iload_n 2, 1, .iload_n 2, 0), (86, .ishl, 1, .ishl, 0), (87, .ior, 1, .ior, 0), (88, .iastore, 1, .iastore, 0), (89, .aload_n 0, 1, .aload_n 0, 0), (90, .getfield 644, 3, .getfield 158, 1211), (93, .getfield 588, 3, .getfield 244, 1365)]
def m_X10_readKin_r3 : List mj_I := [(96, .iload_n 2, 1, .iload_n 2, 0), (97, .dup2, 1, .dup2, 0), (98, .iaload, 1, .iaload, 0), (99, .iconst 1, 1, .iconst 1, 0), (100, .iload_n 1, 1, .iload_n 1, 0), (101, .ishl, 1, .ishl, 0), (102, .ior, 1, .ior, 0), (103, .iastore, 1, .iastore, 0), (104, .aload_n 0, 1, .aload_n 0, 0), (105, .getfield 644, 3, .getfield 158, 1211), (108, .dup, 1, .dup, 0), (109, .getfield 578, 3, .getfield 238, 1348), (112, .iconst 1, 1, .iconst 1, 0), (113, .iadd, 1, .iadd, 0), (114, .putfield 578, 3, .putfield 238, 1348), (117, .return_, 1, .return_, 0)]
def m_X10_readKin_E : List (List mj_I) := [m_X10_readKin_r0, m_X10_readKin_r1, m_X10_readKin_r2, m_X10_readKin_r3]
def m_X10_readKin : mj_M := (yX10_readKin, cX10_readKin, 3, none, m_X10_readKin_E)
def m_X10_readSpares_r0 : List mj_I := [(0, .aload_n 0, 1, .aload_n 0, 0), (1, .iconst 0, 1, .iconst 0, 0), (2, .iconst 1, 1, .iconst 1, 0), (3, .invokevirtual 46906, 3, .invokevirtual 214, 1463), (6, .aload_n 0, 1, .aload_n 0, 0), (7, .invokevirtual 47386, 3, .invokevirtual 218, 1479), (10, .istore_n 1, 1, .istore_n 1, 0), (11, .aload_n 0, 1, .aload_n 0, 0), (12, .getfield 649, 3, .getfield 87, 1216), (15, .iconst 5, 1, .iconst 5, 0), (16, .if_icmp .eq 22, 3, .if_icmp .eq 22, 0), (19, .aload_n 0, 1, .aload_n 0, 0), (20, .getfield 644, 3, .getfield 158, 1211), (23, .getfield 580, 3, .getfield 250, 1351), (26, .iload_n 1, 1, .iload_n 1, 0), (27, .invokestatic 42794, 3, .invokestatic 246, 1498), (30, .ifCond .eq 8, 3, .ifCond .eq 8, 0)]
def m_X10_readSpares_r1 : List mj_I := [(33, .aload_n 0, 1, .aload_n 0, 0), (34, .iconst 3, 1, .iconst 3, 0), (35, .invokevirtual 45098, 3, .invokevirtual 130, 1438), (38, .aload_n 0, 1, .aload_n 0, 0), (39, .invokevirtual 44826, 3, .invokevirtual 123, 1401), (42, .aload_n 0, 1, .aload_n 0, 0), (43, .getfield 649, 3, .getfield 87, 1216), (46, .iconst 5, 1, .iconst 5, 0), (47, .if_icmp .eq 18, 3, .if_icmp .eq 18, 0), (50, .aload_n 0, 1, .aload_n 0, 0), (51, .getfield 644, 3, .getfield 158, 1211), (54, .dup, 1, .dup, 0), (55, .getfield 580, 3, .getfield 250, 1351), (58, .iconst 1, 1, .iconst 1, 0), (59, .iload_n 1, 1, .iload_n 1, 0), (60, .ishl, 1, .ishl, 0), (61, .ior, 1, .ior, 0), (62, .putfield 580, 3, .putfield 250, 1351)]
def m_X10_readSpares_r2 : List mj_I := [(65, .return_, 1, .return_, 0)]
def m_X10_readSpares_E : List (List mj_I) := [m_X10_readSpares_r0, m_X10_readSpares_r1, m_X10_readSpares_r2]
def m_X10_readSpares : mj_M := (yX10_readSpares, cX10_readSpares, 2, none, m_X10_readSpares_E)
def m_X10_readDoctor_r0 : List mj_I := [(0, .aload_n 0, 1, .aload_n 0, 0), (1, .getfield 644, 3, .getfield 158, 1211), (4, .getfield 581, 3, .getfield 252, 1353), (7, .iconst (-1), 1, .iconst (-1), 0), (8, .if_icmp .eq 8, 3, .if_icmp .eq 8, 0), (11, .aload_n 0, 1, .aload_n 0, 0), (12, .iconst 3, 1, .iconst 3, 0), (13, .invokevirtual 45098, 3, .invokevirtual 130, 1438), (16, .aload_n 0, 1, .aload_n 0, 0), (17, .iconst 0, 1, .iconst 0, 0), (18, .iconst 1, 1, .iconst 1, 0), (19, .invokevirtual 46906, 3, .invokevirtual 214, 1463), (22, .aload_n 0, 1, .aload_n 0, 0), (23, .ldc 32, 2, .ldc 255, 1509), (25, .iconst 0, 1, .iconst 0, 0), (26, .bipush 100, 2, .bipush 100, 0), (28, .invokevirtual 46410, 3, .invokevirtual 210, 1443), (31, .istore_n 1, 1, .istore_n 1, 0)]
def m_X10_readDoctor_r1 : List mj_I := [(32, .aload_n 0, 1, .aload_n 0, 0), (33, .ldc 33, 3, .ldc_w 256, 1510), (36, .iconst 0, 1, .iconst 0, 0), (37, .bipush 100, 2, .bipush 100, 0), (39, .invokevirtual 46410, 3, .invokevirtual 210, 1443), (42, .istore_n 2, 1, .istore_n 2, 0), (43, .aload_n 0, 1, .aload_n 0, 0), (44, .ldc 34, 3, .ldc_w 258, 1511), (47, .iconst 0, 1, .iconst 0, 0), (48, .bipush 100, 2, .bipush 100, 0), (50, .invokevirtual 46410, 3, .invokevirtual 210, 1443), (53, .istore_n 3, 1, .istore_n 3, 0), (54, .aload_n 0, 1, .aload_n 0, 0), (55, .getfield 649, 3, .getfield 87, 1216), (58, .iconst 5, 1, .iconst 5, 0), (59, .if_icmp .ne 4, 3, .if_icmp .ne 4, 0), (62, .return_, 1, .return_, 0), (63, .aload_n 0, 1, .aload_n 0, 0)]
def m_X10_readDoctor_r2 : List mj_I := [(64, .getfield 644, 3, .getfield 158, 1211), (67, .iload_n 1, 1, .iload_n 1, 0), (68, .putfield 581, 3, .putfield 252, 1353), (71, .aload_n 0, 1, .aload_n 0, 0), (72, .getfield 644, 3, .getfield 158, 1211), (75, .iload_n 2, 1, .iload_n 2, 0), (76, .putfield 582, 3, .putfield 260, 1354), (79, .aload_n 0, 1, .aload_n 0, 0), (80, .getfield 644, 3, .getfield 158, 1211), (83, .iload_n 3, 1, .iload_n 3, 0), (84, .putfield 583, 3, .putfield 262, 1355), (87, .return_, 1, .return_, 0)]
def m_X10_readDoctor_E : List (List mj_I) := [m_X10_readDoctor_r0, m_X10_readDoctor_r1, m_X10_readDoctor_r2]
def m_X10_readDoctor : mj_M := (yX10_readDoctor, cX10_readDoctor, 4, none, m_X10_readDoctor_E)
def m_X10_readWent_r0 : List mj_I := [(0, .aload_n 0, 1, .aload_n 0, 0), (1, .aload_n 0, 1, .aload_n 0, 0), (2, .getfield 644, 3, .getfield 158, 1211), (5, .getfield 579, 3, .getfield 264, 1350), (8, .iconst 3, 1, .iconst 3, 0), (9, .invokevirtual 46906, 3, .invokevirtual 214, 1463), (12, .aload_n 0, 1, .aload_n 0, 0), (13, .invokevirtual 47130, 3, .invokevirtual 241, 1494), (16, .istore_n 1, 1, .istore_n 1, 0), (17, .aload_n 0, 1, .aload_n 0, 0), (18, .getfield 649, 3, .getfield 87, 1216), (21, .iconst 5, 1, .iconst 5, 0), (22, .if_icmp .eq 19, 3, .if_icmp .eq 19, 0), (25, .aload_n 0, 1, .aload_n 0, 0), (26, .getfield 644, 3, .getfield 158, 1211), (29, .iload_n 1, 1, .iload_n 1, 0), (30, .invokevirtual 40489, 3, .invokevirtual 266, 1516)]
def m_X10_readWent_r1 : List mj_I := [(33, .ifCond .eq 8, 3, .ifCond .eq 8, 0), (36, .aload_n 0, 1, .aload_n 0, 0), (37, .iconst 3, 1, .iconst 3, 0), (38, .invokevirtual 45098, 3, .invokevirtual 130, 1438), (41, .aload_n 0, 1, .aload_n 0, 0), (42, .invokevirtual 44826, 3, .invokevirtual 123, 1401), (45, .aload_n 0, 1, .aload_n 0, 0), (46, .getfield 649, 3, .getfield 87, 1216), (49, .iconst 5, 1, .iconst 5, 0), (50, .if_icmp .ne 4, 3, .if_icmp .ne 4, 0), (53, .return_, 1, .return_, 0), (54, .aload_n 0, 1, .aload_n 0, 0), (55, .getfield 644, 3, .getfield 158, 1211), (58, .getfield 590, 3, .getfield 269, 1369), (61, .aload_n 0, 1, .aload_n 0, 0), (62, .getfield 644, 3, .getfield 158, 1211)]
def m_X10_readWent_r2 : List mj_I := [(65, .getfield 579, 3, .getfield 264, 1350), (68, .iload_n 1, 1, .iload_n 1, 0), (69, .iastore, 1, .iastore, 0), (70, .aload_n 0, 1, .aload_n 0, 0), (71, .getfield 644, 3, .getfield 158, 1211), (74, .dup, 1, .dup, 0), (75, .getfield 579, 3, .getfield 264, 1350), (78, .iconst 1, 1, .iconst 1, 0), (79, .iadd, 1, .iadd, 0), (80, .putfield 579, 3, .putfield 264, 1350), (83, .return_, 1, .return_, 0)]
def m_X10_readWent_E : List (List mj_I) := [m_X10_readWent_r0, m_X10_readWent_r1, m_X10_readWent_r2]
def m_X10_readWent : mj_M := (yX10_readWent, cX10_readWent, 2, none, m_X10_readWent_E)
def m_X10_feed_r0 : List mj_I := [(0, .aload_n 0, 1, .aload_n 0, 0), (1, .iconst 0, 1, .iconst 0, 0), (2, .putfield 640, 3, .putfield 55, 1207), (5, .aload_n 0, 1, .aload_n 0, 0), (6, .getfield 646, 3, .getfield 272, 1213), (9, .bipush 20, 2, .bipush 20, 0), (11, .iadd, 1, .iadd, 0), (12, .sipush 800, 3, .sipush 800, 0), (15, .if_icmp .le 5, 3, .if_icmp .le 5, 0), (18, .iconst (-1), 1, .iconst (-1), 0), (19, .ireturn, 1, .ireturn, 0), (20, .iconst 0, 1, .iconst 0, 0), (21, .istore 6, 2, .istore 6, 0), (23, .iload 6, 2, .iload 6, 0), (25, .bipush 20, 2, .bipush 20, 0), (27, .if_icmp .ge 90, 3, .if_icmp .ge 90, 0), (30, .iload 6, 2, .iload 6, 0)]
def m_X10_feed_r1 : List mj_I := [(32, .iconst 4, 1, .iconst 4, 0), (33, .if_icmp .ge 7, 3, .if_icmp .ge 7, 0), (36, .iload_n 1, 1, .iload_n 1, 0), (37, .goto 39, 3, .goto 39, 0), (40, .iload 6, 2, .iload 6, 0), (42, .bipush 8, 2, .bipush 8, 0), (44, .if_icmp .ge 7, 3, .if_icmp .ge 7, 0), (47, .iload_n 2, 1, .iload_n 2, 0), (48, .goto 28, 3, .goto 28, 0), (51, .iload 6, 2, .iload 6, 0), (53, .bipush 12, 2, .bipush 12, 0), (55, .if_icmp .ge 7, 3, .if_icmp .ge 7, 0), (58, .iload_n 3, 1, .iload_n 3, 0), (59, .goto 17, 3, .goto 17, 0), (62, .iload 6, 2, .iload 6, 0)]
def m_X10_feed_r2 : List mj_I := [(64, .bipush 16, 2, .bipush 16, 0), (66, .if_icmp .ge 8, 3, .if_icmp .ge 8, 0), (69, .iload 4, 2, .iload 4, 0), (71, .goto 5, 3, .goto 5, 0), (74, .iload 5, 2, .iload 5, 0), (76, .istore 7, 2, .istore 7, 0), (78, .aload_n 0, 1, .aload_n 0, 0), (79, .getfield 645, 3, .getfield 13, 1212), (82, .aload_n 0, 1, .aload_n 0, 0), (83, .getfield 646, 3, .getfield 272, 1213), (86, .iload 7, 2, .iload 7, 0), (88, .bipush 24, 2, .bipush 24, 0), (90, .bipush 8, 2, .bipush 8, 0), (92, .iload 6, 2, .iload 6, 0), (94, .iconst 4, 1, .iconst 4, 0), (95, .irem, 1, .irem, 0)]
def m_X10_feed_r3 : List mj_I := [(96, .imul, 1, .imul, 0), (97, .isub, 1, .isub, 0), (98, .ishr, 1, .ishr, 0), (99, .i2b, 1, .i2b, 0), (100, .bastore, 1, .bastore, 0), (101, .aload_n 0, 1, .aload_n 0, 0), (102, .dup, 1, .dup, 0), (103, .getfield 646, 3, .getfield 272, 1213), (106, .iconst 1, 1, .iconst 1, 0), (107, .iadd, 1, .iadd, 0), (108, .putfield 646, 3, .putfield 272, 1213), (111, .iinc 6 1, 3, .iinc 6 1, 0), (114, .goto (-91), 3, .goto (-91), 0), (117, .aload_n 0, 1, .aload_n 0, 0), (118, .getfield 646, 3, .getfield 272, 1213), (121, .ireturn, 1, .ireturn, 0)]
def m_X10_feed_E : List (List mj_I) := [m_X10_feed_r0, m_X10_feed_r1, m_X10_feed_r2, m_X10_feed_r3]
def m_X10_feed : mj_M := (yX10_feed, cX10_feed, 8, (some .int), m_X10_feed_E)
def m_X10_draft_r0 : List mj_I := [(0, .aload_n 0, 1, .aload_n 0, 0), (1, .iconst 0, 1, .iconst 0, 0), (2, .putfield 640, 3, .putfield 55, 1207), (5, .iload_n 1, 1, .iload_n 1, 0), (6, .ifCond .lt 11, 3, .ifCond .lt 11, 0), (9, .iload_n 1, 1, .iload_n 1, 0), (10, .aload_n 0, 1, .aload_n 0, 0), (11, .getfield 646, 3, .getfield 272, 1213), (14, .if_icmp .le 9, 3, .if_icmp .le 9, 0), (17, .aload_n 0, 1, .aload_n 0, 0), (18, .iconst 2, 1, .iconst 2, 0), (19, .invokevirtual 41258, 3, .invokevirtual 61, 1334), (22, .ireturn, 1, .ireturn, 0), (23, .aload_n 0, 1, .aload_n 0, 0), (24, .iload_n 1, 1, .iload_n 1, 0), (25, .putfield 647, 3, .putfield 72, 1214), (28, .aload_n 0, 1, .aload_n 0, 0), (29, .iconst 0, 1, .iconst 0, 0), (30, .putfield 646, 3, .putfield 272, 1213)]
def m_X10_draft_r1 : List mj_I := [(33, .aload_n 0, 1, .aload_n 0, 0), (34, .iconst 0, 1, .iconst 0, 0), (35, .putfield 648, 3, .putfield 90, 1215), (38, .aload_n 0, 1, .aload_n 0, 0), (39, .iconst 0, 1, .iconst 0, 0), (40, .putfield 652, 3, .putfield 113, 1219), (43, .aload_n 0, 1, .aload_n 0, 0), (44, .new 9, 3, .new 163, 1338), (47, .dup, 1, .dup, 0), (48, .invokespecial 39961, 3, .invokespecial 275, 1340), (51, .putfield 644, 3, .putfield 158, 1211), (54, .aload_n 0, 1, .aload_n 0, 0), (55, .iconst 0, 1, .iconst 0, 0), (56, .putfield 649, 3, .putfield 87, 1216), (59, .aload_n 0, 1, .aload_n 0, 0), (60, .invokevirtual 44826, 3, .invokevirtual 123, 1401), (63, .aload_n 0, 1, .aload_n 0, 0)]
def m_X10_draft_r2 : List mj_I := [(64, .invokevirtual 47642, 3, .invokevirtual 276, 1416), (67, .aload_n 0, 1, .aload_n 0, 0), (68, .getfield 652, 3, .getfield 113, 1219), (71, .ifCond .le 18, 3, .ifCond .le 18, 0), (74, .aload_n 0, 1, .aload_n 0, 0), (75, .iconst 4, 1, .iconst 4, 0), (76, .putfield 641, 3, .putfield 58, 1208), (79, .aload_n 0, 1, .aload_n 0, 0), (80, .aload_n 0, 1, .aload_n 0, 0), (81, .getfield 653, 3, .getfield 116, 1220), (84, .putfield 642, 3, .putfield 9, 1209), (87, .iconst (-1), 1, .iconst (-1), 0), (88, .ireturn, 1, .ireturn, 0), (89, .aload_n 0, 1, .aload_n 0, 0), (90, .aload_n 0, 1, .aload_n 0, 0), (91, .getfield 644, 3, .getfield 158, 1211), (94, .putfield 643, 3, .putfield 279, 1210)]
def m_X10_draft_r3 : List mj_I := [(97, .iconst 0, 1, .iconst 0, 0), (98, .istore_n 2, 1, .istore_n 2, 0), (99, .iload_n 2, 1, .iload_n 2, 0), (100, .bipush 28, 2, .bipush 28, 0), (102, .if_icmp .ge 16, 3, .if_icmp .ge 16, 0), (105, .aload_n 0, 1, .aload_n 0, 0), (106, .getfield 655, 3, .getfield 17, 1222), (109, .iload_n 2, 1, .iload_n 2, 0), (110, .iconst 0, 1, .iconst 0, 0), (111, .iastore, 1, .iastore, 0), (112, .iinc 2 1, 3, .iinc 2 1, 0), (115, .goto (-16), 3, .goto (-16), 0), (118, .iconst 0, 1, .iconst 0, 0), (119, .istore_n 2, 1, .istore_n 2, 0), (120, .iload_n 2, 1, .iload_n 2, 0), (121, .aload_n 0, 1, .aload_n 0, 0), (122, .getfield 643, 3, .getfield 279, 1210), (125, .getfield 577, 3, .getfield 188, 1347)]
def m_X10_draft_r4 : List mj_I := [(128, .if_icmp .ge 44, 3, .if_icmp .ge 44, 0), (131, .aload_n 0, 1, .aload_n 0, 0), (132, .getfield 655, 3, .getfield 17, 1222), (135, .iconst 0, 1, .iconst 0, 0), (136, .iload_n 2, 1, .iload_n 2, 0), (137, .iadd, 1, .iadd, 0), (138, .aload_n 0, 1, .aload_n 0, 0), (139, .getfield 643, 3, .getfield 279, 1210), (142, .getfield 584, 3, .getfield 230, 1357), (145, .iload_n 2, 1, .iload_n 2, 0), (146, .iaload, 1, .iaload, 0), (147, .iastore, 1, .iastore, 0), (148, .aload_n 0, 1, .aload_n 0, 0), (149, .getfield 655, 3, .getfield 17, 1222), (152, .bipush 6, 2, .bipush 6, 0), (154, .iload_n 2, 1, .iload_n 2, 0), (155, .iadd, 1, .iadd, 0), (156, .aload_n 0, 1, .aload_n 0, 0), (157, .getfield 643, 3, .getfield 279, 1210)]
def m_X10_draft_r5 : List mj_I := [(160, .getfield 586, 3, .getfield 234, 1361), (163, .iload_n 2, 1, .iload_n 2, 0), (164, .iaload, 1, .iaload, 0), (165, .iastore, 1, .iastore, 0), (166, .iinc 2 1, 3, .iinc 2 1, 0), (169, .goto (-49), 3, .goto (-49), 0), (172, .iconst 0, 1, .iconst 0, 0), (173, .istore_n 2, 1, .istore_n 2, 0), (174, .iload_n 2, 1, .iload_n 2, 0), (175, .bipush 6, 2, .bipush 6, 0), (177, .if_icmp .ge 20, 3, .if_icmp .ge 20, 0), (180, .aload_n 0, 1, .aload_n 0, 0), (181, .getfield 655, 3, .getfield 17, 1222), (184, .bipush 18, 2, .bipush 18, 0), (186, .iload_n 2, 1, .iload_n 2, 0), (187, .iadd, 1, .iadd, 0), (188, .bipush (-2), 2, .bipush (-2), 0), (190, .iastore, 1, .iastore, 0), (191, .iinc 2 1, 3, .iinc 2 1, 0)]
def m_X10_draft_r6 : List mj_I := [(194, .goto (-20), 3, .goto (-20), 0), (197, .aload_n 0, 1, .aload_n 0, 0), (198, .getfield 655, 3, .getfield 17, 1222), (201, .bipush 25, 2, .bipush 25, 0), (203, .aload_n 0, 1, .aload_n 0, 0), (204, .getfield 643, 3, .getfield 279, 1210), (207, .getfield 580, 3, .getfield 250, 1351), (210, .iastore, 1, .iastore, 0), (211, .aload_n 0, 1, .aload_n 0, 0), (212, .iconst 0, 1, .iconst 0, 0), (213, .putfield 658, 3, .putfield 281, 1225), (216, .aload_n 0, 1, .aload_n 0, 0), (217, .iconst 0, 1, .iconst 0, 0), (218, .putfield 659, 3, .putfield 284, 1226), (221, .aload_n 0, 1, .aload_n 0, 0), (222, .aload_n 0, 1, .aload_n 0, 0), (223, .getfield 643, 3, .getfield 279, 1210)]
def m_X10_draft_r7 : List mj_I := [(226, .getfield 577, 3, .getfield 188, 1347), (229, .invokevirtual 42026, 3, .invokevirtual 65, 1524), (232, .ireturn, 1, .ireturn, 0)]
def m_X10_draft_E : List (List mj_I) := [m_X10_draft_r0, m_X10_draft_r1, m_X10_draft_r2, m_X10_draft_r3, m_X10_draft_r4, m_X10_draft_r5, m_X10_draft_r6, m_X10_draft_r7]
def m_X10_draft : mj_M := (yX10_draft, cX10_draft, 3, (some .int), m_X10_draft_E)
def m_X10_fault_r0 : List mj_I := [(0, .aload_n 0, 1, .aload_n 0, 0), (1, .iconst 0, 1, .iconst 0, 0), (2, .putfield 640, 3, .putfield 55, 1207), (5, .aload_n 0, 1, .aload_n 0, 0), (6, .getfield 652, 3, .getfield 113, 1219), (9, .ireturn, 1, .ireturn, 0)]
def m_X10_fault_E : List (List mj_I) := [m_X10_fault_r0]
def m_X10_fault : mj_M := (yX10_fault, cX10_fault, 1, (some .int), m_X10_fault_E)
def m_X10_where_r0 : List mj_I := [(0, .aload_n 0, 1, .aload_n 0, 0), (1, .iconst 0, 1, .iconst 0, 0), (2, .putfield 640, 3, .putfield 55, 1207), (5, .aload_n 0, 1, .aload_n 0, 0), (6, .getfield 642, 3, .getfield 9, 1209), (9, .ireturn, 1, .ireturn, 0)]
def m_X10_where_E : List (List mj_I) := [m_X10_where_r0]
def m_X10_where : mj_M := (yX10_where, cX10_where, 1, (some .int), m_X10_where_E)
def m_X10_isMan_r0 : List mj_I := [(0, .aload_n 0, 1, .aload_n 0, 0), (1, .getfield 643, 3, .getfield 279, 1210), (4, .ifnull 22, 3, .ifnull 22, 0), (7, .iload_n 1, 1, .iload_n 1, 0), (8, .ifCond .lt 18, 3, .ifCond .lt 18, 0), (11, .iload_n 1, 1, .iload_n 1, 0), (12, .aload_n 0, 1, .aload_n 0, 0), (13, .getfield 643, 3, .getfield 279, 1210), (16, .getfield 577, 3, .getfield 188, 1347), (19, .if_icmp .ge 7, 3, .if_icmp .ge 7, 0), (22, .iconst 1, 1, .iconst 1, 0), (23, .goto 4, 3, .goto 4, 0), (26, .iconst 0, 1, .iconst 0, 0), (27, .ireturn, 1, .ireturn, 0)]
def m_X10_isMan_E : List (List mj_I) := [m_X10_isMan_r0]
def m_X10_isMan : mj_M := (yX10_isMan, cX10_isMan, 2, (some .boolean), m_X10_isMan_E)
def m_X10_everybody_r0 : List mj_I := [(0, .iconst 1, 1, .iconst 1, 0), (1, .aload_n 0, 1, .aload_n 0, 0), (2, .getfield 643, 3, .getfield 279, 1210), (5, .getfield 577, 3, .getfield 188, 1347), (8, .ishl, 1, .ishl, 0), (9, .iconst 1, 1, .iconst 1, 0), (10, .isub, 1, .isub, 0), (11, .ireturn, 1, .ireturn, 0)]
def m_X10_everybody_E : List (List mj_I) := [m_X10_everybody_r0]
def m_X10_everybody : mj_M := (yX10_everybody, cX10_everybody, 1, (some .int), m_X10_everybody_E)
def m_X10_asNow_r0 : List mj_I := [(0, .aload_n 0, 1, .aload_n 0, 0), (1, .aload_n 0, 1, .aload_n 0, 0), (2, .getfield 655, 3, .getfield 17, 1222), (5, .bipush 25, 2, .bipush 25, 0), (7, .iaload, 1, .iaload, 0), (8, .putfield 664, 3, .putfield 287, 1231), (11, .iconst 0, 1, .iconst 0, 0), (12, .istore_n 1, 1, .istore_n 1, 0), (13, .iload_n 1, 1, .iload_n 1, 0), (14, .bipush 6, 2, .bipush 6, 0), (16, .if_icmp .ge 23, 3, .if_icmp .ge 23, 0), (19, .aload_n 0, 1, .aload_n 0, 0), (20, .getfield 661, 3, .getfield 30, 1228), (23, .iload_n 1, 1, .iload_n 1, 0), (24, .aload_n 0, 1, .aload_n 0, 0), (25, .getfield 655, 3, .getfield 17, 1222), (28, .iconst 0, 1, .iconst 0, 0), (29, .iload_n 1, 1, .iload_n 1, 0), (30, .iadd, 1, .iadd, 0), (31, .iaload, 1, .iaload, 0)]
def m_X10_asNow_r1 : List mj_I := [(32, .iastore, 1, .iastore, 0), (33, .iinc 1 1, 3, .iinc 1 1, 0), (36, .goto (-23), 3, .goto (-23), 0), (39, .return_, 1, .return_, 0)]
def m_X10_asNow_E : List (List mj_I) := [m_X10_asNow_r0, m_X10_asNow_r1]
def m_X10_asNow : mj_M := (yX10_asNow, cX10_asNow, 2, none, m_X10_asNow_E)
def m_X10_cheapest_r0 : List mj_I := [(0, .bipush (-2), 2, .bipush (-2), 0), (2, .istore_n 3, 1, .istore_n 3, 0), (3, .iconst 0, 1, .iconst 0, 0), (4, .istore 4, 2, .istore 4, 0), (6, .iload 4, 2, .iload 4, 0), (8, .aload_n 0, 1, .aload_n 0, 0), (9, .getfield 643, 3, .getfield 279, 1210), (12, .getfield 577, 3, .getfield 188, 1347), (15, .if_icmp .ge 113, 3, .if_icmp .ge 113, 0), (18, .iload_n 2, 1, .iload_n 2, 0), (19, .iload 4, 2, .iload 4, 0), (21, .invokestatic 42794, 3, .invokestatic 246, 1498), (24, .ifCond .ne 98, 3, .ifCond .ne 98, 0), (27, .iload 4, 2, .iload 4, 0), (29, .iload_n 1, 1, .iload_n 1, 0), (30, .if_icmp .eq 92, 3, .if_icmp .eq 92, 0)]
def m_X10_cheapest_r1 : List mj_I := [(33, .aload_n 0, 1, .aload_n 0, 0), (34, .getfield 661, 3, .getfield 30, 1228), (37, .iload 4, 2, .iload 4, 0), (39, .iaload, 1, .iaload, 0), (40, .iconst 3, 1, .iconst 3, 0), (41, .if_icmp .eq 81, 3, .if_icmp .eq 81, 0), (44, .aload_n 0, 1, .aload_n 0, 0), (45, .getfield 643, 3, .getfield 279, 1210), (48, .getfield 587, 3, .getfield 236, 1363), (51, .iload 4, 2, .iload 4, 0), (53, .iaload, 1, .iaload, 0), (54, .aload_n 0, 1, .aload_n 0, 0), (55, .getfield 655, 3, .getfield 17, 1222), (58, .bipush 6, 2, .bipush 6, 0), (60, .iload_n 1, 1, .iload_n 1, 0), (61, .iadd, 1, .iadd, 0), (62, .iaload, 1, .iaload, 0), (63, .if_icmp .gt 59, 3, .if_icmp .gt 59, 0)]
def m_X10_cheapest_r2 : List mj_I := [(66, .aload_n 0, 1, .aload_n 0, 0), (67, .getfield 643, 3, .getfield 279, 1210), (70, .getfield 587, 3, .getfield 236, 1363), (73, .iload 4, 2, .iload 4, 0), (75, .iaload, 1, .iaload, 0), (76, .aload_n 0, 1, .aload_n 0, 0), (77, .getfield 643, 3, .getfield 279, 1210), (80, .getfield 585, 3, .getfield 232, 1359), (83, .iload_n 1, 1, .iload_n 1, 0), (84, .iaload, 1, .iaload, 0), (85, .if_icmp .lt 6, 3, .if_icmp .lt 6, 0), (88, .goto 34, 3, .goto 34, 0), (91, .iload_n 3, 1, .iload_n 3, 0), (92, .bipush (-2), 2, .bipush (-2), 0), (94, .if_icmp .eq 25, 3, .if_icmp .eq 25, 0)]
def m_X10_cheapest_r3 : List mj_I := [(97, .aload_n 0, 1, .aload_n 0, 0), (98, .getfield 643, 3, .getfield 279, 1210), (101, .getfield 587, 3, .getfield 236, 1363), (104, .iload 4, 2, .iload 4, 0), (106, .iaload, 1, .iaload, 0), (107, .aload_n 0, 1, .aload_n 0, 0), (108, .getfield 643, 3, .getfield 279, 1210), (111, .getfield 587, 3, .getfield 236, 1363), (114, .iload_n 3, 1, .iload_n 3, 0), (115, .iaload, 1, .iaload, 0), (116, .if_icmp .ge 6, 3, .if_icmp .ge 6, 0), (119, .iload 4, 2, .iload 4, 0), (121, .istore_n 3, 1, .istore_n 3, 0), (122, .iinc 4 1, 3, .iinc 4 1, 0), (125, .goto (-119), 3, .goto (-119), 0)]
def m_X10_cheapest_r4 : List mj_I := [(128, .iload_n 3, 1, .iload_n 3, 0), (129, .ireturn, 1, .ireturn, 0)]
def m_X10_cheapest_E : List (List mj_I) := [m_X10_cheapest_r0, m_X10_cheapest_r1, m_X10_cheapest_r2, m_X10_cheapest_r3, m_X10_cheapest_r4]
def m_X10_cheapest : mj_M := (yX10_cheapest, cX10_cheapest, 5, (some .int), m_X10_cheapest_E)
def m_X10_plays_r0 : List mj_I := [(0, .aload_n 0, 1, .aload_n 0, 0), (1, .iconst 0, 1, .iconst 0, 0), (2, .putfield 665, 3, .putfield 290, 1232), (5, .aload_n 0, 1, .aload_n 0, 0), (6, .iconst 0, 1, .iconst 0, 0), (7, .putfield 666, 3, .putfield 293, 1233), (10, .iconst 0, 1, .iconst 0, 0), (11, .istore_n 1, 1, .istore_n 1, 0), (12, .iload_n 1, 1, .iload_n 1, 0), (13, .aload_n 0, 1, .aload_n 0, 0), (14, .getfield 643, 3, .getfield 279, 1210), (17, .getfield 577, 3, .getfield 188, 1347), (20, .if_icmp .ge 94, 3, .if_icmp .ge 94, 0), (23, .aload_n 0, 1, .aload_n 0, 0), (24, .getfield 660, 3, .getfield 27, 1227), (27, .iload_n 1, 1, .iload_n 1, 0), (28, .iaload, 1, .iaload, 0), (29, .istore_n 2, 1, .istore_n 2, 0), (30, .aload_n 0, 1, .aload_n 0, 0), (31, .getfield 662, 3, .getfield 33, 1229)]
def m_X10_plays_r1 : List mj_I := [(34, .iload_n 2, 1, .iload_n 2, 0), (35, .bipush (-2), 2, .bipush (-2), 0), (37, .iastore, 1, .iastore, 0), (38, .aload_n 0, 1, .aload_n 0, 0), (39, .getfield 663, 3, .getfield 36, 1230), (42, .iload_n 2, 1, .iload_n 2, 0), (43, .bipush (-2), 2, .bipush (-2), 0), (45, .iastore, 1, .iastore, 0), (46, .aload_n 0, 1, .aload_n 0, 0), (47, .getfield 665, 3, .getfield 290, 1232), (50, .invokestatic 43034, 3, .invokestatic 296, 1588), (53, .aload_n 0, 1, .aload_n 0, 0), (54, .getfield 643, 3, .getfield 279, 1210), (57, .getfield 576, 3, .getfield 162, 1345), (60, .if_icmp .ge 48, 3, .if_icmp .ge 48, 0), (63, .aload_n 0, 1, .aload_n 0, 0)]
def m_X10_plays_r2 : List mj_I := [(64, .getfield 664, 3, .getfield 287, 1231), (67, .aload_n 0, 1, .aload_n 0, 0), (68, .getfield 661, 3, .getfield 30, 1228), (71, .iload_n 2, 1, .iload_n 2, 0), (72, .iaload, 1, .iaload, 0), (73, .invokestatic 42794, 3, .invokestatic 246, 1498), (76, .ifCond .ne 32, 3, .ifCond .ne 32, 0), (79, .aload_n 0, 1, .aload_n 0, 0), (80, .getfield 643, 3, .getfield 279, 1210), (83, .getfield 588, 3, .getfield 244, 1365), (86, .iload_n 2, 1, .iload_n 2, 0), (87, .iaload, 1, .iaload, 0), (88, .aload_n 0, 1, .aload_n 0, 0), (89, .getfield 665, 3, .getfield 290, 1232), (92, .iand, 1, .iand, 0), (93, .ifCond .ne 15, 3, .ifCond .ne 15, 0)]
def m_X10_plays_r3 : List mj_I := [(96, .aload_n 0, 1, .aload_n 0, 0), (97, .dup, 1, .dup, 0), (98, .getfield 665, 3, .getfield 290, 1232), (101, .iconst 1, 1, .iconst 1, 0), (102, .iload_n 2, 1, .iload_n 2, 0), (103, .ishl, 1, .ishl, 0), (104, .ior, 1, .ior, 0), (105, .putfield 665, 3, .putfield 290, 1232), (108, .iinc 1 1, 3, .iinc 1 1, 0), (111, .goto (-99), 3, .goto (-99), 0), (114, .iconst 0, 1, .iconst 0, 0), (115, .istore_n 1, 1, .istore_n 1, 0), (116, .iload_n 1, 1, .iload_n 1, 0), (117, .aload_n 0, 1, .aload_n 0, 0), (118, .getfield 643, 3, .getfield 279, 1210), (121, .getfield 577, 3, .getfield 188, 1347), (124, .if_icmp .ge 80, 3, .if_icmp .ge 80, 0), (127, .aload_n 0, 1, .aload_n 0, 0)]
def m_X10_plays_r4 : List mj_I := [(128, .getfield 660, 3, .getfield 27, 1227), (131, .iload_n 1, 1, .iload_n 1, 0), (132, .iaload, 1, .iaload, 0), (133, .istore_n 2, 1, .istore_n 2, 0), (134, .aload_n 0, 1, .aload_n 0, 0), (135, .getfield 665, 3, .getfield 290, 1232), (138, .iload_n 2, 1, .iload_n 2, 0), (139, .invokestatic 42794, 3, .invokestatic 246, 1498), (142, .ifCond .ne 6, 3, .ifCond .ne 6, 0), (145, .goto 53, 3, .goto 53, 0), (148, .aload_n 0, 1, .aload_n 0, 0), (149, .iload_n 2, 1, .iload_n 2, 0), (150, .aload_n 0, 1, .aload_n 0, 0), (151, .getfield 665, 3, .getfield 290, 1232), (154, .aload_n 0, 1, .aload_n 0, 0), (155, .getfield 666, 3, .getfield 293, 1233), (158, .ior, 1, .ior, 0), (159, .invokevirtual 51514, 3, .invokevirtual 299, 1560)]
def m_X10_plays_r5 : List mj_I := [(162, .istore_n 3, 1, .istore_n 3, 0), (163, .iload_n 3, 1, .iload_n 3, 0), (164, .bipush (-2), 2, .bipush (-2), 0), (166, .if_icmp .ne 6, 3, .if_icmp .ne 6, 0), (169, .goto 29, 3, .goto 29, 0), (172, .aload_n 0, 1, .aload_n 0, 0), (173, .getfield 662, 3, .getfield 33, 1229), (176, .iload_n 2, 1, .iload_n 2, 0), (177, .iload_n 3, 1, .iload_n 3, 0), (178, .iastore, 1, .iastore, 0), (179, .aload_n 0, 1, .aload_n 0, 0), (180, .getfield 663, 3, .getfield 36, 1230), (183, .iload_n 3, 1, .iload_n 3, 0), (184, .iload_n 2, 1, .iload_n 2, 0), (185, .iastore, 1, .iastore, 0), (186, .aload_n 0, 1, .aload_n 0, 0), (187, .dup, 1, .dup, 0), (188, .getfield 666, 3, .getfield 293, 1233), (191, .iconst 1, 1, .iconst 1, 0)]
def m_X10_plays_r6 : List mj_I := [(192, .iload_n 3, 1, .iload_n 3, 0), (193, .ishl, 1, .ishl, 0), (194, .ior, 1, .ior, 0), (195, .putfield 666, 3, .putfield 293, 1233), (198, .iinc 1 1, 3, .iinc 1 1, 0), (201, .goto (-85), 3, .goto (-85), 0), (204, .return_, 1, .return_, 0)]
def m_X10_plays_E : List (List mj_I) := [m_X10_plays_r0, m_X10_plays_r1, m_X10_plays_r2, m_X10_plays_r3, m_X10_plays_r4, m_X10_plays_r5, m_X10_plays_r6]
def m_X10_plays : mj_M := (yX10_plays, cX10_plays, 4, none, m_X10_plays_E)
def m_X10_lossOf_r0 : List mj_I := [(0, .aload_n 0, 1, .aload_n 0, 0), (1, .getfield 665, 3, .getfield 290, 1232), (4, .iload_n 1, 1, .iload_n 1, 0), (5, .invokestatic 42794, 3, .invokestatic 246, 1498), (8, .ifCond .ne 7, 3, .ifCond .ne 7, 0), (11, .iconst 0, 1, .iconst 0, 0), (12, .goto 40, 3, .goto 40, 0), (15, .aload_n 0, 1, .aload_n 0, 0), (16, .getfield 662, 3, .getfield 33, 1229), (19, .iload_n 1, 1, .iload_n 1, 0), (20, .iaload, 1, .iaload, 0), (21, .bipush (-2), 2, .bipush (-2), 0), (23, .if_icmp .ne 15, 3, .if_icmp .ne 15, 0), (26, .aload_n 0, 1, .aload_n 0, 0), (27, .getfield 643, 3, .getfield 279, 1210), (30, .getfield 585, 3, .getfield 232, 1359)]
def m_X10_lossOf_r1 : List mj_I := [(33, .iload_n 1, 1, .iload_n 1, 0), (34, .iaload, 1, .iaload, 0), (35, .goto 17, 3, .goto 17, 0), (38, .aload_n 0, 1, .aload_n 0, 0), (39, .getfield 643, 3, .getfield 279, 1210), (42, .getfield 587, 3, .getfield 236, 1363), (45, .aload_n 0, 1, .aload_n 0, 0), (46, .getfield 662, 3, .getfield 33, 1229), (49, .iload_n 1, 1, .iload_n 1, 0), (50, .iaload, 1, .iaload, 0), (51, .iaload, 1, .iaload, 0), (52, .ireturn, 1, .ireturn, 0)]
def m_X10_lossOf_E : List (List mj_I) := [m_X10_lossOf_r0, m_X10_lossOf_r1]
def m_X10_lossOf : mj_M := (yX10_lossOf, cX10_lossOf, 2, (some .int), m_X10_lossOf_E)
def m_X10_going_r0 : List mj_I := [(0, .aload_n 0, 1, .aload_n 0, 0), (1, .getfield 666, 3, .getfield 293, 1233), (4, .istore_n 1, 1, .istore_n 1, 0), (5, .iconst 0, 1, .iconst 0, 0), (6, .istore_n 2, 1, .istore_n 2, 0), (7, .iload_n 2, 1, .iload_n 2, 0), (8, .aload_n 0, 1, .aload_n 0, 0), (9, .getfield 643, 3, .getfield 279, 1210), (12, .getfield 577, 3, .getfield 188, 1347), (15, .if_icmp .ge 41, 3, .if_icmp .ge 41, 0), (18, .iload_n 1, 1, .iload_n 1, 0), (19, .aload_n 0, 1, .aload_n 0, 0), (20, .getfield 665, 3, .getfield 290, 1232), (23, .iload_n 2, 1, .iload_n 2, 0), (24, .invokestatic 42794, 3, .invokestatic 246, 1498), (27, .ifCond .eq 20, 3, .ifCond .eq 20, 0), (30, .aload_n 0, 1, .aload_n 0, 0), (31, .getfield 662, 3, .getfield 33, 1229)]
def m_X10_going_r1 : List mj_I := [(34, .iload_n 2, 1, .iload_n 2, 0), (35, .iaload, 1, .iaload, 0), (36, .bipush (-2), 2, .bipush (-2), 0), (38, .if_icmp .ne 9, 3, .if_icmp .ne 9, 0), (41, .iconst 1, 1, .iconst 1, 0), (42, .iload_n 2, 1, .iload_n 2, 0), (43, .ishl, 1, .ishl, 0), (44, .goto 4, 3, .goto 4, 0), (47, .iconst 0, 1, .iconst 0, 0), (48, .ior, 1, .ior, 0), (49, .istore_n 1, 1, .istore_n 1, 0), (50, .iinc 2 1, 3, .iinc 2 1, 0), (53, .goto (-46), 3, .goto (-46), 0), (56, .iload_n 1, 1, .iload_n 1, 0), (57, .ireturn, 1, .ireturn, 0)]
def m_X10_going_E : List (List mj_I) := [m_X10_going_r0, m_X10_going_r1]
def m_X10_going : mj_M := (yX10_going, cX10_going, 3, (some .int), m_X10_going_E)
def m_X10_lossOfAll_r0 : List mj_I := [(0, .iconst 0, 1, .iconst 0, 0), (1, .istore_n 2, 1, .istore_n 2, 0), (2, .iconst 0, 1, .iconst 0, 0), (3, .istore_n 3, 1, .istore_n 3, 0), (4, .iload_n 3, 1, .iload_n 3, 0), (5, .aload_n 0, 1, .aload_n 0, 0), (6, .getfield 643, 3, .getfield 279, 1210), (9, .getfield 577, 3, .getfield 188, 1347), (12, .if_icmp .ge 29, 3, .if_icmp .ge 29, 0), (15, .iload_n 2, 1, .iload_n 2, 0), (16, .iload_n 1, 1, .iload_n 1, 0), (17, .iload_n 3, 1, .iload_n 3, 0), (18, .invokestatic 42794, 3, .invokestatic 246, 1498), (21, .ifCond .eq 11, 3, .ifCond .eq 11, 0), (24, .aload_n 0, 1, .aload_n 0, 0), (25, .iload_n 3, 1, .iload_n 3, 0), (26, .invokevirtual 52010, 3, .invokevirtual 302, 1607), (29, .goto 4, 3, .goto 4, 0)]
def m_X10_lossOfAll_r1 : List mj_I := [(32, .iconst 0, 1, .iconst 0, 0), (33, .iadd, 1, .iadd, 0), (34, .istore_n 2, 1, .istore_n 2, 0), (35, .iinc 3 1, 3, .iinc 3 1, 0), (38, .goto (-34), 3, .goto (-34), 0), (41, .iload_n 2, 1, .iload_n 2, 0), (42, .ireturn, 1, .ireturn, 0)]
def m_X10_lossOfAll_E : List (List mj_I) := [m_X10_lossOfAll_r0, m_X10_lossOfAll_r1]
def m_X10_lossOfAll : mj_M := (yX10_lossOfAll, cX10_lossOfAll, 4, (some .int), m_X10_lossOfAll_E)
def m_X10_firstRow_r0 : List mj_I := [(0, .iconst 0, 1, .iconst 0, 0), (1, .istore_n 1, 1, .istore_n 1, 0), (2, .iload_n 1, 1, .iload_n 1, 0), (3, .bipush 6, 2, .bipush 6, 0), (5, .if_icmp .ge 16, 3, .if_icmp .ge 16, 0), (8, .aload_n 0, 1, .aload_n 0, 0), (9, .getfield 660, 3, .getfield 27, 1227), (12, .iload_n 1, 1, .iload_n 1, 0), (13, .iload_n 1, 1, .iload_n 1, 0), (14, .iastore, 1, .iastore, 0), (15, .iinc 1 1, 3, .iinc 1 1, 0), (18, .goto (-16), 3, .goto (-16), 0), (21, .return_, 1, .return_, 0)]
def m_X10_firstRow_E : List (List mj_I) := [m_X10_firstRow_r0]
def m_X10_firstRow : mj_M := (yX10_firstRow, cX10_firstRow, 2, none, m_X10_firstRow_E)
def m_X10_nextRow_r0 : List mj_I := [(0, .aload_n 0, 1, .aload_n 0, 0), (1, .getfield 643, 3, .getfield 279, 1210), (4, .getfield 577, 3, .getfield 188, 1347), (7, .iconst 2, 1, .iconst 2, 0), (8, .isub, 1, .isub, 0), (9, .istore_n 1, 1, .istore_n 1, 0), (10, .iload_n 1, 1, .iload_n 1, 0), (11, .ifCond .lt 26, 3, .ifCond .lt 26, 0), (14, .aload_n 0, 1, .aload_n 0, 0), (15, .getfield 660, 3, .getfield 27, 1227), (18, .iload_n 1, 1, .iload_n 1, 0), (19, .iaload, 1, .iaload, 0), (20, .aload_n 0, 1, .aload_n 0, 0), (21, .getfield 660, 3, .getfield 27, 1227), (24, .iload_n 1, 1, .iload_n 1, 0), (25, .iconst 1, 1, .iconst 1, 0), (26, .iadd, 1, .iadd, 0), (27, .iaload, 1, .iaload, 0), (28, .if_icmp .le 9, 3, .if_icmp .le 9, 0), (31, .iinc 1 (-1), 3, .iinc 1 (-1), 0)]
def m_X10_nextRow_r1 : List mj_I := [(34, .goto (-24), 3, .goto (-24), 0), (37, .iload_n 1, 1, .iload_n 1, 0), (38, .ifCond .ge 5, 3, .ifCond .ge 5, 0), (41, .iconst 0, 1, .iconst 0, 0), (42, .ireturn, 1, .ireturn, 0), (43, .aload_n 0, 1, .aload_n 0, 0), (44, .getfield 643, 3, .getfield 279, 1210), (47, .getfield 577, 3, .getfield 188, 1347), (50, .iconst 1, 1, .iconst 1, 0), (51, .isub, 1, .isub, 0), (52, .istore_n 2, 1, .istore_n 2, 0), (53, .aload_n 0, 1, .aload_n 0, 0), (54, .getfield 660, 3, .getfield 27, 1227), (57, .iload_n 2, 1, .iload_n 2, 0), (58, .iaload, 1, .iaload, 0), (59, .aload_n 0, 1, .aload_n 0, 0), (60, .getfield 660, 3, .getfield 27, 1227), (63, .iload_n 1, 1, .iload_n 1, 0)]
def m_X10_nextRow_r2 : List mj_I := [(64, .iaload, 1, .iaload, 0), (65, .if_icmp .ge 9, 3, .if_icmp .ge 9, 0), (68, .iinc 2 (-1), 3, .iinc 2 (-1), 0), (71, .goto (-18), 3, .goto (-18), 0), (74, .aload_n 0, 1, .aload_n 0, 0), (75, .iload_n 1, 1, .iload_n 1, 0), (76, .iload_n 2, 1, .iload_n 2, 0), (77, .invokevirtual 53306, 3, .invokevirtual 305, 1627), (80, .iload_n 1, 1, .iload_n 1, 0), (81, .iconst 1, 1, .iconst 1, 0), (82, .iadd, 1, .iadd, 0), (83, .istore_n 3, 1, .istore_n 3, 0), (84, .aload_n 0, 1, .aload_n 0, 0), (85, .getfield 643, 3, .getfield 279, 1210), (88, .getfield 577, 3, .getfield 188, 1347), (91, .iconst 1, 1, .iconst 1, 0), (92, .isub, 1, .isub, 0), (93, .istore 4, 2, .istore 4, 0), (95, .iload_n 3, 1, .iload_n 3, 0)]
def m_X10_nextRow_r3 : List mj_I := [(96, .iload 4, 2, .iload 4, 0), (98, .if_icmp .ge 19, 3, .if_icmp .ge 19, 0), (101, .aload_n 0, 1, .aload_n 0, 0), (102, .iload_n 3, 1, .iload_n 3, 0), (103, .iload 4, 2, .iload 4, 0), (105, .invokevirtual 53306, 3, .invokevirtual 305, 1627), (108, .iinc 3 1, 3, .iinc 3 1, 0), (111, .iinc 4 (-1), 3, .iinc 4 (-1), 0), (114, .goto (-19), 3, .goto (-19), 0), (117, .iconst 1, 1, .iconst 1, 0), (118, .ireturn, 1, .ireturn, 0)]
def m_X10_nextRow_E : List (List mj_I) := [m_X10_nextRow_r0, m_X10_nextRow_r1, m_X10_nextRow_r2, m_X10_nextRow_r3]
def m_X10_nextRow : mj_M := (yX10_nextRow, cX10_nextRow, 5, (some .boolean), m_X10_nextRow_E)
def m_X10_swaps_r0 : List mj_I := [(0, .aload_n 0, 1, .aload_n 0, 0), (1, .getfield 660, 3, .getfield 27, 1227), (4, .iload_n 1, 1, .iload_n 1, 0), (5, .iaload, 1, .iaload, 0), (6, .istore_n 3, 1, .istore_n 3, 0), (7, .aload_n 0, 1, .aload_n 0, 0), (8, .getfield 660, 3, .getfield 27, 1227), (11, .iload_n 1, 1, .iload_n 1, 0), (12, .aload_n 0, 1, .aload_n 0, 0), (13, .getfield 660, 3, .getfield 27, 1227), (16, .iload_n 2, 1, .iload_n 2, 0), (17, .iaload, 1, .iaload, 0), (18, .iastore, 1, .iastore, 0), (19, .aload_n 0, 1, .aload_n 0, 0), (20, .getfield 660, 3, .getfield 27, 1227), (23, .iload_n 2, 1, .iload_n 2, 0), (24, .iload_n 3, 1, .iload_n 3, 0), (25, .iastore, 1, .iastore, 0), (26, .return_, 1, .return_, 0)]
def m_X10_swaps_E : List (List mj_I) := [m_X10_swaps_r0]
def m_X10_swaps : mj_M := (yX10_swaps, cX10_swaps, 4, none, m_X10_swaps_E)
def m_X10_allRows_r0 : List mj_I := [(0, .iconst 1, 1, .iconst 1, 0), (1, .istore_n 1, 1, .istore_n 1, 0), (2, .iconst 2, 1, .iconst 2, 0), (3, .istore_n 2, 1, .istore_n 2, 0), (4, .iload_n 2, 1, .iload_n 2, 0), (5, .aload_n 0, 1, .aload_n 0, 0), (6, .getfield 643, 3, .getfield 279, 1210), (9, .getfield 577, 3, .getfield 188, 1347), (12, .if_icmp .gt 13, 3, .if_icmp .gt 13, 0), (15, .iload_n 1, 1, .iload_n 1, 0), (16, .iload_n 2, 1, .iload_n 2, 0), (17, .imul, 1, .imul, 0), (18, .istore_n 1, 1, .istore_n 1, 0), (19, .iinc 2 1, 3, .iinc 2 1, 0), (22, .goto (-18), 3, .goto (-18), 0), (25, .iload_n 1, 1, .iload_n 1, 0), (26, .ireturn, 1, .ireturn, 0)]
def m_X10_allRows_E : List (List mj_I) := [m_X10_allRows_r0]
def m_X10_allRows : mj_M := (yX10_allRows, cX10_allRows, 3, (some .int), m_X10_allRows_E)
def m_X10_codeOfRow_r0 : List mj_I := [(0, .iconst 0, 1, .iconst 0, 0), (1, .istore_n 1, 1, .istore_n 1, 0), (2, .iconst 0, 1, .iconst 0, 0), (3, .istore_n 2, 1, .istore_n 2, 0), (4, .iload_n 2, 1, .iload_n 2, 0), (5, .aload_n 0, 1, .aload_n 0, 0), (6, .getfield 643, 3, .getfield 279, 1210), (9, .getfield 577, 3, .getfield 188, 1347), (12, .if_icmp .ge 21, 3, .if_icmp .ge 21, 0), (15, .bipush 10, 2, .bipush 10, 0), (17, .iload_n 1, 1, .iload_n 1, 0), (18, .imul, 1, .imul, 0), (19, .aload_n 0, 1, .aload_n 0, 0), (20, .getfield 660, 3, .getfield 27, 1227), (23, .iload_n 2, 1, .iload_n 2, 0), (24, .iaload, 1, .iaload, 0), (25, .iadd, 1, .iadd, 0), (26, .istore_n 1, 1, .istore_n 1, 0), (27, .iinc 2 1, 3, .iinc 2 1, 0), (30, .goto (-26), 3, .goto (-26), 0)]
def m_X10_codeOfRow_r1 : List mj_I := [(33, .iload_n 1, 1, .iload_n 1, 0), (34, .ireturn, 1, .ireturn, 0)]
def m_X10_codeOfRow_E : List (List mj_I) := [m_X10_codeOfRow_r0, m_X10_codeOfRow_r1]
def m_X10_codeOfRow : mj_M := (yX10_codeOfRow, cX10_codeOfRow, 3, (some .int), m_X10_codeOfRow_E)
def m_X10_lays_r0 : List mj_I := [(0, .iconst 0, 1, .iconst 0, 0), (1, .istore_n 2, 1, .istore_n 2, 0), (2, .iload_n 1, 1, .iload_n 1, 0), (3, .istore_n 3, 1, .istore_n 3, 0), (4, .aload_n 0, 1, .aload_n 0, 0), (5, .getfield 643, 3, .getfield 279, 1210), (8, .getfield 577, 3, .getfield 188, 1347), (11, .iconst 1, 1, .iconst 1, 0), (12, .isub, 1, .isub, 0), (13, .istore 4, 2, .istore 4, 0), (15, .iload 4, 2, .iload 4, 0), (17, .ifCond .lt 66, 3, .ifCond .lt 66, 0), (20, .aload_n 0, 1, .aload_n 0, 0), (21, .getfield 660, 3, .getfield 27, 1227), (24, .iload 4, 2, .iload 4, 0), (26, .iload_n 3, 1, .iload_n 3, 0), (27, .bipush 10, 2, .bipush 10, 0), (29, .irem, 1, .irem, 0), (30, .iastore, 1, .iastore, 0), (31, .iload_n 3, 1, .iload_n 3, 0)]
def m_X10_lays_r1 : List mj_I := [(32, .bipush 10, 2, .bipush 10, 0), (34, .idiv, 1, .idiv, 0), (35, .istore_n 3, 1, .istore_n 3, 0), (36, .aload_n 0, 1, .aload_n 0, 0), (37, .getfield 660, 3, .getfield 27, 1227), (40, .iload 4, 2, .iload 4, 0), (42, .iaload, 1, .iaload, 0), (43, .ifCond .lt 20, 3, .ifCond .lt 20, 0), (46, .aload_n 0, 1, .aload_n 0, 0), (47, .getfield 660, 3, .getfield 27, 1227), (50, .iload 4, 2, .iload 4, 0), (52, .iaload, 1, .iaload, 0), (53, .aload_n 0, 1, .aload_n 0, 0), (54, .getfield 643, 3, .getfield 279, 1210), (57, .getfield 577, 3, .getfield 188, 1347), (60, .if_icmp .lt 5, 3, .if_icmp .lt 5, 0), (63, .iconst 0, 1, .iconst 0, 0)]
def m_X10_lays_r2 : List mj_I := [(64, .ireturn, 1, .ireturn, 0), (65, .iload_n 2, 1, .iload_n 2, 0), (66, .iconst 1, 1, .iconst 1, 0), (67, .aload_n 0, 1, .aload_n 0, 0), (68, .getfield 660, 3, .getfield 27, 1227), (71, .iload 4, 2, .iload 4, 0), (73, .iaload, 1, .iaload, 0), (74, .ishl, 1, .ishl, 0), (75, .ior, 1, .ior, 0), (76, .istore_n 2, 1, .istore_n 2, 0), (77, .iinc 4 (-1), 3, .iinc 4 (-1), 0), (80, .goto (-65), 3, .goto (-65), 0), (83, .iload_n 3, 1, .iload_n 3, 0), (84, .ifCond .ne 15, 3, .ifCond .ne 15, 0), (87, .iload_n 2, 1, .iload_n 2, 0), (88, .aload_n 0, 1, .aload_n 0, 0), (89, .invokevirtual 50970, 3, .invokevirtual 308, 1576), (92, .if_icmp .ne 7, 3, .if_icmp .ne 7, 0), (95, .iconst 1, 1, .iconst 1, 0)]
def m_X10_lays_r3 : List mj_I := [(96, .goto 4, 3, .goto 4, 0), (99, .iconst 0, 1, .iconst 0, 0), (100, .ireturn, 1, .ireturn, 0)]
def m_X10_lays_E : List (List mj_I) := [m_X10_lays_r0, m_X10_lays_r1, m_X10_lays_r2, m_X10_lays_r3]
def m_X10_lays : mj_M := (yX10_lays, cX10_lays, 5, (some .boolean), m_X10_lays_E)
def m_X10_odds_r0 : List mj_I := [(0, .iconst 0, 1, .iconst 0, 0), (1, .istore_n 3, 1, .istore_n 3, 0), (2, .iload_n 3, 1, .iload_n 3, 0), (3, .bipush 6, 2, .bipush 6, 0), (5, .if_icmp .ge 30, 3, .if_icmp .ge 30, 0), (8, .aload_n 0, 1, .aload_n 0, 0), (9, .getfield 667, 3, .getfield 39, 1234), (12, .iload_n 3, 1, .iload_n 3, 0), (13, .lconst 0, 1, .lconst 0, 0), (14, .lastore, 1, .lastore, 0), (15, .aload_n 0, 1, .aload_n 0, 0), (16, .getfield 668, 3, .getfield 43, 1235), (19, .iload_n 3, 1, .iload_n 3, 0), (20, .lconst 0, 1, .lconst 0, 0), (21, .lastore, 1, .lastore, 0), (22, .aload_n 0, 1, .aload_n 0, 0), (23, .getfield 669, 3, .getfield 46, 1236), (26, .iload_n 3, 1, .iload_n 3, 0), (27, .lconst 0, 1, .lconst 0, 0), (28, .lastore, 1, .lastore, 0), (29, .iinc 3 1, 3, .iinc 3 1, 0)]
def m_X10_odds_r1 : List mj_I := [(32, .goto (-30), 3, .goto (-30), 0), (35, .iconst 0, 1, .iconst 0, 0), (36, .istore_n 3, 1, .istore_n 3, 0), (37, .iload_n 3, 1, .iload_n 3, 0), (38, .bipush 36, 2, .bipush 36, 0), (40, .if_icmp .ge 16, 3, .if_icmp .ge 16, 0), (43, .aload_n 0, 1, .aload_n 0, 0), (44, .getfield 670, 3, .getfield 49, 1237), (47, .iload_n 3, 1, .iload_n 3, 0), (48, .lconst 0, 1, .lconst 0, 0), (49, .lastore, 1, .lastore, 0), (50, .iinc 3 1, 3, .iinc 3 1, 0), (53, .goto (-16), 3, .goto (-16), 0), (56, .aload_n 0, 1, .aload_n 0, 0), (57, .lconst 0, 1, .lconst 0, 0), (58, .putfield 671, 3, .putfield 311, 1238), (61, .aload_n 0, 1, .aload_n 0, 0), (62, .lconst 0, 1, .lconst 0, 0), (63, .putfield 672, 3, .putfield 314, 1239)]
def m_X10_odds_r2 : List mj_I := [(66, .aload_n 0, 1, .aload_n 0, 0), (67, .invokevirtual 52762, 3, .invokevirtual 317, 1615), (70, .iconst 1, 1, .iconst 1, 0), (71, .istore_n 3, 1, .istore_n 3, 0), (72, .iload_n 3, 1, .iload_n 3, 0), (73, .ifCond .eq 191, 3, .ifCond .eq 191, 0), (76, .aload_n 0, 1, .aload_n 0, 0), (77, .invokevirtual 51738, 3, .invokevirtual 320, 1584), (80, .aload_n 0, 1, .aload_n 0, 0), (81, .invokevirtual 52250, 3, .invokevirtual 323, 1595), (84, .istore 4, 2, .istore 4, 0), (86, .iconst 0, 1, .iconst 0, 0), (87, .istore 5, 2, .istore 5, 0), (89, .iload 5, 2, .iload 5, 0), (91, .aload_n 0, 1, .aload_n 0, 0), (92, .getfield 643, 3, .getfield 279, 1210), (95, .getfield 577, 3, .getfield 188, 1347)]
def m_X10_odds_r3 : List mj_I := [(98, .if_icmp .ge 112, 3, .if_icmp .ge 112, 0), (101, .aload_n 0, 1, .aload_n 0, 0), (102, .getfield 667, 3, .getfield 39, 1234), (105, .iload 5, 2, .iload 5, 0), (107, .dup2, 1, .dup2, 0), (108, .laload, 1, .laload, 0), (109, .aload_n 0, 1, .aload_n 0, 0), (110, .getfield 665, 3, .getfield 290, 1232), (113, .iload 5, 2, .iload 5, 0), (115, .invokestatic 42794, 3, .invokestatic 246, 1498), (118, .ifCond .eq 7, 3, .ifCond .eq 7, 0), (121, .lconst 1, 1, .lconst 1, 0), (122, .goto 4, 3, .goto 4, 0), (125, .lconst 0, 1, .lconst 0, 0), (126, .ladd, 1, .ladd, 0), (127, .lastore, 1, .lastore, 0)]
def m_X10_odds_r4 : List mj_I := [(128, .aload_n 0, 1, .aload_n 0, 0), (129, .getfield 668, 3, .getfield 43, 1235), (132, .iload 5, 2, .iload 5, 0), (134, .dup2, 1, .dup2, 0), (135, .laload, 1, .laload, 0), (136, .iload 4, 2, .iload 4, 0), (138, .iload 5, 2, .iload 5, 0), (140, .invokestatic 42794, 3, .invokestatic 246, 1498), (143, .ifCond .eq 7, 3, .ifCond .eq 7, 0), (146, .lconst 1, 1, .lconst 1, 0), (147, .goto 4, 3, .goto 4, 0), (150, .lconst 0, 1, .lconst 0, 0), (151, .ladd, 1, .ladd, 0), (152, .lastore, 1, .lastore, 0), (153, .aload_n 0, 1, .aload_n 0, 0), (154, .getfield 669, 3, .getfield 46, 1236), (157, .iload 5, 2, .iload 5, 0), (159, .dup2, 1, .dup2, 0)]
def m_X10_odds_r5 : List mj_I := [(160, .laload, 1, .laload, 0), (161, .aload_n 0, 1, .aload_n 0, 0), (162, .iload 5, 2, .iload 5, 0), (164, .invokevirtual 52010, 3, .invokevirtual 302, 1607), (167, .i2l, 1, .i2l, 0), (168, .ladd, 1, .ladd, 0), (169, .lastore, 1, .lastore, 0), (170, .aload_n 0, 1, .aload_n 0, 0), (171, .getfield 663, 3, .getfield 36, 1230), (174, .iload 5, 2, .iload 5, 0), (176, .iaload, 1, .iaload, 0), (177, .bipush (-2), 2, .bipush (-2), 0), (179, .if_icmp .eq 25, 3, .if_icmp .eq 25, 0), (182, .aload_n 0, 1, .aload_n 0, 0), (183, .getfield 670, 3, .getfield 49, 1237), (186, .bipush 6, 2, .bipush 6, 0), (188, .iload 5, 2, .iload 5, 0), (190, .imul, 1, .imul, 0), (191, .aload_n 0, 1, .aload_n 0, 0)]
def m_X10_odds_r6 : List mj_I := [(192, .getfield 663, 3, .getfield 36, 1230), (195, .iload 5, 2, .iload 5, 0), (197, .iaload, 1, .iaload, 0), (198, .iadd, 1, .iadd, 0), (199, .dup2, 1, .dup2, 0), (200, .laload, 1, .laload, 0), (201, .lconst 1, 1, .lconst 1, 0), (202, .ladd, 1, .ladd, 0), (203, .lastore, 1, .lastore, 0), (204, .iinc 5 1, 3, .iinc 5 1, 0), (207, .goto (-118), 3, .goto (-118), 0), (210, .aload_n 0, 1, .aload_n 0, 0), (211, .getfield 665, 3, .getfield 290, 1232), (214, .invokestatic 43034, 3, .invokestatic 296, 1588), (217, .aload_n 0, 1, .aload_n 0, 0), (218, .getfield 643, 3, .getfield 279, 1210), (221, .getfield 576, 3, .getfield 162, 1345)]
def m_X10_odds_r7 : List mj_I := [(224, .if_icmp .ge 13, 3, .if_icmp .ge 13, 0), (227, .aload_n 0, 1, .aload_n 0, 0), (228, .dup, 1, .dup, 0), (229, .getfield 671, 3, .getfield 311, 1238), (232, .lconst 1, 1, .lconst 1, 0), (233, .ladd, 1, .ladd, 0), (234, .putfield 671, 3, .putfield 311, 1238), (237, .aload_n 0, 1, .aload_n 0, 0), (238, .iload_n 1, 1, .iload_n 1, 0), (239, .invokevirtual 52522, 3, .invokevirtual 326, 1643), (242, .iload_n 2, 1, .iload_n 2, 0), (243, .if_icmp .le 13, 3, .if_icmp .le 13, 0), (246, .aload_n 0, 1, .aload_n 0, 0), (247, .dup, 1, .dup, 0), (248, .getfield 672, 3, .getfield 314, 1239), (251, .lconst 1, 1, .lconst 1, 0), (252, .ladd, 1, .ladd, 0), (253, .putfield 672, 3, .putfield 314, 1239)]
def m_X10_odds_r8 : List mj_I := [(256, .aload_n 0, 1, .aload_n 0, 0), (257, .invokevirtual 53018, 3, .invokevirtual 329, 1623), (260, .istore_n 3, 1, .istore_n 3, 0), (261, .goto (-189), 3, .goto (-189), 0), (264, .return_, 1, .return_, 0)]
def m_X10_odds_E : List (List mj_I) := [m_X10_odds_r0, m_X10_odds_r1, m_X10_odds_r2, m_X10_odds_r3, m_X10_odds_r4, m_X10_odds_r5, m_X10_odds_r6, m_X10_odds_r7, m_X10_odds_r8]
def m_X10_odds : mj_M := (yX10_odds, cX10_odds, 6, none, m_X10_odds_E)
def m_X10_lossesOf_r0 : List mj_I := [(0, .lconst 0, 1, .lconst 0, 0), (1, .lstore_n 2, 1, .lstore_n 2, 0), (2, .iconst 0, 1, .iconst 0, 0), (3, .istore 4, 2, .istore 4, 0), (5, .iload 4, 2, .iload 4, 0), (7, .aload_n 0, 1, .aload_n 0, 0), (8, .getfield 643, 3, .getfield 279, 1210), (11, .getfield 577, 3, .getfield 188, 1347), (14, .if_icmp .ge 32, 3, .if_icmp .ge 32, 0), (17, .lload_n 2, 1, .lload_n 2, 0), (18, .iload_n 1, 1, .iload_n 1, 0), (19, .iload 4, 2, .iload 4, 0), (21, .invokestatic 42794, 3, .invokestatic 246, 1498), (24, .ifCond .eq 13, 3, .ifCond .eq 13, 0), (27, .aload_n 0, 1, .aload_n 0, 0), (28, .getfield 669, 3, .getfield 46, 1236), (31, .iload 4, 2, .iload 4, 0)]
def m_X10_lossesOf_r1 : List mj_I := [(33, .laload, 1, .laload, 0), (34, .goto 4, 3, .goto 4, 0), (37, .lconst 0, 1, .lconst 0, 0), (38, .ladd, 1, .ladd, 0), (39, .lstore_n 2, 1, .lstore_n 2, 0), (40, .iinc 4 1, 3, .iinc 4 1, 0), (43, .goto (-38), 3, .goto (-38), 0), (46, .lload_n 2, 1, .lload_n 2, 0), (47, .lreturn, 1, .lreturn, 0)]
def m_X10_lossesOf_E : List (List mj_I) := [m_X10_lossesOf_r0, m_X10_lossesOf_r1]
def m_X10_lossesOf : mj_M := (yX10_lossesOf, cX10_lossesOf, 5, (some .long), m_X10_lossesOf_E)
def m_X10_man_r0 : List mj_I := [(0, .aload_n 0, 1, .aload_n 0, 0), (1, .iconst 0, 1, .iconst 0, 0), (2, .putfield 640, 3, .putfield 55, 1207), (5, .aload_n 0, 1, .aload_n 0, 0), (6, .iload_n 1, 1, .iload_n 1, 0), (7, .invokevirtual 50730, 3, .invokevirtual 332, 1540), (10, .ifCond .eq 12, 3, .ifCond .eq 12, 0), (13, .iload_n 2, 1, .iload_n 2, 0), (14, .iconst 0, 1, .iconst 0, 0), (15, .iconst 5, 1, .iconst 5, 0), (16, .invokestatic 42554, 3, .invokestatic 134, 1455), (19, .ifCond .ne 9, 3, .ifCond .ne 9, 0), (22, .aload_n 0, 1, .aload_n 0, 0), (23, .iconst 1, 1, .iconst 1, 0), (24, .invokevirtual 41258, 3, .invokevirtual 61, 1334), (27, .ireturn, 1, .ireturn, 0), (28, .iload_n 2, 1, .iload_n 2, 0), (29, .tableswitch 104 0 4 #[35, 48, 62, 76, 90], 35, .tableswitch 104 0 4 #[35, 48, 62, 76, 90], 0)]
def m_X10_man_r1 : List mj_I := []
def m_X10_man_r2 : List mj_I := [(64, .aload_n 0, 1, .aload_n 0, 0), (65, .aload_n 0, 1, .aload_n 0, 0), (66, .getfield 655, 3, .getfield 17, 1222), (69, .iconst 0, 1, .iconst 0, 0), (70, .iload_n 1, 1, .iload_n 1, 0), (71, .iadd, 1, .iadd, 0), (72, .iaload, 1, .iaload, 0), (73, .invokevirtual 42026, 3, .invokevirtual 65, 1524), (76, .ireturn, 1, .ireturn, 0), (77, .aload_n 0, 1, .aload_n 0, 0), (78, .aload_n 0, 1, .aload_n 0, 0), (79, .getfield 643, 3, .getfield 279, 1210), (82, .getfield 585, 3, .getfield 232, 1359), (85, .iload_n 1, 1, .iload_n 1, 0), (86, .iaload, 1, .iaload, 0), (87, .invokevirtual 42026, 3, .invokevirtual 65, 1524), (90, .ireturn, 1, .ireturn, 0), (91, .aload_n 0, 1, .aload_n 0, 0), (92, .aload_n 0, 1, .aload_n 0, 0), (93, .getfield 655, 3, .getfield 17, 1222)]
def m_X10_man_r3 : List mj_I := [(96, .bipush 6, 2, .bipush 6, 0), (98, .iload_n 1, 1, .iload_n 1, 0), (99, .iadd, 1, .iadd, 0), (100, .iaload, 1, .iaload, 0), (101, .invokevirtual 42026, 3, .invokevirtual 65, 1524), (104, .ireturn, 1, .ireturn, 0), (105, .aload_n 0, 1, .aload_n 0, 0), (106, .aload_n 0, 1, .aload_n 0, 0), (107, .getfield 643, 3, .getfield 279, 1210), (110, .getfield 587, 3, .getfield 236, 1363), (113, .iload_n 1, 1, .iload_n 1, 0), (114, .iaload, 1, .iaload, 0), (115, .invokevirtual 42026, 3, .invokevirtual 65, 1524), (118, .ireturn, 1, .ireturn, 0), (119, .aload_n 0, 1, .aload_n 0, 0), (120, .aload_n 0, 1, .aload_n 0, 0), (121, .getfield 643, 3, .getfield 279, 1210), (124, .getfield 588, 3, .getfield 244, 1365), (127, .iload_n 1, 1, .iload_n 1, 0)]
def m_X10_man_r4 : List mj_I := [(128, .iaload, 1, .iaload, 0), (129, .invokevirtual 42026, 3, .invokevirtual 65, 1524), (132, .ireturn, 1, .ireturn, 0), (133, .aload_n 0, 1, .aload_n 0, 0), (134, .aload_n 0, 1, .aload_n 0, 0), (135, .getfield 655, 3, .getfield 17, 1222), (138, .bipush 25, 2, .bipush 25, 0), (140, .iaload, 1, .iaload, 0), (141, .aload_n 0, 1, .aload_n 0, 0), (142, .getfield 655, 3, .getfield 17, 1222), (145, .iconst 0, 1, .iconst 0, 0), (146, .iload_n 1, 1, .iload_n 1, 0), (147, .iadd, 1, .iadd, 0), (148, .iaload, 1, .iaload, 0), (149, .invokestatic 42794, 3, .invokestatic 246, 1498), (152, .ifCond .eq 7, 3, .ifCond .eq 7, 0), (155, .iconst 1, 1, .iconst 1, 0), (156, .goto 4, 3, .goto 4, 0), (159, .iconst 0, 1, .iconst 0, 0)]
def m_X10_man_r5 : List mj_I := [(160, .invokevirtual 42026, 3, .invokevirtual 65, 1524), (163, .ireturn, 1, .ireturn, 0)]
def m_X10_man_E : List (List mj_I) := [m_X10_man_r0, m_X10_man_r1, m_X10_man_r2, m_X10_man_r3, m_X10_man_r4, m_X10_man_r5]
def m_X10_man : mj_M := (yX10_man, cX10_man, 3, (some .int), m_X10_man_E)
def m_X10_spared_r0 : List mj_I := [(0, .aload_n 0, 1, .aload_n 0, 0), (1, .iconst 0, 1, .iconst 0, 0), (2, .putfield 640, 3, .putfield 55, 1207), (5, .aload_n 0, 1, .aload_n 0, 0), (6, .getfield 643, 3, .getfield 279, 1210), (9, .ifnonnull 11, 3, .ifnonnull 11, 0), (12, .aload_n 0, 1, .aload_n 0, 0), (13, .iconst 1, 1, .iconst 1, 0), (14, .invokevirtual 41258, 3, .invokevirtual 61, 1334), (17, .goto 14, 3, .goto 14, 0), (20, .aload_n 0, 1, .aload_n 0, 0), (21, .aload_n 0, 1, .aload_n 0, 0), (22, .getfield 655, 3, .getfield 17, 1222), (25, .bipush 25, 2, .bipush 25, 0), (27, .iaload, 1, .iaload, 0), (28, .invokevirtual 42026, 3, .invokevirtual 65, 1524), (31, .ireturn, 1, .ireturn, 0)]
def m_X10_spared_E : List (List mj_I) := [m_X10_spared_r0]
def m_X10_spared : mj_M := (yX10_spared, cX10_spared, 1, (some .int), m_X10_spared_E)
def m_X10_many_r0 : List mj_I := [(0, .aload_n 0, 1, .aload_n 0, 0), (1, .iconst 0, 1, .iconst 0, 0), (2, .putfield 640, 3, .putfield 55, 1207), (5, .aload_n 0, 1, .aload_n 0, 0), (6, .getfield 643, 3, .getfield 279, 1210), (9, .ifnonnull 9, 3, .ifnonnull 9, 0), (12, .aload_n 0, 1, .aload_n 0, 0), (13, .iconst 1, 1, .iconst 1, 0), (14, .invokevirtual 41258, 3, .invokevirtual 61, 1334), (17, .ireturn, 1, .ireturn, 0), (18, .iload_n 1, 1, .iload_n 1, 0), (19, .iconst 0, 1, .iconst 0, 0), (20, .iconst 3, 1, .iconst 3, 0), (21, .invokestatic 42554, 3, .invokestatic 134, 1455), (24, .ifCond .ne 9, 3, .ifCond .ne 9, 0), (27, .aload_n 0, 1, .aload_n 0, 0), (28, .iconst 2, 1, .iconst 2, 0), (29, .invokevirtual 41258, 3, .invokevirtual 61, 1334)]
def m_X10_many_r1 : List mj_I := [(32, .ireturn, 1, .ireturn, 0), (33, .iconst 0, 1, .iconst 0, 0), (34, .istore_n 2, 1, .istore_n 2, 0), (35, .iconst 0, 1, .iconst 0, 0), (36, .istore_n 3, 1, .istore_n 3, 0), (37, .iload_n 3, 1, .iload_n 3, 0), (38, .aload_n 0, 1, .aload_n 0, 0), (39, .getfield 643, 3, .getfield 279, 1210), (42, .getfield 577, 3, .getfield 188, 1347), (45, .if_icmp .ge 29, 3, .if_icmp .ge 29, 0), (48, .iload_n 2, 1, .iload_n 2, 0), (49, .aload_n 0, 1, .aload_n 0, 0), (50, .getfield 655, 3, .getfield 17, 1222), (53, .iconst 0, 1, .iconst 0, 0), (54, .iload_n 3, 1, .iload_n 3, 0), (55, .iadd, 1, .iadd, 0), (56, .iaload, 1, .iaload, 0), (57, .iload_n 1, 1, .iload_n 1, 0), (58, .if_icmp .ne 7, 3, .if_icmp .ne 7, 0), (61, .iconst 1, 1, .iconst 1, 0), (62, .goto 4, 3, .goto 4, 0)]
def m_X10_many_r2 : List mj_I := [(65, .iconst 0, 1, .iconst 0, 0), (66, .iadd, 1, .iadd, 0), (67, .istore_n 2, 1, .istore_n 2, 0), (68, .iinc 3 1, 3, .iinc 3 1, 0), (71, .goto (-34), 3, .goto (-34), 0), (74, .aload_n 0, 1, .aload_n 0, 0), (75, .iload_n 2, 1, .iload_n 2, 0), (76, .invokevirtual 42026, 3, .invokevirtual 65, 1524), (79, .ireturn, 1, .ireturn, 0)]
def m_X10_many_E : List (List mj_I) := [m_X10_many_r0, m_X10_many_r1, m_X10_many_r2]
def m_X10_many : mj_M := (yX10_many, cX10_many, 4, (some .int), m_X10_many_E)
def m_X10_wouldGo_r0 : List mj_I := [(0, .aload_n 0, 1, .aload_n 0, 0), (1, .iconst 0, 1, .iconst 0, 0), (2, .putfield 640, 3, .putfield 55, 1207), (5, .aload_n 0, 1, .aload_n 0, 0), (6, .iload_n 1, 1, .iload_n 1, 0), (7, .invokevirtual 50730, 3, .invokevirtual 332, 1540), (10, .ifCond .ne 9, 3, .ifCond .ne 9, 0), (13, .aload_n 0, 1, .aload_n 0, 0), (14, .iconst 1, 1, .iconst 1, 0), (15, .invokevirtual 41258, 3, .invokevirtual 61, 1334), (18, .ireturn, 1, .ireturn, 0), (19, .aload_n 0, 1, .aload_n 0, 0), (20, .invokevirtual 51226, 3, .invokevirtual 335, 1556), (23, .aload_n 0, 1, .aload_n 0, 0), (24, .aload_n 0, 1, .aload_n 0, 0), (25, .iload_n 1, 1, .iload_n 1, 0), (26, .iconst 0, 1, .iconst 0, 0), (27, .invokevirtual 51514, 3, .invokevirtual 299, 1560), (30, .invokevirtual 42026, 3, .invokevirtual 65, 1524)]
def m_X10_wouldGo_r1 : List mj_I := [(33, .ireturn, 1, .ireturn, 0)]
def m_X10_wouldGo_E : List (List mj_I) := [m_X10_wouldGo_r0, m_X10_wouldGo_r1]
def m_X10_wouldGo : mj_M := (yX10_wouldGo, cX10_wouldGo, 2, (some .int), m_X10_wouldGo_E)
def m_X10_refusesRow_r0 : List mj_I := [(0, .iload_n 1, 1, .iload_n 1, 0), (1, .ifCond .ne 7, 3, .ifCond .ne 7, 0), (4, .iconst 1, 1, .iconst 1, 0), (5, .goto 16, 3, .goto 16, 0), (8, .aload_n 0, 1, .aload_n 0, 0), (9, .iload_n 2, 1, .iload_n 2, 0), (10, .invokevirtual 54058, 3, .invokevirtual 338, 1572), (13, .ifCond .eq 7, 3, .ifCond .eq 7, 0), (16, .iconst 0, 1, .iconst 0, 0), (17, .goto 4, 3, .goto 4, 0), (20, .iconst 2, 1, .iconst 2, 0), (21, .ireturn, 1, .ireturn, 0)]
def m_X10_refusesRow_E : List (List mj_I) := [m_X10_refusesRow_r0]
def m_X10_refusesRow : mj_M := (yX10_refusesRow, cX10_refusesRow, 3, (some .int), m_X10_refusesRow_E)
def m_X10_playsNow_r0 : List mj_I := [(0, .aload_n 0, 1, .aload_n 0, 0), (1, .invokevirtual 51226, 3, .invokevirtual 335, 1556), (4, .aload_n 0, 1, .aload_n 0, 0), (5, .invokevirtual 51738, 3, .invokevirtual 320, 1584), (8, .return_, 1, .return_, 0)]
def m_X10_playsNow_E : List (List mj_I) := [m_X10_playsNow_r0]
def m_X10_playsNow : mj_M := (yX10_playsNow, cX10_playsNow, 1, none, m_X10_playsNow_E)
def m_X10_takenBy_r0 : List mj_I := [(0, .aload_n 0, 1, .aload_n 0, 0), (1, .iconst 0, 1, .iconst 0, 0), (2, .putfield 640, 3, .putfield 55, 1207), (5, .aload_n 0, 1, .aload_n 0, 0), (6, .aload_n 0, 1, .aload_n 0, 0), (7, .getfield 643, 3, .getfield 279, 1210), (10, .ifnull 7, 3, .ifnull 7, 0), (13, .iconst 1, 1, .iconst 1, 0), (14, .goto 4, 3, .goto 4, 0), (17, .iconst 0, 1, .iconst 0, 0), (18, .iload_n 1, 1, .iload_n 1, 0), (19, .invokevirtual 55866, 3, .invokevirtual 341, 1568), (22, .istore_n 2, 1, .istore_n 2, 0), (23, .iload_n 2, 1, .iload_n 2, 0), (24, .ifCond .le 9, 3, .ifCond .le 9, 0), (27, .aload_n 0, 1, .aload_n 0, 0), (28, .iload_n 2, 1, .iload_n 2, 0), (29, .invokevirtual 41258, 3, .invokevirtual 61, 1334)]
def m_X10_takenBy_r1 : List mj_I := [(32, .ireturn, 1, .ireturn, 0), (33, .aload_n 0, 1, .aload_n 0, 0), (34, .invokevirtual 56090, 3, .invokevirtual 345, 1580), (37, .aload_n 0, 1, .aload_n 0, 0), (38, .aload_n 0, 1, .aload_n 0, 0), (39, .getfield 665, 3, .getfield 290, 1232), (42, .invokevirtual 42026, 3, .invokevirtual 65, 1524), (45, .ireturn, 1, .ireturn, 0)]
def m_X10_takenBy_E : List (List mj_I) := [m_X10_takenBy_r0, m_X10_takenBy_r1]
def m_X10_takenBy : mj_M := (yX10_takenBy, cX10_takenBy, 3, (some .int), m_X10_takenBy_E)
def m_X10_goesBy_r0 : List mj_I := [(0, .aload_n 0, 1, .aload_n 0, 0), (1, .iconst 0, 1, .iconst 0, 0), (2, .putfield 640, 3, .putfield 55, 1207), (5, .aload_n 0, 1, .aload_n 0, 0), (6, .aload_n 0, 1, .aload_n 0, 0), (7, .getfield 643, 3, .getfield 279, 1210), (10, .ifnull 7, 3, .ifnull 7, 0), (13, .iconst 1, 1, .iconst 1, 0), (14, .goto 4, 3, .goto 4, 0), (17, .iconst 0, 1, .iconst 0, 0), (18, .iload_n 1, 1, .iload_n 1, 0), (19, .invokevirtual 55866, 3, .invokevirtual 341, 1568), (22, .istore_n 2, 1, .istore_n 2, 0), (23, .iload_n 2, 1, .iload_n 2, 0), (24, .ifCond .le 9, 3, .ifCond .le 9, 0), (27, .aload_n 0, 1, .aload_n 0, 0), (28, .iload_n 2, 1, .iload_n 2, 0), (29, .invokevirtual 41258, 3, .invokevirtual 61, 1334)]
def m_X10_goesBy_r1 : List mj_I := [(32, .ireturn, 1, .ireturn, 0), (33, .aload_n 0, 1, .aload_n 0, 0), (34, .invokevirtual 56090, 3, .invokevirtual 345, 1580), (37, .aload_n 0, 1, .aload_n 0, 0), (38, .aload_n 0, 1, .aload_n 0, 0), (39, .invokevirtual 52250, 3, .invokevirtual 323, 1595), (42, .invokevirtual 42026, 3, .invokevirtual 65, 1524), (45, .ireturn, 1, .ireturn, 0)]
def m_X10_goesBy_E : List (List mj_I) := [m_X10_goesBy_r0, m_X10_goesBy_r1]
def m_X10_goesBy : mj_M := (yX10_goesBy, cX10_goesBy, 3, (some .int), m_X10_goesBy_E)
def m_X10_sendsBy_r0 : List mj_I := [(0, .aload_n 0, 1, .aload_n 0, 0), (1, .iconst 0, 1, .iconst 0, 0), (2, .putfield 640, 3, .putfield 55, 1207), (5, .aload_n 0, 1, .aload_n 0, 0), (6, .aload_n 0, 1, .aload_n 0, 0), (7, .iload_n 2, 1, .iload_n 2, 0), (8, .invokevirtual 50730, 3, .invokevirtual 332, 1540), (11, .iload_n 1, 1, .iload_n 1, 0), (12, .invokevirtual 55866, 3, .invokevirtual 341, 1568), (15, .istore_n 3, 1, .istore_n 3, 0), (16, .iload_n 3, 1, .iload_n 3, 0), (17, .ifCond .le 9, 3, .ifCond .le 9, 0), (20, .aload_n 0, 1, .aload_n 0, 0), (21, .iload_n 3, 1, .iload_n 3, 0), (22, .invokevirtual 41258, 3, .invokevirtual 61, 1334), (25, .ireturn, 1, .ireturn, 0), (26, .aload_n 0, 1, .aload_n 0, 0), (27, .invokevirtual 56090, 3, .invokevirtual 345, 1580), (30, .aload_n 0, 1, .aload_n 0, 0), (31, .aload_n 0, 1, .aload_n 0, 0)]
def m_X10_sendsBy_r1 : List mj_I := [(32, .getfield 662, 3, .getfield 33, 1229), (35, .iload_n 2, 1, .iload_n 2, 0), (36, .iaload, 1, .iaload, 0), (37, .invokevirtual 42026, 3, .invokevirtual 65, 1524), (40, .ireturn, 1, .ireturn, 0)]
def m_X10_sendsBy_E : List (List mj_I) := [m_X10_sendsBy_r0, m_X10_sendsBy_r1]
def m_X10_sendsBy : mj_M := (yX10_sendsBy, cX10_sendsBy, 4, (some .int), m_X10_sendsBy_E)
def m_X10_lossBy_r0 : List mj_I := [(0, .aload_n 0, 1, .aload_n 0, 0), (1, .iconst 0, 1, .iconst 0, 0), (2, .putfield 640, 3, .putfield 55, 1207), (5, .aload_n 0, 1, .aload_n 0, 0), (6, .aload_n 0, 1, .aload_n 0, 0), (7, .iload_n 2, 1, .iload_n 2, 0), (8, .invokevirtual 50730, 3, .invokevirtual 332, 1540), (11, .iload_n 1, 1, .iload_n 1, 0), (12, .invokevirtual 55866, 3, .invokevirtual 341, 1568), (15, .istore_n 3, 1, .istore_n 3, 0), (16, .iload_n 3, 1, .iload_n 3, 0), (17, .ifCond .le 9, 3, .ifCond .le 9, 0), (20, .aload_n 0, 1, .aload_n 0, 0), (21, .iload_n 3, 1, .iload_n 3, 0), (22, .invokevirtual 41258, 3, .invokevirtual 61, 1334), (25, .ireturn, 1, .ireturn, 0), (26, .aload_n 0, 1, .aload_n 0, 0), (27, .invokevirtual 56090, 3, .invokevirtual 345, 1580), (30, .aload_n 0, 1, .aload_n 0, 0), (31, .aload_n 0, 1, .aload_n 0, 0)]
def m_X10_lossBy_r1 : List mj_I := [(32, .iload_n 2, 1, .iload_n 2, 0), (33, .invokevirtual 52010, 3, .invokevirtual 302, 1607), (36, .invokevirtual 42026, 3, .invokevirtual 65, 1524), (39, .ireturn, 1, .ireturn, 0)]
def m_X10_lossBy_E : List (List mj_I) := [m_X10_lossBy_r0, m_X10_lossBy_r1]
def m_X10_lossBy : mj_M := (yX10_lossBy, cX10_lossBy, 4, (some .int), m_X10_lossBy_E)
def m_X10_firstTaken_r0 : List mj_I := [(0, .aload_n 0, 1, .aload_n 0, 0), (1, .iconst 0, 1, .iconst 0, 0), (2, .putfield 640, 3, .putfield 55, 1207), (5, .aload_n 0, 1, .aload_n 0, 0), (6, .iload_n 1, 1, .iload_n 1, 0), (7, .invokevirtual 50730, 3, .invokevirtual 332, 1540), (10, .ifCond .ne 9, 3, .ifCond .ne 9, 0), (13, .aload_n 0, 1, .aload_n 0, 0), (14, .iconst 1, 1, .iconst 1, 0), (15, .invokevirtual 41258, 3, .invokevirtual 61, 1334), (18, .ireturn, 1, .ireturn, 0), (19, .aload_n 0, 1, .aload_n 0, 0), (20, .invokevirtual 51226, 3, .invokevirtual 335, 1556), (23, .aload_n 0, 1, .aload_n 0, 0), (24, .invokevirtual 52762, 3, .invokevirtual 317, 1615), (27, .iconst 1, 1, .iconst 1, 0), (28, .istore_n 2, 1, .istore_n 2, 0), (29, .iload_n 2, 1, .iload_n 2, 0), (30, .ifCond .eq 35, 3, .ifCond .eq 35, 0)]
def m_X10_firstTaken_r1 : List mj_I := [(33, .aload_n 0, 1, .aload_n 0, 0), (34, .invokevirtual 51738, 3, .invokevirtual 320, 1584), (37, .aload_n 0, 1, .aload_n 0, 0), (38, .getfield 665, 3, .getfield 290, 1232), (41, .iload_n 1, 1, .iload_n 1, 0), (42, .invokestatic 42794, 3, .invokestatic 246, 1498), (45, .ifCond .eq 12, 3, .ifCond .eq 12, 0), (48, .aload_n 0, 1, .aload_n 0, 0), (49, .aload_n 0, 1, .aload_n 0, 0), (50, .invokevirtual 53786, 3, .invokevirtual 348, 1619), (53, .invokevirtual 42026, 3, .invokevirtual 65, 1524), (56, .ireturn, 1, .ireturn, 0), (57, .aload_n 0, 1, .aload_n 0, 0), (58, .invokevirtual 53018, 3, .invokevirtual 329, 1623), (61, .istore_n 2, 1, .istore_n 2, 0), (62, .goto (-33), 3, .goto (-33), 0)]
def m_X10_firstTaken_r2 : List mj_I := [(65, .aload_n 0, 1, .aload_n 0, 0), (66, .bipush (-2), 2, .bipush (-2), 0), (68, .invokevirtual 42026, 3, .invokevirtual 65, 1524), (71, .ireturn, 1, .ireturn, 0)]
def m_X10_firstTaken_E : List (List mj_I) := [m_X10_firstTaken_r0, m_X10_firstTaken_r1, m_X10_firstTaken_r2]
def m_X10_firstTaken : mj_M := (yX10_firstTaken, cX10_firstTaken, 3, (some .int), m_X10_firstTaken_E)
def m_X10_oddsNow_r0 : List mj_I := [(0, .aload_n 0, 1, .aload_n 0, 0), (1, .invokevirtual 51226, 3, .invokevirtual 335, 1556), (4, .aload_n 0, 1, .aload_n 0, 0), (5, .iconst 0, 1, .iconst 0, 0), (6, .iconst 0, 1, .iconst 0, 0), (7, .invokevirtual 54330, 3, .invokevirtual 351, 1639), (10, .return_, 1, .return_, 0)]
def m_X10_oddsNow_E : List (List mj_I) := [m_X10_oddsNow_r0]
def m_X10_oddsNow : mj_M := (yX10_oddsNow, cX10_oddsNow, 1, none, m_X10_oddsNow_E)
def m_X10_taken_r0 : List mj_I := [(0, .aload_n 0, 1, .aload_n 0, 0), (1, .iconst 0, 1, .iconst 0, 0), (2, .putfield 640, 3, .putfield 55, 1207), (5, .aload_n 0, 1, .aload_n 0, 0), (6, .iload_n 1, 1, .iload_n 1, 0), (7, .invokevirtual 50730, 3, .invokevirtual 332, 1540), (10, .ifCond .ne 10, 3, .ifCond .ne 10, 0), (13, .aload_n 0, 1, .aload_n 0, 0), (14, .iconst 1, 1, .iconst 1, 0), (15, .invokevirtual 41258, 3, .invokevirtual 61, 1334), (18, .i2l, 1, .i2l, 0), (19, .lreturn, 1, .lreturn, 0), (20, .aload_n 0, 1, .aload_n 0, 0), (21, .invokevirtual 57626, 3, .invokevirtual 354, 1635), (24, .aload_n 0, 1, .aload_n 0, 0), (25, .aload_n 0, 1, .aload_n 0, 0), (26, .getfield 667, 3, .getfield 39, 1234), (29, .iload_n 1, 1, .iload_n 1, 0), (30, .laload, 1, .laload, 0), (31, .aload_n 0, 1, .aload_n 0, 0)]
def m_X10_taken_r1 : List mj_I := [(32, .invokevirtual 53530, 3, .invokevirtual 357, 1647), (35, .i2l, 1, .i2l, 0), (36, .iload_n 2, 1, .iload_n 2, 0), (37, .invokevirtual 43594, 3, .invokevirtual 360, 1651), (40, .lreturn, 1, .lreturn, 0)]
def m_X10_taken_E : List (List mj_I) := [m_X10_taken_r0, m_X10_taken_r1]
def m_X10_taken : mj_M := (yX10_taken, cX10_taken, 3, (some .long), m_X10_taken_E)
def m_X10_goes_r0 : List mj_I := [(0, .aload_n 0, 1, .aload_n 0, 0), (1, .iconst 0, 1, .iconst 0, 0), (2, .putfield 640, 3, .putfield 55, 1207), (5, .aload_n 0, 1, .aload_n 0, 0), (6, .iload_n 1, 1, .iload_n 1, 0), (7, .invokevirtual 50730, 3, .invokevirtual 332, 1540), (10, .ifCond .ne 10, 3, .ifCond .ne 10, 0), (13, .aload_n 0, 1, .aload_n 0, 0), (14, .iconst 1, 1, .iconst 1, 0), (15, .invokevirtual 41258, 3, .invokevirtual 61, 1334), (18, .i2l, 1, .i2l, 0), (19, .lreturn, 1, .lreturn, 0), (20, .aload_n 0, 1, .aload_n 0, 0), (21, .invokevirtual 57626, 3, .invokevirtual 354, 1635), (24, .aload_n 0, 1, .aload_n 0, 0), (25, .aload_n 0, 1, .aload_n 0, 0), (26, .getfield 668, 3, .getfield 43, 1235), (29, .iload_n 1, 1, .iload_n 1, 0), (30, .laload, 1, .laload, 0), (31, .aload_n 0, 1, .aload_n 0, 0)]
def m_X10_goes_r1 : List mj_I := [(32, .invokevirtual 53530, 3, .invokevirtual 357, 1647), (35, .i2l, 1, .i2l, 0), (36, .iload_n 2, 1, .iload_n 2, 0), (37, .invokevirtual 43594, 3, .invokevirtual 360, 1651), (40, .lreturn, 1, .lreturn, 0)]
def m_X10_goes_E : List (List mj_I) := [m_X10_goes_r0, m_X10_goes_r1]
def m_X10_goes : mj_M := (yX10_goes, cX10_goes, 3, (some .long), m_X10_goes_E)
def m_X10_goesFor_r0 : List mj_I := [(0, .aload_n 0, 1, .aload_n 0, 0), (1, .iconst 0, 1, .iconst 0, 0), (2, .putfield 640, 3, .putfield 55, 1207), (5, .aload_n 0, 1, .aload_n 0, 0), (6, .iload_n 1, 1, .iload_n 1, 0), (7, .invokevirtual 50730, 3, .invokevirtual 332, 1540), (10, .ifCond .eq 16, 3, .ifCond .eq 16, 0), (13, .aload_n 0, 1, .aload_n 0, 0), (14, .iload_n 2, 1, .iload_n 2, 0), (15, .invokevirtual 50730, 3, .invokevirtual 332, 1540), (18, .ifCond .eq 8, 3, .ifCond .eq 8, 0), (21, .iload_n 1, 1, .iload_n 1, 0), (22, .iload_n 2, 1, .iload_n 2, 0), (23, .if_icmp .ne 10, 3, .if_icmp .ne 10, 0), (26, .aload_n 0, 1, .aload_n 0, 0), (27, .iconst 1, 1, .iconst 1, 0), (28, .invokevirtual 41258, 3, .invokevirtual 61, 1334), (31, .i2l, 1, .i2l, 0)]
def m_X10_goesFor_r1 : List mj_I := [(32, .lreturn, 1, .lreturn, 0), (33, .aload_n 0, 1, .aload_n 0, 0), (34, .invokevirtual 57626, 3, .invokevirtual 354, 1635), (37, .aload_n 0, 1, .aload_n 0, 0), (38, .aload_n 0, 1, .aload_n 0, 0), (39, .getfield 670, 3, .getfield 49, 1237), (42, .bipush 6, 2, .bipush 6, 0), (44, .iload_n 1, 1, .iload_n 1, 0), (45, .imul, 1, .imul, 0), (46, .iload_n 2, 1, .iload_n 2, 0), (47, .iadd, 1, .iadd, 0), (48, .laload, 1, .laload, 0), (49, .aload_n 0, 1, .aload_n 0, 0), (50, .invokevirtual 53530, 3, .invokevirtual 357, 1647), (53, .i2l, 1, .i2l, 0), (54, .iload_n 3, 1, .iload_n 3, 0), (55, .invokevirtual 43594, 3, .invokevirtual 360, 1651), (58, .lreturn, 1, .lreturn, 0)]
def m_X10_goesFor_E : List (List mj_I) := [m_X10_goesFor_r0, m_X10_goesFor_r1]
def m_X10_goesFor : mj_M := (yX10_goesFor, cX10_goesFor, 4, (some .long), m_X10_goesFor_E)
def m_X10_loss_r0 : List mj_I := [(0, .aload_n 0, 1, .aload_n 0, 0), (1, .iconst 0, 1, .iconst 0, 0), (2, .putfield 640, 3, .putfield 55, 1207), (5, .aload_n 0, 1, .aload_n 0, 0), (6, .iload_n 1, 1, .iload_n 1, 0), (7, .invokevirtual 50730, 3, .invokevirtual 332, 1540), (10, .ifCond .ne 10, 3, .ifCond .ne 10, 0), (13, .aload_n 0, 1, .aload_n 0, 0), (14, .iconst 1, 1, .iconst 1, 0), (15, .invokevirtual 41258, 3, .invokevirtual 61, 1334), (18, .i2l, 1, .i2l, 0), (19, .lreturn, 1, .lreturn, 0), (20, .aload_n 0, 1, .aload_n 0, 0), (21, .invokevirtual 57626, 3, .invokevirtual 354, 1635), (24, .aload_n 0, 1, .aload_n 0, 0), (25, .aload_n 0, 1, .aload_n 0, 0), (26, .getfield 669, 3, .getfield 46, 1236), (29, .iload_n 1, 1, .iload_n 1, 0), (30, .laload, 1, .laload, 0), (31, .aload_n 0, 1, .aload_n 0, 0)]
def m_X10_loss_r1 : List mj_I := [(32, .invokevirtual 53530, 3, .invokevirtual 357, 1647), (35, .i2l, 1, .i2l, 0), (36, .iload_n 2, 1, .iload_n 2, 0), (37, .invokevirtual 43594, 3, .invokevirtual 360, 1651), (40, .lreturn, 1, .lreturn, 0)]
def m_X10_loss_E : List (List mj_I) := [m_X10_loss_r0, m_X10_loss_r1]
def m_X10_loss : mj_M := (yX10_loss, cX10_loss, 3, (some .long), m_X10_loss_E)
def m_X10_isClub_r0 : List mj_I := [(0, .aload_n 0, 1, .aload_n 0, 0), (1, .getfield 643, 3, .getfield 279, 1210), (4, .ifnull 19, 3, .ifnull 19, 0), (7, .iload_n 1, 1, .iload_n 1, 0), (8, .iload_n 2, 1, .iload_n 2, 0), (9, .aload_n 0, 1, .aload_n 0, 0), (10, .invokevirtual 50970, 3, .invokevirtual 308, 1576), (13, .invokestatic 42554, 3, .invokestatic 134, 1455), (16, .ifCond .eq 7, 3, .ifCond .eq 7, 0), (19, .iconst 1, 1, .iconst 1, 0), (20, .goto 4, 3, .goto 4, 0), (23, .iconst 0, 1, .iconst 0, 0), (24, .ireturn, 1, .ireturn, 0)]
def m_X10_isClub_E : List (List mj_I) := [m_X10_isClub_r0]
def m_X10_isClub : mj_M := (yX10_isClub, cX10_isClub, 3, (some .boolean), m_X10_isClub_E)
def m_X10_club_r0 : List mj_I := [(0, .aload_n 0, 1, .aload_n 0, 0), (1, .iconst 0, 1, .iconst 0, 0), (2, .putfield 640, 3, .putfield 55, 1207), (5, .aload_n 0, 1, .aload_n 0, 0), (6, .iload_n 1, 1, .iload_n 1, 0), (7, .iconst 1, 1, .iconst 1, 0), (8, .invokevirtual 58938, 3, .invokevirtual 364, 1674), (11, .ifCond .ne 10, 3, .ifCond .ne 10, 0), (14, .aload_n 0, 1, .aload_n 0, 0), (15, .iconst 1, 1, .iconst 1, 0), (16, .invokevirtual 41258, 3, .invokevirtual 61, 1334), (19, .i2l, 1, .i2l, 0), (20, .lreturn, 1, .lreturn, 0), (21, .aload_n 0, 1, .aload_n 0, 0), (22, .invokevirtual 57626, 3, .invokevirtual 354, 1635), (25, .aload_n 0, 1, .aload_n 0, 0), (26, .aload_n 0, 1, .aload_n 0, 0), (27, .iload_n 1, 1, .iload_n 1, 0), (28, .invokevirtual 54570, 3, .invokevirtual 367, 1678), (31, .aload_n 0, 1, .aload_n 0, 0)]
def m_X10_club_r1 : List mj_I := [(32, .invokevirtual 53530, 3, .invokevirtual 357, 1647), (35, .i2l, 1, .i2l, 0), (36, .iload_n 1, 1, .iload_n 1, 0), (37, .invokestatic 43034, 3, .invokestatic 296, 1588), (40, .i2l, 1, .i2l, 0), (41, .lmul, 1, .lmul, 0), (42, .iload_n 2, 1, .iload_n 2, 0), (43, .invokevirtual 43594, 3, .invokevirtual 360, 1651), (46, .lreturn, 1, .lreturn, 0)]
def m_X10_club_E : List (List mj_I) := [m_X10_club_r0, m_X10_club_r1]
def m_X10_club : mj_M := (yX10_club, cX10_club, 3, (some .long), m_X10_club_E)
def m_X10_ruin_r0 : List mj_I := [(0, .aload_n 0, 1, .aload_n 0, 0), (1, .iconst 0, 1, .iconst 0, 0), (2, .putfield 640, 3, .putfield 55, 1207), (5, .aload_n 0, 1, .aload_n 0, 0), (6, .iload_n 1, 1, .iload_n 1, 0), (7, .iconst 1, 1, .iconst 1, 0), (8, .invokevirtual 58938, 3, .invokevirtual 364, 1674), (11, .ifCond .ne 10, 3, .ifCond .ne 10, 0), (14, .aload_n 0, 1, .aload_n 0, 0), (15, .iconst 1, 1, .iconst 1, 0), (16, .invokevirtual 41258, 3, .invokevirtual 61, 1334), (19, .i2l, 1, .i2l, 0), (20, .lreturn, 1, .lreturn, 0), (21, .iload_n 2, 1, .iload_n 2, 0), (22, .iconst 0, 1, .iconst 0, 0), (23, .sipush 999, 3, .sipush 999, 0), (26, .invokestatic 42554, 3, .invokestatic 134, 1455), (29, .ifCond .ne 10, 3, .ifCond .ne 10, 0)]
def m_X10_ruin_r1 : List mj_I := [(32, .aload_n 0, 1, .aload_n 0, 0), (33, .iconst 2, 1, .iconst 2, 0), (34, .invokevirtual 41258, 3, .invokevirtual 61, 1334), (37, .i2l, 1, .i2l, 0), (38, .lreturn, 1, .lreturn, 0), (39, .aload_n 0, 1, .aload_n 0, 0), (40, .invokevirtual 51226, 3, .invokevirtual 335, 1556), (43, .aload_n 0, 1, .aload_n 0, 0), (44, .iload_n 1, 1, .iload_n 1, 0), (45, .iload_n 2, 1, .iload_n 2, 0), (46, .invokevirtual 54330, 3, .invokevirtual 351, 1639), (49, .aload_n 0, 1, .aload_n 0, 0), (50, .aload_n 0, 1, .aload_n 0, 0), (51, .getfield 672, 3, .getfield 314, 1239), (54, .aload_n 0, 1, .aload_n 0, 0), (55, .invokevirtual 53530, 3, .invokevirtual 357, 1647), (58, .i2l, 1, .i2l, 0), (59, .iload_n 3, 1, .iload_n 3, 0), (60, .invokevirtual 43594, 3, .invokevirtual 360, 1651), (63, .lreturn, 1, .lreturn, 0)]
def m_X10_ruin_E : List (List mj_I) := [m_X10_ruin_r0, m_X10_ruin_r1]
def m_X10_ruin : mj_M := (yX10_ruin, cX10_ruin, 4, (some .long), m_X10_ruin_E)
def m_X10_toJoin_r0 : List mj_I := [(0, .aload_n 0, 1, .aload_n 0, 0), (1, .iconst 0, 1, .iconst 0, 0), (2, .putfield 640, 3, .putfield 55, 1207), (5, .aload_n 0, 1, .aload_n 0, 0), (6, .iload_n 1, 1, .iload_n 1, 0), (7, .iconst 0, 1, .iconst 0, 0), (8, .invokevirtual 58938, 3, .invokevirtual 364, 1674), (11, .ifCond .ne 9, 3, .ifCond .ne 9, 0), (14, .aload_n 0, 1, .aload_n 0, 0), (15, .iconst 1, 1, .iconst 1, 0), (16, .invokevirtual 41258, 3, .invokevirtual 61, 1334), (19, .ireturn, 1, .ireturn, 0), (20, .aload_n 0, 1, .aload_n 0, 0), (21, .invokevirtual 57626, 3, .invokevirtual 354, 1635), (24, .bipush (-2), 2, .bipush (-2), 0), (26, .istore_n 2, 1, .istore_n 2, 0), (27, .iconst 0, 1, .iconst 0, 0), (28, .istore_n 3, 1, .istore_n 3, 0), (29, .iload_n 3, 1, .iload_n 3, 0), (30, .aload_n 0, 1, .aload_n 0, 0), (31, .getfield 643, 3, .getfield 279, 1210)]
def m_X10_toJoin_r1 : List mj_I := [(34, .getfield 577, 3, .getfield 188, 1347), (37, .if_icmp .ge 41, 3, .if_icmp .ge 41, 0), (40, .iload_n 1, 1, .iload_n 1, 0), (41, .iload_n 3, 1, .iload_n 3, 0), (42, .invokestatic 42794, 3, .invokestatic 246, 1498), (45, .ifCond .ne 27, 3, .ifCond .ne 27, 0), (48, .iload_n 2, 1, .iload_n 2, 0), (49, .bipush (-2), 2, .bipush (-2), 0), (51, .if_icmp .eq 19, 3, .if_icmp .eq 19, 0), (54, .aload_n 0, 1, .aload_n 0, 0), (55, .getfield 669, 3, .getfield 46, 1236), (58, .iload_n 3, 1, .iload_n 3, 0), (59, .laload, 1, .laload, 0), (60, .aload_n 0, 1, .aload_n 0, 0), (61, .getfield 669, 3, .getfield 46, 1236)]
def m_X10_toJoin_r2 : List mj_I := [(64, .iload_n 2, 1, .iload_n 2, 0), (65, .laload, 1, .laload, 0), (66, .lcmp, 1, .lcmp, 0), (67, .ifCond .ge 5, 3, .ifCond .ge 5, 0), (70, .iload_n 3, 1, .iload_n 3, 0), (71, .istore_n 2, 1, .istore_n 2, 0), (72, .iinc 3 1, 3, .iinc 3 1, 0), (75, .goto (-46), 3, .goto (-46), 0), (78, .aload_n 0, 1, .aload_n 0, 0), (79, .iload_n 2, 1, .iload_n 2, 0), (80, .invokevirtual 42026, 3, .invokevirtual 65, 1524), (83, .ireturn, 1, .ireturn, 0)]
def m_X10_toJoin_E : List (List mj_I) := [m_X10_toJoin_r0, m_X10_toJoin_r1, m_X10_toJoin_r2]
def m_X10_toJoin : mj_M := (yX10_toJoin, cX10_toJoin, 4, (some .int), m_X10_toJoin_E)
def m_X10_shortOf_r0 : List mj_I := [(0, .aload_n 0, 1, .aload_n 0, 0), (1, .iconst 0, 1, .iconst 0, 0), (2, .putfield 640, 3, .putfield 55, 1207), (5, .aload_n 0, 1, .aload_n 0, 0), (6, .getfield 643, 3, .getfield 279, 1210), (9, .ifnonnull 10, 3, .ifnonnull 10, 0), (12, .aload_n 0, 1, .aload_n 0, 0), (13, .iconst 1, 1, .iconst 1, 0), (14, .invokevirtual 41258, 3, .invokevirtual 61, 1334), (17, .i2l, 1, .i2l, 0), (18, .lreturn, 1, .lreturn, 0), (19, .aload_n 0, 1, .aload_n 0, 0), (20, .invokevirtual 57626, 3, .invokevirtual 354, 1635), (23, .aload_n 0, 1, .aload_n 0, 0), (24, .aload_n 0, 1, .aload_n 0, 0), (25, .getfield 671, 3, .getfield 311, 1238), (28, .aload_n 0, 1, .aload_n 0, 0), (29, .invokevirtual 53530, 3, .invokevirtual 357, 1647)]
def m_X10_shortOf_r1 : List mj_I := [(32, .i2l, 1, .i2l, 0), (33, .iload_n 1, 1, .iload_n 1, 0), (34, .invokevirtual 43594, 3, .invokevirtual 360, 1651), (37, .lreturn, 1, .lreturn, 0)]
def m_X10_shortOf_E : List (List mj_I) := [m_X10_shortOf_r0, m_X10_shortOf_r1]
def m_X10_shortOf : mj_M := (yX10_shortOf, cX10_shortOf, 2, (some .long), m_X10_shortOf_E)
def m_X10_ifMarried_r0 : List mj_I := [(0, .aload_n 0, 1, .aload_n 0, 0), (1, .iconst 0, 1, .iconst 0, 0), (2, .putfield 640, 3, .putfield 55, 1207), (5, .aload_n 0, 1, .aload_n 0, 0), (6, .iload_n 1, 1, .iload_n 1, 0), (7, .invokevirtual 50730, 3, .invokevirtual 332, 1540), (10, .ifCond .ne 10, 3, .ifCond .ne 10, 0), (13, .aload_n 0, 1, .aload_n 0, 0), (14, .iconst 1, 1, .iconst 1, 0), (15, .invokevirtual 41258, 3, .invokevirtual 61, 1334), (18, .i2l, 1, .i2l, 0), (19, .lreturn, 1, .lreturn, 0), (20, .aload_n 0, 1, .aload_n 0, 0), (21, .invokevirtual 51226, 3, .invokevirtual 335, 1556), (24, .aload_n 0, 1, .aload_n 0, 0), (25, .getfield 661, 3, .getfield 30, 1228), (28, .iload_n 1, 1, .iload_n 1, 0), (29, .iconst 1, 1, .iconst 1, 0), (30, .iastore, 1, .iastore, 0), (31, .aload_n 0, 1, .aload_n 0, 0)]
def m_X10_ifMarried_r1 : List mj_I := [(32, .iconst 0, 1, .iconst 0, 0), (33, .iconst 0, 1, .iconst 0, 0), (34, .invokevirtual 54330, 3, .invokevirtual 351, 1639), (37, .aload_n 0, 1, .aload_n 0, 0), (38, .aload_n 0, 1, .aload_n 0, 0), (39, .getfield 669, 3, .getfield 46, 1236), (42, .iload_n 1, 1, .iload_n 1, 0), (43, .laload, 1, .laload, 0), (44, .aload_n 0, 1, .aload_n 0, 0), (45, .invokevirtual 53530, 3, .invokevirtual 357, 1647), (48, .i2l, 1, .i2l, 0), (49, .iload_n 2, 1, .iload_n 2, 0), (50, .invokevirtual 43594, 3, .invokevirtual 360, 1651), (53, .lreturn, 1, .lreturn, 0)]
def m_X10_ifMarried_E : List (List mj_I) := [m_X10_ifMarried_r0, m_X10_ifMarried_r1]
def m_X10_ifMarried : mj_M := (yX10_ifMarried, cX10_ifMarried, 3, (some .long), m_X10_ifMarried_E)
def m_X10_byLaw_r0 : List mj_I := [(0, .aload_n 0, 1, .aload_n 0, 0), (1, .invokevirtual 51226, 3, .invokevirtual 335, 1556), (4, .aload_n 0, 1, .aload_n 0, 0), (5, .iload_n 1, 1, .iload_n 1, 0), (6, .putfield 664, 3, .putfield 287, 1231), (9, .aload_n 0, 1, .aload_n 0, 0), (10, .iconst 0, 1, .iconst 0, 0), (11, .iconst 0, 1, .iconst 0, 0), (12, .invokevirtual 54330, 3, .invokevirtual 351, 1639), (15, .return_, 1, .return_, 0)]
def m_X10_byLaw_E : List (List mj_I) := [m_X10_byLaw_r0]
def m_X10_byLaw : mj_M := (yX10_byLaw, cX10_byLaw, 2, none, m_X10_byLaw_E)
def m_X10_refusesLaw_r0 : List mj_I := [(0, .aload_n 0, 1, .aload_n 0, 0), (1, .getfield 643, 3, .getfield 279, 1210), (4, .ifnonnull 7, 3, .ifnonnull 7, 0), (7, .iconst 1, 1, .iconst 1, 0), (8, .goto 18, 3, .goto 18, 0), (11, .iload_n 1, 1, .iload_n 1, 0), (12, .iconst 0, 1, .iconst 0, 0), (13, .bipush 15, 2, .bipush 15, 0), (15, .invokestatic 42554, 3, .invokestatic 134, 1455), (18, .ifCond .eq 7, 3, .ifCond .eq 7, 0), (21, .iconst 0, 1, .iconst 0, 0), (22, .goto 4, 3, .goto 4, 0), (25, .iconst 2, 1, .iconst 2, 0), (26, .ireturn, 1, .ireturn, 0)]
def m_X10_refusesLaw_E : List (List mj_I) := [m_X10_refusesLaw_r0]
def m_X10_refusesLaw : mj_M := (yX10_refusesLaw, cX10_refusesLaw, 2, (some .int), m_X10_refusesLaw_E)
def m_X10_harm_r0 : List mj_I := [(0, .aload_n 0, 1, .aload_n 0, 0), (1, .iconst 0, 1, .iconst 0, 0), (2, .putfield 640, 3, .putfield 55, 1207), (5, .aload_n 0, 1, .aload_n 0, 0), (6, .iload_n 1, 1, .iload_n 1, 0), (7, .invokevirtual 60714, 3, .invokevirtual 371, 1702), (10, .istore_n 3, 1, .istore_n 3, 0), (11, .iload_n 3, 1, .iload_n 3, 0), (12, .ifCond .le 10, 3, .ifCond .le 10, 0), (15, .aload_n 0, 1, .aload_n 0, 0), (16, .iload_n 3, 1, .iload_n 3, 0), (17, .invokevirtual 41258, 3, .invokevirtual 61, 1334), (20, .i2l, 1, .i2l, 0), (21, .lreturn, 1, .lreturn, 0), (22, .aload_n 0, 1, .aload_n 0, 0), (23, .iload_n 1, 1, .iload_n 1, 0), (24, .invokevirtual 60458, 3, .invokevirtual 374, 1706), (27, .aload_n 0, 1, .aload_n 0, 0), (28, .aload_n 0, 1, .aload_n 0, 0), (29, .aload_n 0, 1, .aload_n 0, 0), (30, .invokevirtual 50970, 3, .invokevirtual 308, 1576)]
def m_X10_harm_r1 : List mj_I := [(33, .invokevirtual 54570, 3, .invokevirtual 367, 1678), (36, .aload_n 0, 1, .aload_n 0, 0), (37, .invokevirtual 53530, 3, .invokevirtual 357, 1647), (40, .i2l, 1, .i2l, 0), (41, .iload_n 2, 1, .iload_n 2, 0), (42, .invokevirtual 43594, 3, .invokevirtual 360, 1651), (45, .lreturn, 1, .lreturn, 0)]
def m_X10_harm_E : List (List mj_I) := [m_X10_harm_r0, m_X10_harm_r1]
def m_X10_harm : mj_M := (yX10_harm, cX10_harm, 4, (some .long), m_X10_harm_E)
def m_X10_fills_r0 : List mj_I := [(0, .aload_n 0, 1, .aload_n 0, 0), (1, .iconst 0, 1, .iconst 0, 0), (2, .putfield 640, 3, .putfield 55, 1207), (5, .aload_n 0, 1, .aload_n 0, 0), (6, .iload_n 1, 1, .iload_n 1, 0), (7, .invokevirtual 60714, 3, .invokevirtual 371, 1702), (10, .istore_n 2, 1, .istore_n 2, 0), (11, .iload_n 2, 1, .iload_n 2, 0), (12, .ifCond .le 9, 3, .ifCond .le 9, 0), (15, .aload_n 0, 1, .aload_n 0, 0), (16, .iload_n 2, 1, .iload_n 2, 0), (17, .invokevirtual 41258, 3, .invokevirtual 61, 1334), (20, .ireturn, 1, .ireturn, 0), (21, .aload_n 0, 1, .aload_n 0, 0), (22, .iload_n 1, 1, .iload_n 1, 0), (23, .invokevirtual 60458, 3, .invokevirtual 374, 1706), (26, .aload_n 0, 1, .aload_n 0, 0), (27, .aload_n 0, 1, .aload_n 0, 0), (28, .getfield 671, 3, .getfield 311, 1238), (31, .lconst 0, 1, .lconst 0, 0)]
def m_X10_fills_r1 : List mj_I := [(32, .lcmp, 1, .lcmp, 0), (33, .ifCond .ne 7, 3, .ifCond .ne 7, 0), (36, .iconst 1, 1, .iconst 1, 0), (37, .goto 4, 3, .goto 4, 0), (40, .iconst 0, 1, .iconst 0, 0), (41, .invokevirtual 42026, 3, .invokevirtual 65, 1524), (44, .ireturn, 1, .ireturn, 0)]
def m_X10_fills_E : List (List mj_I) := [m_X10_fills_r0, m_X10_fills_r1]
def m_X10_fills : mj_M := (yX10_fills, cX10_fills, 3, (some .int), m_X10_fills_E)
def m_X10_bestLaw_r0 : List mj_I := [(0, .aload_n 0, 1, .aload_n 0, 0), (1, .iconst 0, 1, .iconst 0, 0), (2, .putfield 640, 3, .putfield 55, 1207), (5, .aload_n 0, 1, .aload_n 0, 0), (6, .getfield 643, 3, .getfield 279, 1210), (9, .ifnonnull 9, 3, .ifnonnull 9, 0), (12, .aload_n 0, 1, .aload_n 0, 0), (13, .iconst 1, 1, .iconst 1, 0), (14, .invokevirtual 41258, 3, .invokevirtual 61, 1334), (17, .ireturn, 1, .ireturn, 0), (18, .bipush (-2), 2, .bipush (-2), 0), (20, .istore_n 1, 1, .istore_n 1, 0), (21, .lconst 0, 1, .lconst 0, 0), (22, .lstore_n 2, 1, .lstore_n 2, 0), (23, .iconst 0, 1, .iconst 0, 0), (24, .istore 4, 2, .istore 4, 0), (26, .iload 4, 2, .iload 4, 0), (28, .bipush 16, 2, .bipush 16, 0), (30, .if_icmp .ge 56, 3, .if_icmp .ge 56, 0)]
def m_X10_bestLaw_r1 : List mj_I := [(33, .aload_n 0, 1, .aload_n 0, 0), (34, .iload 4, 2, .iload 4, 0), (36, .invokevirtual 60458, 3, .invokevirtual 374, 1706), (39, .aload_n 0, 1, .aload_n 0, 0), (40, .aload_n 0, 1, .aload_n 0, 0), (41, .invokevirtual 50970, 3, .invokevirtual 308, 1576), (44, .invokevirtual 54570, 3, .invokevirtual 367, 1678), (47, .lstore 5, 2, .lstore 5, 0), (49, .aload_n 0, 1, .aload_n 0, 0), (50, .getfield 671, 3, .getfield 311, 1238), (53, .lconst 0, 1, .lconst 0, 0), (54, .lcmp, 1, .lcmp, 0), (55, .ifCond .gt 25, 3, .ifCond .gt 25, 0), (58, .iload_n 1, 1, .iload_n 1, 0), (59, .bipush (-2), 2, .bipush (-2), 0), (61, .if_icmp .eq 13, 3, .if_icmp .eq 13, 0)]
def m_X10_bestLaw_r2 : List mj_I := [(64, .lload 5, 2, .lload 5, 0), (66, .lload_n 2, 1, .lload_n 2, 0), (67, .lcmp, 1, .lcmp, 0), (68, .ifCond .lt 6, 3, .ifCond .lt 6, 0), (71, .goto 9, 3, .goto 9, 0), (74, .iload 4, 2, .iload 4, 0), (76, .istore_n 1, 1, .istore_n 1, 0), (77, .lload 5, 2, .lload 5, 0), (79, .lstore_n 2, 1, .lstore_n 2, 0), (80, .iinc 4 1, 3, .iinc 4 1, 0), (83, .goto (-57), 3, .goto (-57), 0), (86, .aload_n 0, 1, .aload_n 0, 0), (87, .iload_n 1, 1, .iload_n 1, 0), (88, .invokevirtual 42026, 3, .invokevirtual 65, 1524), (91, .ireturn, 1, .ireturn, 0)]
def m_X10_bestLaw_E : List (List mj_I) := [m_X10_bestLaw_r0, m_X10_bestLaw_r1, m_X10_bestLaw_r2]
def m_X10_bestLaw : mj_M := (yX10_bestLaw, cX10_bestLaw, 7, (some .int), m_X10_bestLaw_E)
def m_X10_toSpare_r0 : List mj_I := [(0, .aload_n 0, 1, .aload_n 0, 0), (1, .iconst 0, 1, .iconst 0, 0), (2, .putfield 640, 3, .putfield 55, 1207), (5, .aload_n 0, 1, .aload_n 0, 0), (6, .getfield 643, 3, .getfield 279, 1210), (9, .ifnonnull 9, 3, .ifnonnull 9, 0), (12, .aload_n 0, 1, .aload_n 0, 0), (13, .iconst 1, 1, .iconst 1, 0), (14, .invokevirtual 41258, 3, .invokevirtual 61, 1334), (17, .ireturn, 1, .ireturn, 0), (18, .bipush (-2), 2, .bipush (-2), 0), (20, .istore_n 1, 1, .istore_n 1, 0), (21, .lconst 0, 1, .lconst 0, 0), (22, .lstore_n 2, 1, .lstore_n 2, 0), (23, .iconst 0, 1, .iconst 0, 0), (24, .istore 4, 2, .istore 4, 0), (26, .iload 4, 2, .iload 4, 0), (28, .iconst 4, 1, .iconst 4, 0), (29, .if_icmp .ge 75, 3, .if_icmp .ge 75, 0)]
def m_X10_toSpare_r1 : List mj_I := [(32, .aload_n 0, 1, .aload_n 0, 0), (33, .getfield 655, 3, .getfield 17, 1222), (36, .bipush 25, 2, .bipush 25, 0), (38, .iaload, 1, .iaload, 0), (39, .iload 4, 2, .iload 4, 0), (41, .invokestatic 42794, 3, .invokestatic 246, 1498), (44, .ifCond .eq 6, 3, .ifCond .eq 6, 0), (47, .goto 51, 3, .goto 51, 0), (50, .aload_n 0, 1, .aload_n 0, 0), (51, .aload_n 0, 1, .aload_n 0, 0), (52, .getfield 655, 3, .getfield 17, 1222), (55, .bipush 25, 2, .bipush 25, 0), (57, .iaload, 1, .iaload, 0), (58, .iconst 1, 1, .iconst 1, 0), (59, .iload 4, 2, .iload 4, 0), (61, .ishl, 1, .ishl, 0), (62, .ior, 1, .ior, 0), (63, .invokevirtual 60458, 3, .invokevirtual 374, 1706)]
def m_X10_toSpare_r2 : List mj_I := [(66, .aload_n 0, 1, .aload_n 0, 0), (67, .aload_n 0, 1, .aload_n 0, 0), (68, .invokevirtual 50970, 3, .invokevirtual 308, 1576), (71, .invokevirtual 54570, 3, .invokevirtual 367, 1678), (74, .lstore 5, 2, .lstore 5, 0), (76, .iload_n 1, 1, .iload_n 1, 0), (77, .bipush (-2), 2, .bipush (-2), 0), (79, .if_icmp .eq 13, 3, .if_icmp .eq 13, 0), (82, .lload 5, 2, .lload 5, 0), (84, .lload_n 2, 1, .lload_n 2, 0), (85, .lcmp, 1, .lcmp, 0), (86, .ifCond .lt 6, 3, .ifCond .lt 6, 0), (89, .goto 9, 3, .goto 9, 0), (92, .iload 4, 2, .iload 4, 0), (94, .istore_n 1, 1, .istore_n 1, 0), (95, .lload 5, 2, .lload 5, 0)]
def m_X10_toSpare_r3 : List mj_I := [(97, .lstore_n 2, 1, .lstore_n 2, 0), (98, .iinc 4 1, 3, .iinc 4 1, 0), (101, .goto (-75), 3, .goto (-75), 0), (104, .aload_n 0, 1, .aload_n 0, 0), (105, .iload_n 1, 1, .iload_n 1, 0), (106, .invokevirtual 42026, 3, .invokevirtual 65, 1524), (109, .ireturn, 1, .ireturn, 0)]
def m_X10_toSpare_E : List (List mj_I) := [m_X10_toSpare_r0, m_X10_toSpare_r1, m_X10_toSpare_r2, m_X10_toSpare_r3]
def m_X10_toSpare : mj_M := (yX10_toSpare, cX10_toSpare, 7, (some .int), m_X10_toSpare_E)
def m_X10_fitting_r0 : List mj_I := [(0, .aload_n 0, 1, .aload_n 0, 0), (1, .invokevirtual 51226, 3, .invokevirtual 335, 1556), (4, .aload_n 0, 1, .aload_n 0, 0), (5, .iconst 0, 1, .iconst 0, 0), (6, .putfield 674, 3, .putfield 377, 1241), (9, .aload_n 0, 1, .aload_n 0, 0), (10, .aload_n 0, 1, .aload_n 0, 0), (11, .invokevirtual 50970, 3, .invokevirtual 308, 1576), (14, .putfield 675, 3, .putfield 380, 1242), (17, .iconst 0, 1, .iconst 0, 0), (18, .istore_n 1, 1, .istore_n 1, 0), (19, .iload_n 1, 1, .iload_n 1, 0), (20, .bipush 18, 2, .bipush 18, 0), (22, .if_icmp .ge 16, 3, .if_icmp .ge 16, 0), (25, .aload_n 0, 1, .aload_n 0, 0), (26, .getfield 673, 3, .getfield 52, 1240), (29, .iload_n 1, 1, .iload_n 1, 0), (30, .iconst 0, 1, .iconst 0, 0), (31, .iastore, 1, .iastore, 0)]
def m_X10_fitting_r1 : List mj_I := [(32, .iinc 1 1, 3, .iinc 1 1, 0), (35, .goto (-16), 3, .goto (-16), 0), (38, .aload_n 0, 1, .aload_n 0, 0), (39, .invokevirtual 52762, 3, .invokevirtual 317, 1615), (42, .iconst 1, 1, .iconst 1, 0), (43, .istore_n 1, 1, .istore_n 1, 0), (44, .iload_n 1, 1, .iload_n 1, 0), (45, .ifCond .eq 139, 3, .ifCond .eq 139, 0), (48, .aload_n 0, 1, .aload_n 0, 0), (49, .invokevirtual 51738, 3, .invokevirtual 320, 1584), (52, .iconst 1, 1, .iconst 1, 0), (53, .istore_n 2, 1, .istore_n 2, 0), (54, .iconst 0, 1, .iconst 0, 0), (55, .istore_n 3, 1, .istore_n 3, 0), (56, .iload_n 3, 1, .iload_n 3, 0), (57, .aload_n 0, 1, .aload_n 0, 0), (58, .getfield 643, 3, .getfield 279, 1210), (61, .getfield 579, 3, .getfield 264, 1350)]
def m_X10_fitting_r2 : List mj_I := [(64, .if_icmp .ge 38, 3, .if_icmp .ge 38, 0), (67, .iload_n 2, 1, .iload_n 2, 0), (68, .ifCond .eq 26, 3, .ifCond .eq 26, 0), (71, .aload_n 0, 1, .aload_n 0, 0), (72, .getfield 666, 3, .getfield 293, 1233), (75, .aload_n 0, 1, .aload_n 0, 0), (76, .getfield 643, 3, .getfield 279, 1210), (79, .getfield 590, 3, .getfield 269, 1369), (82, .iload_n 3, 1, .iload_n 3, 0), (83, .iaload, 1, .iaload, 0), (84, .invokestatic 42794, 3, .invokestatic 246, 1498), (87, .ifCond .eq 7, 3, .ifCond .eq 7, 0), (90, .iconst 1, 1, .iconst 1, 0), (91, .goto 4, 3, .goto 4, 0), (94, .iconst 0, 1, .iconst 0, 0), (95, .istore_n 2, 1, .istore_n 2, 0)]
def m_X10_fitting_r3 : List mj_I := [(96, .iinc 3 1, 3, .iinc 3 1, 0), (99, .goto (-43), 3, .goto (-43), 0), (102, .iload_n 2, 1, .iload_n 2, 0), (103, .ifCond .eq 73, 3, .ifCond .eq 73, 0), (106, .aload_n 0, 1, .aload_n 0, 0), (107, .dup, 1, .dup, 0), (108, .getfield 674, 3, .getfield 377, 1241), (111, .iconst 1, 1, .iconst 1, 0), (112, .iadd, 1, .iadd, 0), (113, .putfield 674, 3, .putfield 377, 1241), (116, .aload_n 0, 1, .aload_n 0, 0), (117, .dup, 1, .dup, 0), (118, .getfield 675, 3, .getfield 380, 1242), (121, .aload_n 0, 1, .aload_n 0, 0), (122, .getfield 665, 3, .getfield 290, 1232), (125, .iand, 1, .iand, 0), (126, .putfield 675, 3, .putfield 380, 1242)]
def m_X10_fitting_r4 : List mj_I := [(129, .iconst 0, 1, .iconst 0, 0), (130, .istore_n 3, 1, .istore_n 3, 0), (131, .iload_n 3, 1, .iload_n 3, 0), (132, .aload_n 0, 1, .aload_n 0, 0), (133, .getfield 643, 3, .getfield 279, 1210), (136, .getfield 579, 3, .getfield 264, 1350), (139, .if_icmp .ge 37, 3, .if_icmp .ge 37, 0), (142, .aload_n 0, 1, .aload_n 0, 0), (143, .getfield 673, 3, .getfield 52, 1240), (146, .bipush 6, 2, .bipush 6, 0), (148, .iload_n 3, 1, .iload_n 3, 0), (149, .imul, 1, .imul, 0), (150, .aload_n 0, 1, .aload_n 0, 0), (151, .getfield 663, 3, .getfield 36, 1230), (154, .aload_n 0, 1, .aload_n 0, 0), (155, .getfield 643, 3, .getfield 279, 1210), (158, .getfield 590, 3, .getfield 269, 1369)]
def m_X10_fitting_r5 : List mj_I := [(161, .iload_n 3, 1, .iload_n 3, 0), (162, .iaload, 1, .iaload, 0), (163, .iaload, 1, .iaload, 0), (164, .iadd, 1, .iadd, 0), (165, .dup2, 1, .dup2, 0), (166, .iaload, 1, .iaload, 0), (167, .iconst 1, 1, .iconst 1, 0), (168, .iadd, 1, .iadd, 0), (169, .iastore, 1, .iastore, 0), (170, .iinc 3 1, 3, .iinc 3 1, 0), (173, .goto (-42), 3, .goto (-42), 0), (176, .aload_n 0, 1, .aload_n 0, 0), (177, .invokevirtual 53018, 3, .invokevirtual 329, 1623), (180, .istore_n 1, 1, .istore_n 1, 0), (181, .goto (-137), 3, .goto (-137), 0), (184, .aload_n 0, 1, .aload_n 0, 0), (185, .getfield 674, 3, .getfield 377, 1241), (188, .ifCond .ne 8, 3, .ifCond .ne 8, 0), (191, .aload_n 0, 1, .aload_n 0, 0)]
def m_X10_fitting_r6 : List mj_I := [(192, .iconst 0, 1, .iconst 0, 0), (193, .putfield 675, 3, .putfield 380, 1242), (196, .return_, 1, .return_, 0)]
def m_X10_fitting_E : List (List mj_I) := [m_X10_fitting_r0, m_X10_fitting_r1, m_X10_fitting_r2, m_X10_fitting_r3, m_X10_fitting_r4, m_X10_fitting_r5, m_X10_fitting_r6]
def m_X10_fitting : mj_M := (yX10_fitting, cX10_fitting, 4, none, m_X10_fitting_E)
def m_X10_rows_r0 : List mj_I := [(0, .aload_n 0, 1, .aload_n 0, 0), (1, .iconst 0, 1, .iconst 0, 0), (2, .putfield 640, 3, .putfield 55, 1207), (5, .aload_n 0, 1, .aload_n 0, 0), (6, .getfield 643, 3, .getfield 279, 1210), (9, .ifnonnull 9, 3, .ifnonnull 9, 0), (12, .aload_n 0, 1, .aload_n 0, 0), (13, .iconst 1, 1, .iconst 1, 0), (14, .invokevirtual 41258, 3, .invokevirtual 61, 1334), (17, .ireturn, 1, .ireturn, 0), (18, .aload_n 0, 1, .aload_n 0, 0), (19, .invokevirtual 61978, 3, .invokevirtual 383, 1726), (22, .aload_n 0, 1, .aload_n 0, 0), (23, .aload_n 0, 1, .aload_n 0, 0), (24, .getfield 674, 3, .getfield 377, 1241), (27, .invokevirtual 42026, 3, .invokevirtual 65, 1524), (30, .ireturn, 1, .ireturn, 0)]
def m_X10_rows_E : List (List mj_I) := [m_X10_rows_r0]
def m_X10_rows : mj_M := (yX10_rows, cX10_rows, 1, (some .int), m_X10_rows_E)
def m_X10_isTold_r0 : List mj_I := [(0, .aload_n 0, 1, .aload_n 0, 0), (1, .getfield 643, 3, .getfield 279, 1210), (4, .ifnull 22, 3, .ifnull 22, 0), (7, .iload_n 1, 1, .iload_n 1, 0), (8, .ifCond .lt 18, 3, .ifCond .lt 18, 0), (11, .iload_n 1, 1, .iload_n 1, 0), (12, .aload_n 0, 1, .aload_n 0, 0), (13, .getfield 643, 3, .getfield 279, 1210), (16, .getfield 579, 3, .getfield 264, 1350), (19, .if_icmp .ge 7, 3, .if_icmp .ge 7, 0), (22, .iconst 1, 1, .iconst 1, 0), (23, .goto 4, 3, .goto 4, 0), (26, .iconst 0, 1, .iconst 0, 0), (27, .ireturn, 1, .ireturn, 0)]
def m_X10_isTold_E : List (List mj_I) := [m_X10_isTold_r0]
def m_X10_isTold : mj_M := (yX10_isTold, cX10_isTold, 2, (some .boolean), m_X10_isTold_E)
def m_X10_couldBe_r0 : List mj_I := [(0, .iconst 0, 1, .iconst 0, 0), (1, .istore_n 2, 1, .istore_n 2, 0), (2, .iconst 0, 1, .iconst 0, 0), (3, .istore_n 3, 1, .istore_n 3, 0), (4, .iload_n 3, 1, .iload_n 3, 0), (5, .aload_n 0, 1, .aload_n 0, 0), (6, .getfield 643, 3, .getfield 279, 1210), (9, .getfield 577, 3, .getfield 188, 1347), (12, .if_icmp .ge 33, 3, .if_icmp .ge 33, 0), (15, .iload_n 2, 1, .iload_n 2, 0), (16, .aload_n 0, 1, .aload_n 0, 0), (17, .getfield 673, 3, .getfield 52, 1240), (20, .bipush 6, 2, .bipush 6, 0), (22, .iload_n 1, 1, .iload_n 1, 0), (23, .imul, 1, .imul, 0), (24, .iload_n 3, 1, .iload_n 3, 0), (25, .iadd, 1, .iadd, 0), (26, .iaload, 1, .iaload, 0), (27, .ifCond .le 9, 3, .ifCond .le 9, 0), (30, .iconst 1, 1, .iconst 1, 0), (31, .iload_n 3, 1, .iload_n 3, 0)]
def m_X10_couldBe_r1 : List mj_I := [(32, .ishl, 1, .ishl, 0), (33, .goto 4, 3, .goto 4, 0), (36, .iconst 0, 1, .iconst 0, 0), (37, .ior, 1, .ior, 0), (38, .istore_n 2, 1, .istore_n 2, 0), (39, .iinc 3 1, 3, .iinc 3 1, 0), (42, .goto (-38), 3, .goto (-38), 0), (45, .iload_n 2, 1, .iload_n 2, 0), (46, .ireturn, 1, .ireturn, 0)]
def m_X10_couldBe_E : List (List mj_I) := [m_X10_couldBe_r0, m_X10_couldBe_r1]
def m_X10_couldBe : mj_M := (yX10_couldBe, cX10_couldBe, 4, (some .int), m_X10_couldBe_E)
def m_X10_could_r0 : List mj_I := [(0, .aload_n 0, 1, .aload_n 0, 0), (1, .iconst 0, 1, .iconst 0, 0), (2, .putfield 640, 3, .putfield 55, 1207), (5, .aload_n 0, 1, .aload_n 0, 0), (6, .iload_n 1, 1, .iload_n 1, 0), (7, .invokevirtual 62506, 3, .invokevirtual 386, 1734), (10, .ifCond .ne 9, 3, .ifCond .ne 9, 0), (13, .aload_n 0, 1, .aload_n 0, 0), (14, .iconst 1, 1, .iconst 1, 0), (15, .invokevirtual 41258, 3, .invokevirtual 61, 1334), (18, .ireturn, 1, .ireturn, 0), (19, .aload_n 0, 1, .aload_n 0, 0), (20, .invokevirtual 61978, 3, .invokevirtual 383, 1726), (23, .aload_n 0, 1, .aload_n 0, 0), (24, .aload_n 0, 1, .aload_n 0, 0), (25, .iload_n 1, 1, .iload_n 1, 0), (26, .invokevirtual 62762, 3, .invokevirtual 389, 1738), (29, .invokevirtual 42026, 3, .invokevirtual 65, 1524)]
def m_X10_could_r1 : List mj_I := [(32, .ireturn, 1, .ireturn, 0)]
def m_X10_could_E : List (List mj_I) := [m_X10_could_r0, m_X10_could_r1]
def m_X10_could : mj_M := (yX10_could, cX10_could, 2, (some .int), m_X10_could_E)
def m_X10_surely_r0 : List mj_I := [(0, .aload_n 0, 1, .aload_n 0, 0), (1, .iconst 0, 1, .iconst 0, 0), (2, .putfield 640, 3, .putfield 55, 1207), (5, .aload_n 0, 1, .aload_n 0, 0), (6, .iload_n 1, 1, .iload_n 1, 0), (7, .invokevirtual 62506, 3, .invokevirtual 386, 1734), (10, .ifCond .ne 9, 3, .ifCond .ne 9, 0), (13, .aload_n 0, 1, .aload_n 0, 0), (14, .iconst 1, 1, .iconst 1, 0), (15, .invokevirtual 41258, 3, .invokevirtual 61, 1334), (18, .ireturn, 1, .ireturn, 0), (19, .aload_n 0, 1, .aload_n 0, 0), (20, .invokevirtual 61978, 3, .invokevirtual 383, 1726), (23, .iconst 0, 1, .iconst 0, 0), (24, .istore_n 2, 1, .istore_n 2, 0), (25, .iload_n 2, 1, .iload_n 2, 0), (26, .aload_n 0, 1, .aload_n 0, 0), (27, .getfield 643, 3, .getfield 279, 1210), (30, .getfield 577, 3, .getfield 188, 1347)]
def m_X10_surely_r1 : List mj_I := [(33, .if_icmp .ge 26, 3, .if_icmp .ge 26, 0), (36, .aload_n 0, 1, .aload_n 0, 0), (37, .iload_n 1, 1, .iload_n 1, 0), (38, .invokevirtual 62762, 3, .invokevirtual 389, 1738), (41, .iconst 1, 1, .iconst 1, 0), (42, .iload_n 2, 1, .iload_n 2, 0), (43, .ishl, 1, .ishl, 0), (44, .if_icmp .ne 9, 3, .if_icmp .ne 9, 0), (47, .aload_n 0, 1, .aload_n 0, 0), (48, .iload_n 2, 1, .iload_n 2, 0), (49, .invokevirtual 42026, 3, .invokevirtual 65, 1524), (52, .ireturn, 1, .ireturn, 0), (53, .iinc 2 1, 3, .iinc 2 1, 0), (56, .goto (-31), 3, .goto (-31), 0), (59, .aload_n 0, 1, .aload_n 0, 0), (60, .bipush (-2), 2, .bipush (-2), 0), (62, .invokevirtual 42026, 3, .invokevirtual 65, 1524)]
def m_X10_surely_r2 : List mj_I := [(65, .ireturn, 1, .ireturn, 0)]
def m_X10_surely_E : List (List mj_I) := [m_X10_surely_r0, m_X10_surely_r1, m_X10_surely_r2]
def m_X10_surely : mj_M := (yX10_surely, cX10_surely, 3, (some .int), m_X10_surely_E)
def m_X10_toAsk_r0 : List mj_I := [(0, .aload_n 0, 1, .aload_n 0, 0), (1, .invokevirtual 61978, 3, .invokevirtual 383, 1726), (4, .bipush (-2), 2, .bipush (-2), 0), (6, .istore_n 1, 1, .istore_n 1, 0), (7, .aload_n 0, 1, .aload_n 0, 0), (8, .bipush (-2), 2, .bipush (-2), 0), (10, .putfield 676, 3, .putfield 392, 1243), (13, .iconst 0, 1, .iconst 0, 0), (14, .istore_n 2, 1, .istore_n 2, 0), (15, .iload_n 2, 1, .iload_n 2, 0), (16, .aload_n 0, 1, .aload_n 0, 0), (17, .getfield 643, 3, .getfield 279, 1210), (20, .getfield 579, 3, .getfield 264, 1350), (23, .if_icmp .ge 92, 3, .if_icmp .ge 92, 0), (26, .aload_n 0, 1, .aload_n 0, 0), (27, .getfield 674, 3, .getfield 377, 1241), (30, .ifCond .le 85, 3, .ifCond .le 85, 0)]
def m_X10_toAsk_r1 : List mj_I := [(33, .iconst 0, 1, .iconst 0, 0), (34, .istore_n 3, 1, .istore_n 3, 0), (35, .iconst 0, 1, .iconst 0, 0), (36, .istore 4, 2, .istore 4, 0), (38, .iload 4, 2, .iload 4, 0), (40, .aload_n 0, 1, .aload_n 0, 0), (41, .getfield 643, 3, .getfield 279, 1210), (44, .getfield 577, 3, .getfield 188, 1347), (47, .if_icmp .ge 38, 3, .if_icmp .ge 38, 0), (50, .aload_n 0, 1, .aload_n 0, 0), (51, .getfield 673, 3, .getfield 52, 1240), (54, .bipush 6, 2, .bipush 6, 0), (56, .iload_n 2, 1, .iload_n 2, 0), (57, .imul, 1, .imul, 0), (58, .iload 4, 2, .iload 4, 0), (60, .iadd, 1, .iadd, 0), (61, .iaload, 1, .iaload, 0), (62, .iload_n 3, 1, .iload_n 3, 0), (63, .if_icmp .le 16, 3, .if_icmp .le 16, 0)]
def m_X10_toAsk_r2 : List mj_I := [(66, .aload_n 0, 1, .aload_n 0, 0), (67, .getfield 673, 3, .getfield 52, 1240), (70, .bipush 6, 2, .bipush 6, 0), (72, .iload_n 2, 1, .iload_n 2, 0), (73, .imul, 1, .imul, 0), (74, .iload 4, 2, .iload 4, 0), (76, .iadd, 1, .iadd, 0), (77, .iaload, 1, .iaload, 0), (78, .istore_n 3, 1, .istore_n 3, 0), (79, .iinc 4 1, 3, .iinc 4 1, 0), (82, .goto (-44), 3, .goto (-44), 0), (85, .iload_n 1, 1, .iload_n 1, 0), (86, .bipush (-2), 2, .bipush (-2), 0), (88, .if_icmp .eq 14, 3, .if_icmp .eq 14, 0), (91, .iload_n 3, 1, .iload_n 3, 0), (92, .aload_n 0, 1, .aload_n 0, 0), (93, .getfield 676, 3, .getfield 392, 1243)]
def m_X10_toAsk_r3 : List mj_I := [(96, .if_icmp .lt 6, 3, .if_icmp .lt 6, 0), (99, .goto 10, 3, .goto 10, 0), (102, .iload_n 2, 1, .iload_n 2, 0), (103, .istore_n 1, 1, .istore_n 1, 0), (104, .aload_n 0, 1, .aload_n 0, 0), (105, .iload_n 3, 1, .iload_n 3, 0), (106, .putfield 676, 3, .putfield 392, 1243), (109, .iinc 2 1, 3, .iinc 2 1, 0), (112, .goto (-97), 3, .goto (-97), 0), (115, .iload_n 1, 1, .iload_n 1, 0), (116, .ireturn, 1, .ireturn, 0)]
def m_X10_toAsk_E : List (List mj_I) := [m_X10_toAsk_r0, m_X10_toAsk_r1, m_X10_toAsk_r2, m_X10_toAsk_r3]
def m_X10_toAsk : mj_M := (yX10_toAsk, cX10_toAsk, 5, (some .int), m_X10_toAsk_E)
def m_X10_ask_r0 : List mj_I := [(0, .aload_n 0, 1, .aload_n 0, 0), (1, .iconst 0, 1, .iconst 0, 0), (2, .putfield 640, 3, .putfield 55, 1207), (5, .aload_n 0, 1, .aload_n 0, 0), (6, .getfield 643, 3, .getfield 279, 1210), (9, .ifnonnull 11, 3, .ifnonnull 11, 0), (12, .aload_n 0, 1, .aload_n 0, 0), (13, .iconst 1, 1, .iconst 1, 0), (14, .invokevirtual 41258, 3, .invokevirtual 61, 1334), (17, .goto 11, 3, .goto 11, 0), (20, .aload_n 0, 1, .aload_n 0, 0), (21, .aload_n 0, 1, .aload_n 0, 0), (22, .invokevirtual 63514, 3, .invokevirtual 395, 1750), (25, .invokevirtual 42026, 3, .invokevirtual 65, 1524), (28, .ireturn, 1, .ireturn, 0)]
def m_X10_ask_E : List (List mj_I) := [m_X10_ask_r0]
def m_X10_ask : mj_M := (yX10_ask, cX10_ask, 1, (some .int), m_X10_ask_E)
def m_X10_askLeaves_r0 : List mj_I := [(0, .aload_n 0, 1, .aload_n 0, 0), (1, .iconst 0, 1, .iconst 0, 0), (2, .putfield 640, 3, .putfield 55, 1207), (5, .aload_n 0, 1, .aload_n 0, 0), (6, .getfield 643, 3, .getfield 279, 1210), (9, .ifnonnull 9, 3, .ifnonnull 9, 0), (12, .aload_n 0, 1, .aload_n 0, 0), (13, .iconst 1, 1, .iconst 1, 0), (14, .invokevirtual 41258, 3, .invokevirtual 61, 1334), (17, .ireturn, 1, .ireturn, 0), (18, .aload_n 0, 1, .aload_n 0, 0), (19, .invokevirtual 63514, 3, .invokevirtual 395, 1750), (22, .pop, 1, .pop, 0), (23, .aload_n 0, 1, .aload_n 0, 0), (24, .aload_n 0, 1, .aload_n 0, 0), (25, .getfield 676, 3, .getfield 392, 1243), (28, .invokevirtual 42026, 3, .invokevirtual 65, 1524), (31, .ireturn, 1, .ireturn, 0)]
def m_X10_askLeaves_E : List (List mj_I) := [m_X10_askLeaves_r0]
def m_X10_askLeaves : mj_M := (yX10_askLeaves, cX10_askLeaves, 1, (some .int), m_X10_askLeaves_E)
def m_X10_surelyTaken_r0 : List mj_I := [(0, .aload_n 0, 1, .aload_n 0, 0), (1, .iconst 0, 1, .iconst 0, 0), (2, .putfield 640, 3, .putfield 55, 1207), (5, .aload_n 0, 1, .aload_n 0, 0), (6, .getfield 643, 3, .getfield 279, 1210), (9, .ifnonnull 9, 3, .ifnonnull 9, 0), (12, .aload_n 0, 1, .aload_n 0, 0), (13, .iconst 1, 1, .iconst 1, 0), (14, .invokevirtual 41258, 3, .invokevirtual 61, 1334), (17, .ireturn, 1, .ireturn, 0), (18, .aload_n 0, 1, .aload_n 0, 0), (19, .invokevirtual 61978, 3, .invokevirtual 383, 1726), (22, .aload_n 0, 1, .aload_n 0, 0), (23, .aload_n 0, 1, .aload_n 0, 0), (24, .getfield 675, 3, .getfield 380, 1242), (27, .invokevirtual 42026, 3, .invokevirtual 65, 1524), (30, .ireturn, 1, .ireturn, 0)]
def m_X10_surelyTaken_E : List (List mj_I) := [m_X10_surelyTaken_r0]
def m_X10_surelyTaken : mj_M := (yX10_surelyTaken, cX10_surelyTaken, 1, (some .int), m_X10_surelyTaken_E)
def m_X10_refusesDoctor_r0 : List mj_I := [(0, .aload_n 0, 1, .aload_n 0, 0), (1, .getfield 643, 3, .getfield 279, 1210), (4, .ifnonnull 7, 3, .ifnonnull 7, 0), (7, .iconst 1, 1, .iconst 1, 0), (8, .goto 20, 3, .goto 20, 0), (11, .aload_n 0, 1, .aload_n 0, 0), (12, .getfield 643, 3, .getfield 279, 1210), (15, .getfield 581, 3, .getfield 252, 1353), (18, .iconst (-1), 1, .iconst (-1), 0), (19, .if_icmp .ne 8, 3, .if_icmp .ne 8, 0), (22, .bipush 6, 2, .bipush 6, 0), (24, .goto 4, 3, .goto 4, 0), (27, .iconst 0, 1, .iconst 0, 0), (28, .ireturn, 1, .ireturn, 0)]
def m_X10_refusesDoctor_E : List (List mj_I) := [m_X10_refusesDoctor_r0]
def m_X10_refusesDoctor : mj_M := (yX10_refusesDoctor, cX10_refusesDoctor, 1, (some .int), m_X10_refusesDoctor_E)
def m_X10_believed_r0 : List mj_I := [(0, .aload_n 0, 1, .aload_n 0, 0), (1, .iconst 0, 1, .iconst 0, 0), (2, .putfield 640, 3, .putfield 55, 1207), (5, .aload_n 0, 1, .aload_n 0, 0), (6, .invokevirtual 64538, 3, .invokevirtual 398, 1766), (9, .istore_n 3, 1, .istore_n 3, 0), (10, .iload_n 3, 1, .iload_n 3, 0), (11, .ifCond .le 10, 3, .ifCond .le 10, 0), (14, .aload_n 0, 1, .aload_n 0, 0), (15, .iload_n 3, 1, .iload_n 3, 0), (16, .invokevirtual 41258, 3, .invokevirtual 61, 1334), (19, .i2l, 1, .i2l, 0), (20, .lreturn, 1, .lreturn, 0), (21, .aload_n 0, 1, .aload_n 0, 0), (22, .getfield 643, 3, .getfield 279, 1210), (25, .getfield 583, 3, .getfield 262, 1355), (28, .i2l, 1, .i2l, 0), (29, .iload_n 1, 1, .iload_n 1, 0), (30, .ifCond .eq 13, 3, .ifCond .eq 13, 0)]
def m_X10_believed_r1 : List mj_I := [(33, .aload_n 0, 1, .aload_n 0, 0), (34, .getfield 643, 3, .getfield 279, 1210), (37, .getfield 581, 3, .getfield 252, 1353), (40, .goto 13, 3, .goto 13, 0), (43, .bipush 100, 2, .bipush 100, 0), (45, .aload_n 0, 1, .aload_n 0, 0), (46, .getfield 643, 3, .getfield 279, 1210), (49, .getfield 581, 3, .getfield 252, 1353), (52, .isub, 1, .isub, 0), (53, .i2l, 1, .i2l, 0), (54, .lmul, 1, .lmul, 0), (55, .lstore 4, 2, .lstore 4, 0), (57, .lload 4, 2, .lload 4, 0), (59, .bipush 100, 2, .bipush 100, 0), (61, .aload_n 0, 1, .aload_n 0, 0), (62, .getfield 643, 3, .getfield 279, 1210)]
def m_X10_believed_r2 : List mj_I := [(65, .getfield 583, 3, .getfield 262, 1355), (68, .isub, 1, .isub, 0), (69, .i2l, 1, .i2l, 0), (70, .iload_n 1, 1, .iload_n 1, 0), (71, .ifCond .eq 13, 3, .ifCond .eq 13, 0), (74, .aload_n 0, 1, .aload_n 0, 0), (75, .getfield 643, 3, .getfield 279, 1210), (78, .getfield 582, 3, .getfield 260, 1354), (81, .goto 13, 3, .goto 13, 0), (84, .bipush 100, 2, .bipush 100, 0), (86, .aload_n 0, 1, .aload_n 0, 0), (87, .getfield 643, 3, .getfield 279, 1210), (90, .getfield 582, 3, .getfield 260, 1354), (93, .isub, 1, .isub, 0), (94, .i2l, 1, .i2l, 0), (95, .lmul, 1, .lmul, 0)]
def m_X10_believed_r3 : List mj_I := [(96, .ladd, 1, .ladd, 0), (97, .lstore 6, 2, .lstore 6, 0), (99, .lload 6, 2, .lload 6, 0), (101, .lconst 0, 1, .lconst 0, 0), (102, .lcmp, 1, .lcmp, 0), (103, .ifCond .ne 13, 3, .ifCond .ne 13, 0), (106, .aload_n 0, 1, .aload_n 0, 0), (107, .lconst 0, 1, .lconst 0, 0), (108, .lconst 1, 1, .lconst 1, 0), (109, .iload_n 2, 1, .iload_n 2, 0), (110, .invokevirtual 43594, 3, .invokevirtual 360, 1651), (113, .goto 12, 3, .goto 12, 0), (116, .aload_n 0, 1, .aload_n 0, 0), (117, .lload 4, 2, .lload 4, 0), (119, .lload 6, 2, .lload 6, 0), (121, .iload_n 2, 1, .iload_n 2, 0), (122, .invokevirtual 43594, 3, .invokevirtual 360, 1651), (125, .lreturn, 1, .lreturn, 0)]
def m_X10_believed_E : List (List mj_I) := [m_X10_believed_r0, m_X10_believed_r1, m_X10_believed_r2, m_X10_believed_r3]
def m_X10_believed : mj_M := (yX10_believed, cX10_believed, 8, (some .long), m_X10_believed_E)
def m_X10_wrong_r0 : List mj_I := [(0, .aload_n 0, 1, .aload_n 0, 0), (1, .iconst 0, 1, .iconst 0, 0), (2, .putfield 640, 3, .putfield 55, 1207), (5, .aload_n 0, 1, .aload_n 0, 0), (6, .invokevirtual 64538, 3, .invokevirtual 398, 1766), (9, .istore_n 2, 1, .istore_n 2, 0), (10, .iload_n 2, 1, .iload_n 2, 0), (11, .ifCond .le 10, 3, .ifCond .le 10, 0), (14, .aload_n 0, 1, .aload_n 0, 0), (15, .iload_n 2, 1, .iload_n 2, 0), (16, .invokevirtual 41258, 3, .invokevirtual 61, 1334), (19, .i2l, 1, .i2l, 0), (20, .lreturn, 1, .lreturn, 0), (21, .aload_n 0, 1, .aload_n 0, 0), (22, .aload_n 0, 1, .aload_n 0, 0), (23, .getfield 643, 3, .getfield 279, 1210), (26, .getfield 583, 3, .getfield 262, 1355), (29, .i2l, 1, .i2l, 0), (30, .bipush 100, 2, .bipush 100, 0)]
def m_X10_wrong_r1 : List mj_I := [(32, .aload_n 0, 1, .aload_n 0, 0), (33, .getfield 643, 3, .getfield 279, 1210), (36, .getfield 581, 3, .getfield 252, 1353), (39, .isub, 1, .isub, 0), (40, .i2l, 1, .i2l, 0), (41, .lmul, 1, .lmul, 0), (42, .bipush 100, 2, .bipush 100, 0), (44, .aload_n 0, 1, .aload_n 0, 0), (45, .getfield 643, 3, .getfield 279, 1210), (48, .getfield 583, 3, .getfield 262, 1355), (51, .isub, 1, .isub, 0), (52, .i2l, 1, .i2l, 0), (53, .aload_n 0, 1, .aload_n 0, 0), (54, .getfield 643, 3, .getfield 279, 1210), (57, .getfield 582, 3, .getfield 260, 1354), (60, .i2l, 1, .i2l, 0), (61, .lmul, 1, .lmul, 0), (62, .ladd, 1, .ladd, 0), (63, .ldc2_w 10000, 3, .ldc2_w 401, 1774)]
def m_X10_wrong_r2 : List mj_I := [(66, .iload_n 1, 1, .iload_n 1, 0), (67, .invokevirtual 43594, 3, .invokevirtual 360, 1651), (70, .lreturn, 1, .lreturn, 0)]
def m_X10_wrong_E : List (List mj_I) := [m_X10_wrong_r0, m_X10_wrong_r1, m_X10_wrong_r2]
def m_X10_wrong : mj_M := (yX10_wrong, cX10_wrong, 3, (some .long), m_X10_wrong_E)
def m_X10_least_r0 : List mj_I := [(0, .iload_n 0, 1, .iload_n 0, 0), (1, .iload_n 1, 1, .iload_n 1, 0), (2, .if_icmp .ge 7, 3, .if_icmp .ge 7, 0), (5, .iload_n 0, 1, .iload_n 0, 0), (6, .goto 4, 3, .goto 4, 0), (9, .iload_n 1, 1, .iload_n 1, 0), (10, .ireturn, 1, .ireturn, 0)]
def m_X10_least_E : List (List mj_I) := [m_X10_least_r0]
def m_X10_least : mj_M := (yX10_least, cX10_least, 2, (some .int), m_X10_least_E)
def m_X10_gets_r0 : List mj_I := [(0, .iload_n 1, 1, .iload_n 1, 0), (1, .iload_n 2, 1, .iload_n 2, 0), (2, .if_icmp .ge 11, 3, .if_icmp .ge 11, 0), (5, .iconst 3, 1, .iconst 3, 0), (6, .iload_n 0, 1, .iload_n 0, 0), (7, .invokestatic 65322, 3, .invokestatic 403, 1790), (10, .goto 29, 3, .goto 29, 0), (13, .iload_n 1, 1, .iload_n 1, 0), (14, .iload_n 2, 1, .iload_n 2, 0), (15, .if_icmp .ne 13, 3, .if_icmp .ne 13, 0), (18, .iconst 3, 1, .iconst 3, 0), (19, .iload_n 0, 1, .iload_n 0, 0), (20, .iconst 2, 1, .iconst 2, 0), (21, .idiv, 1, .idiv, 0), (22, .invokestatic 65322, 3, .invokestatic 403, 1790), (25, .goto 14, 3, .goto 14, 0), (28, .iconst 3, 1, .iconst 3, 0), (29, .iload_n 0, 1, .iload_n 0, 0), (30, .iconst 3, 1, .iconst 3, 0), (31, .iload_n 0, 1, .iload_n 0, 0)]
def m_X10_gets_r1 : List mj_I := [(32, .invokestatic 65322, 3, .invokestatic 403, 1790), (35, .isub, 1, .isub, 0), (36, .invokestatic 65322, 3, .invokestatic 403, 1790), (39, .istore_n 3, 1, .istore_n 3, 0), (40, .iload_n 1, 1, .iload_n 1, 0), (41, .iconst 1, 1, .iconst 1, 0), (42, .isub, 1, .isub, 0), (43, .iload_n 3, 1, .iload_n 3, 0), (44, .imul, 1, .imul, 0), (45, .ireturn, 1, .ireturn, 0)]
def m_X10_gets_E : List (List mj_I) := [m_X10_gets_r0, m_X10_gets_r1]
def m_X10_gets : mj_M := (yX10_gets, cX10_gets, 4, (some .int), m_X10_gets_E)
def m_X10_refusesMany_r0 : List mj_I := [(0, .aload_n 0, 1, .aload_n 0, 0), (1, .getfield 643, 3, .getfield 279, 1210), (4, .ifnonnull 7, 3, .ifnonnull 7, 0), (7, .iconst 1, 1, .iconst 1, 0), (8, .goto 18, 3, .goto 18, 0), (11, .iload_n 1, 1, .iload_n 1, 0), (12, .iconst 0, 1, .iconst 0, 0), (13, .bipush 99, 2, .bipush 99, 0), (15, .invokestatic 42554, 3, .invokestatic 134, 1455), (18, .ifCond .eq 7, 3, .ifCond .eq 7, 0), (21, .iconst 0, 1, .iconst 0, 0), (22, .goto 4, 3, .goto 4, 0), (25, .iconst 2, 1, .iconst 2, 0), (26, .ireturn, 1, .ireturn, 0)]
def m_X10_refusesMany_E : List (List mj_I) := [m_X10_refusesMany_r0]
def m_X10_refusesMany : mj_M := (yX10_refusesMany, cX10_refusesMany, 2, (some .int), m_X10_refusesMany_E)
def m_X10_agent_r0 : List mj_I := [(0, .aload_n 0, 1, .aload_n 0, 0), (1, .iconst 0, 1, .iconst 0, 0), (2, .putfield 640, 3, .putfield 55, 1207), (5, .aload_n 0, 1, .aload_n 0, 0), (6, .iload_n 1, 1, .iload_n 1, 0), (7, .invokevirtual 65834, 3, .invokevirtual 406, 1779), (10, .istore 5, 2, .istore 5, 0), (12, .iload 5, 2, .iload 5, 0), (14, .ifCond .ne 26, 3, .ifCond .ne 26, 0), (17, .iload_n 2, 1, .iload_n 2, 0), (18, .iconst 0, 1, .iconst 0, 0), (19, .bipush 9, 2, .bipush 9, 0), (21, .invokestatic 42554, 3, .invokestatic 134, 1455), (24, .ifCond .eq 13, 3, .ifCond .eq 13, 0), (27, .iload_n 3, 1, .iload_n 3, 0), (28, .iconst 0, 1, .iconst 0, 0), (29, .bipush 9, 2, .bipush 9, 0), (31, .invokestatic 42554, 3, .invokestatic 134, 1455)]
def m_X10_agent_r1 : List mj_I := [(34, .ifCond .ne 6, 3, .ifCond .ne 6, 0), (37, .iconst 2, 1, .iconst 2, 0), (38, .istore 5, 2, .istore 5, 0), (40, .iload 5, 2, .iload 5, 0), (42, .ifCond .le 12, 3, .ifCond .le 12, 0), (45, .aload_n 0, 1, .aload_n 0, 0), (46, .iload 5, 2, .iload 5, 0), (48, .invokevirtual 41514, 3, .invokevirtual 409, 1783), (51, .goto 27, 3, .goto 27, 0), (54, .aload_n 0, 1, .aload_n 0, 0), (55, .iload 4, 2, .iload 4, 0), (57, .ifCond .eq 12, 3, .ifCond .eq 12, 0), (60, .iload_n 1, 1, .iload_n 1, 0), (61, .iload_n 3, 1, .iload_n 3, 0), (62, .iload_n 2, 1, .iload_n 2, 0), (63, .invokestatic 65594, 3, .invokestatic 412, 1787)]
def m_X10_agent_r2 : List mj_I := [(66, .goto 9, 3, .goto 9, 0), (69, .iload_n 1, 1, .iload_n 1, 0), (70, .iload_n 2, 1, .iload_n 2, 0), (71, .iload_n 3, 1, .iload_n 3, 0), (72, .invokestatic 65594, 3, .invokestatic 412, 1787), (75, .invokevirtual 42026, 3, .invokevirtual 65, 1524), (78, .ireturn, 1, .ireturn, 0)]
def m_X10_agent_E : List (List mj_I) := [m_X10_agent_r0, m_X10_agent_r1, m_X10_agent_r2]
def m_X10_agent : mj_M := (yX10_agent, cX10_agent, 6, (some .int), m_X10_agent_E)
def m_X10_isRest_r0 : List mj_I := [(0, .iconst 0, 1, .iconst 0, 0), (1, .istore_n 3, 1, .istore_n 3, 0), (2, .iload_n 3, 1, .iload_n 3, 0), (3, .bipush 10, 2, .bipush 10, 0), (5, .if_icmp .ge 41, 3, .if_icmp .ge 41, 0), (8, .iload_n 0, 1, .iload_n 0, 0), (9, .iload_n 3, 1, .iload_n 3, 0), (10, .iload_n 2, 1, .iload_n 2, 0), (11, .invokestatic 65594, 3, .invokestatic 412, 1787), (14, .iload_n 0, 1, .iload_n 0, 0), (15, .iload_n 1, 1, .iload_n 1, 0), (16, .iload_n 2, 1, .iload_n 2, 0), (17, .invokestatic 65594, 3, .invokestatic 412, 1787), (20, .if_icmp .gt 18, 3, .if_icmp .gt 18, 0), (23, .iload_n 0, 1, .iload_n 0, 0), (24, .iload_n 3, 1, .iload_n 3, 0), (25, .iload_n 1, 1, .iload_n 1, 0), (26, .invokestatic 65594, 3, .invokestatic 412, 1787), (29, .iload_n 0, 1, .iload_n 0, 0), (30, .iload_n 2, 1, .iload_n 2, 0), (31, .iload_n 1, 1, .iload_n 1, 0)]
def m_X10_isRest_r1 : List mj_I := [(32, .invokestatic 65594, 3, .invokestatic 412, 1787), (35, .if_icmp .le 5, 3, .if_icmp .le 5, 0), (38, .iconst 0, 1, .iconst 0, 0), (39, .ireturn, 1, .ireturn, 0), (40, .iinc 3 1, 3, .iinc 3 1, 0), (43, .goto (-41), 3, .goto (-41), 0), (46, .iconst 1, 1, .iconst 1, 0), (47, .ireturn, 1, .ireturn, 0)]
def m_X10_isRest_E : List (List mj_I) := [m_X10_isRest_r0, m_X10_isRest_r1]
def m_X10_isRest : mj_M := (yX10_isRest, cX10_isRest, 4, (some .boolean), m_X10_isRest_E)
def m_X10_rests_r0 : List mj_I := [(0, .aload_n 0, 1, .aload_n 0, 0), (1, .iconst 0, 1, .iconst 0, 0), (2, .putfield 640, 3, .putfield 55, 1207), (5, .aload_n 0, 1, .aload_n 0, 0), (6, .iload_n 1, 1, .iload_n 1, 0), (7, .invokevirtual 65834, 3, .invokevirtual 406, 1779), (10, .istore_n 2, 1, .istore_n 2, 0), (11, .iload_n 2, 1, .iload_n 2, 0), (12, .ifCond .le 9, 3, .ifCond .le 9, 0), (15, .aload_n 0, 1, .aload_n 0, 0), (16, .iload_n 2, 1, .iload_n 2, 0), (17, .invokevirtual 41258, 3, .invokevirtual 61, 1334), (20, .ireturn, 1, .ireturn, 0), (21, .iconst 0, 1, .iconst 0, 0), (22, .istore_n 3, 1, .istore_n 3, 0), (23, .iconst 0, 1, .iconst 0, 0), (24, .istore 4, 2, .istore 4, 0), (26, .iload 4, 2, .iload 4, 0), (28, .bipush 100, 2, .bipush 100, 0), (30, .if_icmp .ge 34, 3, .if_icmp .ge 34, 0)]
def m_X10_rests_r1 : List mj_I := [(33, .iload_n 3, 1, .iload_n 3, 0), (34, .iload_n 1, 1, .iload_n 1, 0), (35, .iload 4, 2, .iload 4, 0), (37, .bipush 10, 2, .bipush 10, 0), (39, .idiv, 1, .idiv, 0), (40, .iload 4, 2, .iload 4, 0), (42, .bipush 10, 2, .bipush 10, 0), (44, .irem, 1, .irem, 0), (45, .invokestatic 66362, 3, .invokestatic 416, 1797), (48, .ifCond .eq 7, 3, .ifCond .eq 7, 0), (51, .iconst 1, 1, .iconst 1, 0), (52, .goto 4, 3, .goto 4, 0), (55, .iconst 0, 1, .iconst 0, 0), (56, .iadd, 1, .iadd, 0), (57, .istore_n 3, 1, .istore_n 3, 0), (58, .iinc 4 1, 3, .iinc 4 1, 0), (61, .goto (-35), 3, .goto (-35), 0)]
def m_X10_rests_r2 : List mj_I := [(64, .aload_n 0, 1, .aload_n 0, 0), (65, .iload_n 3, 1, .iload_n 3, 0), (66, .invokevirtual 42026, 3, .invokevirtual 65, 1524), (69, .ireturn, 1, .ireturn, 0)]
def m_X10_rests_E : List (List mj_I) := [m_X10_rests_r0, m_X10_rests_r1, m_X10_rests_r2]
def m_X10_rests : mj_M := (yX10_rests, cX10_rests, 5, (some .int), m_X10_rests_E)
def m_X10_rest_r0 : List mj_I := [(0, .aload_n 0, 1, .aload_n 0, 0), (1, .iconst 0, 1, .iconst 0, 0), (2, .putfield 640, 3, .putfield 55, 1207), (5, .aload_n 0, 1, .aload_n 0, 0), (6, .iload_n 1, 1, .iload_n 1, 0), (7, .invokevirtual 65834, 3, .invokevirtual 406, 1779), (10, .istore_n 2, 1, .istore_n 2, 0), (11, .iload_n 2, 1, .iload_n 2, 0), (12, .ifCond .le 9, 3, .ifCond .le 9, 0), (15, .aload_n 0, 1, .aload_n 0, 0), (16, .iload_n 2, 1, .iload_n 2, 0), (17, .invokevirtual 41258, 3, .invokevirtual 61, 1334), (20, .ireturn, 1, .ireturn, 0), (21, .iconst 0, 1, .iconst 0, 0), (22, .istore_n 3, 1, .istore_n 3, 0), (23, .iload_n 3, 1, .iload_n 3, 0), (24, .bipush 100, 2, .bipush 100, 0), (26, .if_icmp .ge 30, 3, .if_icmp .ge 30, 0), (29, .iload_n 1, 1, .iload_n 1, 0), (30, .iload_n 3, 1, .iload_n 3, 0), (31, .bipush 10, 2, .bipush 10, 0)]
def m_X10_rest_r1 : List mj_I := [(33, .idiv, 1, .idiv, 0), (34, .iload_n 3, 1, .iload_n 3, 0), (35, .bipush 10, 2, .bipush 10, 0), (37, .irem, 1, .irem, 0), (38, .invokestatic 66362, 3, .invokestatic 416, 1797), (41, .ifCond .eq 9, 3, .ifCond .eq 9, 0), (44, .aload_n 0, 1, .aload_n 0, 0), (45, .iload_n 3, 1, .iload_n 3, 0), (46, .invokevirtual 42026, 3, .invokevirtual 65, 1524), (49, .ireturn, 1, .ireturn, 0), (50, .iinc 3 1, 3, .iinc 3 1, 0), (53, .goto (-30), 3, .goto (-30), 0), (56, .aload_n 0, 1, .aload_n 0, 0), (57, .bipush (-2), 2, .bipush (-2), 0), (59, .invokevirtual 42026, 3, .invokevirtual 65, 1524), (62, .ireturn, 1, .ireturn, 0)]
def m_X10_rest_E : List (List mj_I) := [m_X10_rest_r0, m_X10_rest_r1]
def m_X10_rest : mj_M := (yX10_rest, cX10_rest, 4, (some .int), m_X10_rest_E)
def m_X10_drawsRow_r0 : List mj_I := [(0, .aload_n 0, 1, .aload_n 0, 0), (1, .invokevirtual 52762, 3, .invokevirtual 317, 1615), (4, .aload_n 0, 1, .aload_n 0, 0), (5, .getfield 643, 3, .getfield 279, 1210), (8, .getfield 577, 3, .getfield 188, 1347), (11, .istore_n 1, 1, .istore_n 1, 0), (12, .iload_n 1, 1, .iload_n 1, 0), (13, .iconst 1, 1, .iconst 1, 0), (14, .if_icmp .le 44, 3, .if_icmp .le 44, 0), (17, .aload_n 0, 1, .aload_n 0, 0), (18, .ldc2_w 75, 3, .ldc2_w 419, 1817), (21, .aload_n 0, 1, .aload_n 0, 0), (22, .getfield 677, 3, .getfield 421, 1244), (25, .i2l, 1, .i2l, 0), (26, .lmul, 1, .lmul, 0), (27, .ldc2_w 74, 3, .ldc2_w 424, 1818), (30, .ladd, 1, .ladd, 0), (31, .ldc2_w 65537, 3, .ldc2_w 426, 1819)]
def m_X10_drawsRow_r1 : List mj_I := [(34, .lrem, 1, .lrem, 0), (35, .l2i, 1, .l2i, 0), (36, .putfield 677, 3, .putfield 421, 1244), (39, .aload_n 0, 1, .aload_n 0, 0), (40, .aload_n 0, 1, .aload_n 0, 0), (41, .getfield 677, 3, .getfield 421, 1244), (44, .iload_n 1, 1, .iload_n 1, 0), (45, .irem, 1, .irem, 0), (46, .iload_n 1, 1, .iload_n 1, 0), (47, .iconst 1, 1, .iconst 1, 0), (48, .isub, 1, .isub, 0), (49, .invokevirtual 53306, 3, .invokevirtual 305, 1627), (52, .iinc 1 (-1), 3, .iinc 1 (-1), 0), (55, .goto (-43), 3, .goto (-43), 0), (58, .return_, 1, .return_, 0)]
def m_X10_drawsRow_E : List (List mj_I) := [m_X10_drawsRow_r0, m_X10_drawsRow_r1]
def m_X10_drawsRow : mj_M := (yX10_drawsRow, cX10_drawsRow, 2, none, m_X10_drawsRow_E)
def m_X10_refusesDrafts_r0 : List mj_I := [(0, .iload_n 1, 1, .iload_n 1, 0), (1, .ifCond .ne 7, 3, .ifCond .ne 7, 0), (4, .iconst 1, 1, .iconst 1, 0), (5, .goto 29, 3, .goto 29, 0), (8, .iload_n 2, 1, .iload_n 2, 0), (9, .iconst 0, 1, .iconst 0, 0), (10, .iconst 65536, 3, .ldc_w 428, 1812), (13, .invokestatic 42554, 3, .invokestatic 134, 1455), (16, .ifCond .eq 17, 3, .ifCond .eq 17, 0), (19, .iload_n 3, 1, .iload_n 3, 0), (20, .iconst 1, 1, .iconst 1, 0), (21, .bipush 90, 2, .bipush 90, 0), (23, .invokestatic 42554, 3, .invokestatic 134, 1455), (26, .ifCond .eq 7, 3, .ifCond .eq 7, 0), (29, .iconst 0, 1, .iconst 0, 0), (30, .goto 4, 3, .goto 4, 0)]
def m_X10_refusesDrafts_r1 : List mj_I := [(33, .iconst 2, 1, .iconst 2, 0), (34, .ireturn, 1, .ireturn, 0)]
def m_X10_refusesDrafts_E : List (List mj_I) := [m_X10_refusesDrafts_r0, m_X10_refusesDrafts_r1]
def m_X10_refusesDrafts : mj_M := (yX10_refusesDrafts, cX10_refusesDrafts, 4, (some .int), m_X10_refusesDrafts_E)
def m_X10_drafts_r0 : List mj_I := [(0, .aload_n 0, 1, .aload_n 0, 0), (1, .iconst 0, 1, .iconst 0, 0), (2, .putfield 640, 3, .putfield 55, 1207), (5, .aload_n 0, 1, .aload_n 0, 0), (6, .aload_n 0, 1, .aload_n 0, 0), (7, .iload_n 1, 1, .iload_n 1, 0), (8, .invokevirtual 50730, 3, .invokevirtual 332, 1540), (11, .iload_n 2, 1, .iload_n 2, 0), (12, .iload_n 3, 1, .iload_n 3, 0), (13, .invokevirtual 67402, 3, .invokevirtual 429, 1808), (16, .istore 4, 2, .istore 4, 0), (18, .iload 4, 2, .iload 4, 0), (20, .ifCond .le 10, 3, .ifCond .le 10, 0), (23, .aload_n 0, 1, .aload_n 0, 0), (24, .iload 4, 2, .iload 4, 0), (26, .invokevirtual 41258, 3, .invokevirtual 61, 1334), (29, .ireturn, 1, .ireturn, 0), (30, .aload_n 0, 1, .aload_n 0, 0), (31, .invokevirtual 51226, 3, .invokevirtual 335, 1556)]
def m_X10_drafts_r1 : List mj_I := [(34, .aload_n 0, 1, .aload_n 0, 0), (35, .iload_n 2, 1, .iload_n 2, 0), (36, .putfield 677, 3, .putfield 421, 1244), (39, .iconst 0, 1, .iconst 0, 0), (40, .istore 5, 2, .istore 5, 0), (42, .iconst 0, 1, .iconst 0, 0), (43, .istore 6, 2, .istore 6, 0), (45, .iload 6, 2, .iload 6, 0), (47, .iload_n 3, 1, .iload_n 3, 0), (48, .if_icmp .ge 38, 3, .if_icmp .ge 38, 0), (51, .aload_n 0, 1, .aload_n 0, 0), (52, .invokevirtual 67098, 3, .invokevirtual 433, 1813), (55, .aload_n 0, 1, .aload_n 0, 0), (56, .invokevirtual 51738, 3, .invokevirtual 320, 1584), (59, .iload 5, 2, .iload 5, 0), (61, .aload_n 0, 1, .aload_n 0, 0), (62, .getfield 665, 3, .getfield 290, 1232)]
def m_X10_drafts_r2 : List mj_I := [(65, .iload_n 1, 1, .iload_n 1, 0), (66, .invokestatic 42794, 3, .invokestatic 246, 1498), (69, .ifCond .eq 7, 3, .ifCond .eq 7, 0), (72, .iconst 1, 1, .iconst 1, 0), (73, .goto 4, 3, .goto 4, 0), (76, .iconst 0, 1, .iconst 0, 0), (77, .iadd, 1, .iadd, 0), (78, .istore 5, 2, .istore 5, 0), (80, .iinc 6 1, 3, .iinc 6 1, 0), (83, .goto (-38), 3, .goto (-38), 0), (86, .aload_n 0, 1, .aload_n 0, 0), (87, .iload 5, 2, .iload 5, 0), (89, .invokevirtual 42026, 3, .invokevirtual 65, 1524), (92, .ireturn, 1, .ireturn, 0)]
def m_X10_drafts_E : List (List mj_I) := [m_X10_drafts_r0, m_X10_drafts_r1, m_X10_drafts_r2]
def m_X10_drafts : mj_M := (yX10_drafts, cX10_drafts, 7, (some .int), m_X10_drafts_E)
def m_X10_sentIn_r0 : List mj_I := [(0, .aload_n 0, 1, .aload_n 0, 0), (1, .iconst 0, 1, .iconst 0, 0), (2, .putfield 640, 3, .putfield 55, 1207), (5, .aload_n 0, 1, .aload_n 0, 0), (6, .aload_n 0, 1, .aload_n 0, 0), (7, .iload_n 1, 1, .iload_n 1, 0), (8, .invokevirtual 50730, 3, .invokevirtual 332, 1540), (11, .iload_n 2, 1, .iload_n 2, 0), (12, .iload_n 3, 1, .iload_n 3, 0), (13, .invokevirtual 67402, 3, .invokevirtual 429, 1808), (16, .istore 4, 2, .istore 4, 0), (18, .iload 4, 2, .iload 4, 0), (20, .ifCond .le 10, 3, .ifCond .le 10, 0), (23, .aload_n 0, 1, .aload_n 0, 0), (24, .iload 4, 2, .iload 4, 0), (26, .invokevirtual 41258, 3, .invokevirtual 61, 1334), (29, .ireturn, 1, .ireturn, 0), (30, .aload_n 0, 1, .aload_n 0, 0), (31, .invokevirtual 51226, 3, .invokevirtual 335, 1556)]
def m_X10_sentIn_r1 : List mj_I := [(34, .aload_n 0, 1, .aload_n 0, 0), (35, .iload_n 2, 1, .iload_n 2, 0), (36, .putfield 677, 3, .putfield 421, 1244), (39, .iconst 0, 1, .iconst 0, 0), (40, .istore 5, 2, .istore 5, 0), (42, .iconst 0, 1, .iconst 0, 0), (43, .istore 6, 2, .istore 6, 0), (45, .iload 6, 2, .iload 6, 0), (47, .iload_n 3, 1, .iload_n 3, 0), (48, .if_icmp .ge 38, 3, .if_icmp .ge 38, 0), (51, .aload_n 0, 1, .aload_n 0, 0), (52, .invokevirtual 67098, 3, .invokevirtual 433, 1813), (55, .aload_n 0, 1, .aload_n 0, 0), (56, .invokevirtual 51738, 3, .invokevirtual 320, 1584), (59, .iload 5, 2, .iload 5, 0), (61, .aload_n 0, 1, .aload_n 0, 0), (62, .getfield 666, 3, .getfield 293, 1233)]
def m_X10_sentIn_r2 : List mj_I := [(65, .iload_n 1, 1, .iload_n 1, 0), (66, .invokestatic 42794, 3, .invokestatic 246, 1498), (69, .ifCond .eq 7, 3, .ifCond .eq 7, 0), (72, .iconst 1, 1, .iconst 1, 0), (73, .goto 4, 3, .goto 4, 0), (76, .iconst 0, 1, .iconst 0, 0), (77, .iadd, 1, .iadd, 0), (78, .istore 5, 2, .istore 5, 0), (80, .iinc 6 1, 3, .iinc 6 1, 0), (83, .goto (-38), 3, .goto (-38), 0), (86, .aload_n 0, 1, .aload_n 0, 0), (87, .iload 5, 2, .iload 5, 0), (89, .invokevirtual 42026, 3, .invokevirtual 65, 1524), (92, .ireturn, 1, .ireturn, 0)]
def m_X10_sentIn_E : List (List mj_I) := [m_X10_sentIn_r0, m_X10_sentIn_r1, m_X10_sentIn_r2]
def m_X10_sentIn : mj_M := (yX10_sentIn, cX10_sentIn, 7, (some .int), m_X10_sentIn_E)
def m_X10_lossIn_r0 : List mj_I := [(0, .aload_n 0, 1, .aload_n 0, 0), (1, .iconst 0, 1, .iconst 0, 0), (2, .putfield 640, 3, .putfield 55, 1207), (5, .aload_n 0, 1, .aload_n 0, 0), (6, .aload_n 0, 1, .aload_n 0, 0), (7, .getfield 643, 3, .getfield 279, 1210), (10, .ifnull 7, 3, .ifnull 7, 0), (13, .iconst 1, 1, .iconst 1, 0), (14, .goto 4, 3, .goto 4, 0), (17, .iconst 0, 1, .iconst 0, 0), (18, .iload_n 1, 1, .iload_n 1, 0), (19, .iload_n 2, 1, .iload_n 2, 0), (20, .invokevirtual 67402, 3, .invokevirtual 429, 1808), (23, .istore_n 3, 1, .istore_n 3, 0), (24, .iload_n 3, 1, .iload_n 3, 0), (25, .ifCond .le 9, 3, .ifCond .le 9, 0), (28, .aload_n 0, 1, .aload_n 0, 0), (29, .iload_n 3, 1, .iload_n 3, 0), (30, .invokevirtual 41258, 3, .invokevirtual 61, 1334)]
def m_X10_lossIn_r1 : List mj_I := [(33, .ireturn, 1, .ireturn, 0), (34, .aload_n 0, 1, .aload_n 0, 0), (35, .invokevirtual 51226, 3, .invokevirtual 335, 1556), (38, .aload_n 0, 1, .aload_n 0, 0), (39, .iload_n 1, 1, .iload_n 1, 0), (40, .putfield 677, 3, .putfield 421, 1244), (43, .iconst 0, 1, .iconst 0, 0), (44, .istore 4, 2, .istore 4, 0), (46, .iconst 0, 1, .iconst 0, 0), (47, .istore 5, 2, .istore 5, 0), (49, .iload 5, 2, .iload 5, 0), (51, .iload_n 2, 1, .iload_n 2, 0), (52, .if_icmp .ge 30, 3, .if_icmp .ge 30, 0), (55, .aload_n 0, 1, .aload_n 0, 0), (56, .invokevirtual 67098, 3, .invokevirtual 433, 1813), (59, .aload_n 0, 1, .aload_n 0, 0), (60, .invokevirtual 51738, 3, .invokevirtual 320, 1584), (63, .iload 4, 2, .iload 4, 0)]
def m_X10_lossIn_r2 : List mj_I := [(65, .aload_n 0, 1, .aload_n 0, 0), (66, .aload_n 0, 1, .aload_n 0, 0), (67, .invokevirtual 50970, 3, .invokevirtual 308, 1576), (70, .invokevirtual 52522, 3, .invokevirtual 326, 1643), (73, .iadd, 1, .iadd, 0), (74, .istore 4, 2, .istore 4, 0), (76, .iinc 5 1, 3, .iinc 5 1, 0), (79, .goto (-30), 3, .goto (-30), 0), (82, .aload_n 0, 1, .aload_n 0, 0), (83, .iload 4, 2, .iload 4, 0), (85, .invokevirtual 42026, 3, .invokevirtual 65, 1524), (88, .ireturn, 1, .ireturn, 0)]
def m_X10_lossIn_E : List (List mj_I) := [m_X10_lossIn_r0, m_X10_lossIn_r1, m_X10_lossIn_r2]
def m_X10_lossIn : mj_M := (yX10_lossIn, cX10_lossIn, 6, (some .int), m_X10_lossIn_E)
def m_X10_remembers_r0 : List mj_I := [(0, .aload_n 0, 1, .aload_n 0, 0), (1, .getfield 658, 3, .getfield 281, 1225), (4, .bipush 16, 2, .bipush 16, 0), (6, .if_icmp .ne 43, 3, .if_icmp .ne 43, 0), (9, .iconst 0, 1, .iconst 0, 0), (10, .istore_n 1, 1, .istore_n 1, 0), (11, .iload_n 1, 1, .iload_n 1, 0), (12, .sipush 420, 3, .sipush 420, 0), (15, .if_icmp .ge 24, 3, .if_icmp .ge 24, 0), (18, .aload_n 0, 1, .aload_n 0, 0), (19, .getfield 656, 3, .getfield 21, 1223), (22, .iload_n 1, 1, .iload_n 1, 0), (23, .aload_n 0, 1, .aload_n 0, 0), (24, .getfield 656, 3, .getfield 21, 1223), (27, .iload_n 1, 1, .iload_n 1, 0), (28, .bipush 28, 2, .bipush 28, 0), (30, .iadd, 1, .iadd, 0), (31, .iaload, 1, .iaload, 0)]
def m_X10_remembers_r1 : List mj_I := [(32, .iastore, 1, .iastore, 0), (33, .iinc 1 1, 3, .iinc 1 1, 0), (36, .goto (-25), 3, .goto (-25), 0), (39, .aload_n 0, 1, .aload_n 0, 0), (40, .dup, 1, .dup, 0), (41, .getfield 658, 3, .getfield 281, 1225), (44, .iconst 1, 1, .iconst 1, 0), (45, .isub, 1, .isub, 0), (46, .putfield 658, 3, .putfield 281, 1225), (49, .iconst 0, 1, .iconst 0, 0), (50, .istore_n 1, 1, .istore_n 1, 0), (51, .iload_n 1, 1, .iload_n 1, 0), (52, .bipush 28, 2, .bipush 28, 0), (54, .if_icmp .ge 29, 3, .if_icmp .ge 29, 0), (57, .aload_n 0, 1, .aload_n 0, 0), (58, .getfield 656, 3, .getfield 21, 1223), (61, .bipush 28, 2, .bipush 28, 0), (63, .aload_n 0, 1, .aload_n 0, 0)]
def m_X10_remembers_r2 : List mj_I := [(64, .getfield 658, 3, .getfield 281, 1225), (67, .imul, 1, .imul, 0), (68, .iload_n 1, 1, .iload_n 1, 0), (69, .iadd, 1, .iadd, 0), (70, .aload_n 0, 1, .aload_n 0, 0), (71, .getfield 655, 3, .getfield 17, 1222), (74, .iload_n 1, 1, .iload_n 1, 0), (75, .iaload, 1, .iaload, 0), (76, .iastore, 1, .iastore, 0), (77, .iinc 1 1, 3, .iinc 1 1, 0), (80, .goto (-29), 3, .goto (-29), 0), (83, .aload_n 0, 1, .aload_n 0, 0), (84, .dup, 1, .dup, 0), (85, .getfield 658, 3, .getfield 281, 1225), (88, .iconst 1, 1, .iconst 1, 0), (89, .iadd, 1, .iadd, 0), (90, .putfield 658, 3, .putfield 281, 1225), (93, .return_, 1, .return_, 0)]
def m_X10_remembers_E : List (List mj_I) := [m_X10_remembers_r0, m_X10_remembers_r1, m_X10_remembers_r2]
def m_X10_remembers : mj_M := (yX10_remembers, cX10_remembers, 2, none, m_X10_remembers_E)
def m_X10_marry_r0 : List mj_I := [(0, .aload_n 0, 1, .aload_n 0, 0), (1, .iconst 0, 1, .iconst 0, 0), (2, .putfield 640, 3, .putfield 55, 1207), (5, .aload_n 0, 1, .aload_n 0, 0), (6, .iload_n 1, 1, .iload_n 1, 0), (7, .invokevirtual 50730, 3, .invokevirtual 332, 1540), (10, .ifCond .ne 9, 3, .ifCond .ne 9, 0), (13, .aload_n 0, 1, .aload_n 0, 0), (14, .iconst 1, 1, .iconst 1, 0), (15, .invokevirtual 41770, 3, .invokevirtual 436, 1832), (18, .ireturn, 1, .ireturn, 0), (19, .aload_n 0, 1, .aload_n 0, 0), (20, .getfield 655, 3, .getfield 17, 1222), (23, .iconst 0, 1, .iconst 0, 0), (24, .iload_n 1, 1, .iload_n 1, 0), (25, .iadd, 1, .iadd, 0), (26, .iaload, 1, .iaload, 0), (27, .iconst 1, 1, .iconst 1, 0), (28, .if_icmp .ne 9, 3, .if_icmp .ne 9, 0), (31, .aload_n 0, 1, .aload_n 0, 0)]
def m_X10_marry_r1 : List mj_I := [(32, .iconst 5, 1, .iconst 5, 0), (33, .invokevirtual 41770, 3, .invokevirtual 436, 1832), (36, .ireturn, 1, .ireturn, 0), (37, .aload_n 0, 1, .aload_n 0, 0), (38, .invokevirtual 68378, 3, .invokevirtual 439, 1836), (41, .aload_n 0, 1, .aload_n 0, 0), (42, .getfield 655, 3, .getfield 17, 1222), (45, .iconst 0, 1, .iconst 0, 0), (46, .iload_n 1, 1, .iload_n 1, 0), (47, .iadd, 1, .iadd, 0), (48, .iconst 1, 1, .iconst 1, 0), (49, .iastore, 1, .iastore, 0), (50, .aload_n 0, 1, .aload_n 0, 0), (51, .invokevirtual 42266, 3, .invokevirtual 442, 1840), (54, .ireturn, 1, .ireturn, 0)]
def m_X10_marry_E : List (List mj_I) := [m_X10_marry_r0, m_X10_marry_r1]
def m_X10_marry : mj_M := (yX10_marry, cX10_marry, 2, (some .boolean), m_X10_marry_E)
def m_X10_spare_r0 : List mj_I := [(0, .aload_n 0, 1, .aload_n 0, 0), (1, .iconst 0, 1, .iconst 0, 0), (2, .putfield 640, 3, .putfield 55, 1207), (5, .aload_n 0, 1, .aload_n 0, 0), (6, .getfield 643, 3, .getfield 279, 1210), (9, .ifnonnull 9, 3, .ifnonnull 9, 0), (12, .aload_n 0, 1, .aload_n 0, 0), (13, .iconst 1, 1, .iconst 1, 0), (14, .invokevirtual 41770, 3, .invokevirtual 436, 1832), (17, .ireturn, 1, .ireturn, 0), (18, .iload_n 1, 1, .iload_n 1, 0), (19, .iconst 0, 1, .iconst 0, 0), (20, .iconst 3, 1, .iconst 3, 0), (21, .invokestatic 42554, 3, .invokestatic 134, 1455), (24, .ifCond .ne 9, 3, .ifCond .ne 9, 0), (27, .aload_n 0, 1, .aload_n 0, 0), (28, .iconst 2, 1, .iconst 2, 0), (29, .invokevirtual 41770, 3, .invokevirtual 436, 1832)]
def m_X10_spare_r1 : List mj_I := [(32, .ireturn, 1, .ireturn, 0), (33, .aload_n 0, 1, .aload_n 0, 0), (34, .getfield 655, 3, .getfield 17, 1222), (37, .bipush 25, 2, .bipush 25, 0), (39, .iaload, 1, .iaload, 0), (40, .iload_n 1, 1, .iload_n 1, 0), (41, .invokestatic 42794, 3, .invokestatic 246, 1498), (44, .iload_n 2, 1, .iload_n 2, 0), (45, .if_icmp .ne 9, 3, .if_icmp .ne 9, 0), (48, .aload_n 0, 1, .aload_n 0, 0), (49, .iconst 5, 1, .iconst 5, 0), (50, .invokevirtual 41770, 3, .invokevirtual 436, 1832), (53, .ireturn, 1, .ireturn, 0), (54, .aload_n 0, 1, .aload_n 0, 0), (55, .invokevirtual 68378, 3, .invokevirtual 439, 1836), (58, .aload_n 0, 1, .aload_n 0, 0), (59, .getfield 655, 3, .getfield 17, 1222), (62, .bipush 25, 2, .bipush 25, 0)]
def m_X10_spare_r2 : List mj_I := [(64, .dup2, 1, .dup2, 0), (65, .iaload, 1, .iaload, 0), (66, .iconst 1, 1, .iconst 1, 0), (67, .iload_n 1, 1, .iload_n 1, 0), (68, .ishl, 1, .ishl, 0), (69, .ixor, 1, .ixor, 0), (70, .iastore, 1, .iastore, 0), (71, .aload_n 0, 1, .aload_n 0, 0), (72, .invokevirtual 42266, 3, .invokevirtual 442, 1840), (75, .ireturn, 1, .ireturn, 0)]
def m_X10_spare_E : List (List mj_I) := [m_X10_spare_r0, m_X10_spare_r1, m_X10_spare_r2]
def m_X10_spare : mj_M := (yX10_spare, cX10_spare, 3, (some .boolean), m_X10_spare_E)
def m_X10_hold_r0 : List mj_I := [(0, .aload_n 0, 1, .aload_n 0, 0), (1, .iconst 0, 1, .iconst 0, 0), (2, .putfield 640, 3, .putfield 55, 1207), (5, .aload_n 0, 1, .aload_n 0, 0), (6, .getfield 643, 3, .getfield 279, 1210), (9, .ifnonnull 9, 3, .ifnonnull 9, 0), (12, .aload_n 0, 1, .aload_n 0, 0), (13, .iconst 1, 1, .iconst 1, 0), (14, .invokevirtual 41258, 3, .invokevirtual 61, 1334), (17, .ireturn, 1, .ireturn, 0), (18, .aload_n 0, 1, .aload_n 0, 0), (19, .invokevirtual 68378, 3, .invokevirtual 439, 1836), (22, .aload_n 0, 1, .aload_n 0, 0), (23, .invokevirtual 51226, 3, .invokevirtual 335, 1556), (26, .aload_n 0, 1, .aload_n 0, 0), (27, .aload_n 0, 1, .aload_n 0, 0), (28, .getfield 655, 3, .getfield 17, 1222), (31, .bipush 27, 2, .bipush 27, 0)]
def m_X10_hold_r1 : List mj_I := [(33, .iaload, 1, .iaload, 0), (34, .putfield 677, 3, .putfield 421, 1244), (37, .aload_n 0, 1, .aload_n 0, 0), (38, .invokevirtual 67098, 3, .invokevirtual 433, 1813), (41, .aload_n 0, 1, .aload_n 0, 0), (42, .invokevirtual 51738, 3, .invokevirtual 320, 1584), (45, .iconst 0, 1, .iconst 0, 0), (46, .istore_n 1, 1, .istore_n 1, 0), (47, .iload_n 1, 1, .iload_n 1, 0), (48, .aload_n 0, 1, .aload_n 0, 0), (49, .getfield 643, 3, .getfield 279, 1210), (52, .getfield 577, 3, .getfield 188, 1347), (55, .if_icmp .ge 76, 3, .if_icmp .ge 76, 0), (58, .aload_n 0, 1, .aload_n 0, 0), (59, .getfield 655, 3, .getfield 17, 1222), (62, .bipush 12, 2, .bipush 12, 0)]
def m_X10_hold_r2 : List mj_I := [(64, .iload_n 1, 1, .iload_n 1, 0), (65, .iadd, 1, .iadd, 0), (66, .aload_n 0, 1, .aload_n 0, 0), (67, .getfield 660, 3, .getfield 27, 1227), (70, .iload_n 1, 1, .iload_n 1, 0), (71, .iaload, 1, .iaload, 0), (72, .iastore, 1, .iastore, 0), (73, .aload_n 0, 1, .aload_n 0, 0), (74, .getfield 655, 3, .getfield 17, 1222), (77, .bipush 18, 2, .bipush 18, 0), (79, .iload_n 1, 1, .iload_n 1, 0), (80, .iadd, 1, .iadd, 0), (81, .aload_n 0, 1, .aload_n 0, 0), (82, .getfield 663, 3, .getfield 36, 1230), (85, .iload_n 1, 1, .iload_n 1, 0), (86, .iaload, 1, .iaload, 0), (87, .iastore, 1, .iastore, 0), (88, .aload_n 0, 1, .aload_n 0, 0), (89, .getfield 662, 3, .getfield 33, 1229), (92, .iload_n 1, 1, .iload_n 1, 0), (93, .iaload, 1, .iaload, 0), (94, .bipush (-2), 2, .bipush (-2), 0)]
def m_X10_hold_r3 : List mj_I := [(96, .if_icmp .eq 29, 3, .if_icmp .eq 29, 0), (99, .aload_n 0, 1, .aload_n 0, 0), (100, .getfield 655, 3, .getfield 17, 1222), (103, .bipush 6, 2, .bipush 6, 0), (105, .iload_n 1, 1, .iload_n 1, 0), (106, .iadd, 1, .iadd, 0), (107, .dup2, 1, .dup2, 0), (108, .iaload, 1, .iaload, 0), (109, .aload_n 0, 1, .aload_n 0, 0), (110, .getfield 643, 3, .getfield 279, 1210), (113, .getfield 587, 3, .getfield 236, 1363), (116, .aload_n 0, 1, .aload_n 0, 0), (117, .getfield 662, 3, .getfield 33, 1229), (120, .iload_n 1, 1, .iload_n 1, 0), (121, .iaload, 1, .iaload, 0), (122, .iaload, 1, .iaload, 0), (123, .isub, 1, .isub, 0), (124, .iastore, 1, .iastore, 0), (125, .iinc 1 1, 3, .iinc 1 1, 0)]
def m_X10_hold_r4 : List mj_I := [(128, .goto (-81), 3, .goto (-81), 0), (131, .aload_n 0, 1, .aload_n 0, 0), (132, .getfield 655, 3, .getfield 17, 1222), (135, .bipush 24, 2, .bipush 24, 0), (137, .aload_n 0, 1, .aload_n 0, 0), (138, .getfield 665, 3, .getfield 290, 1232), (141, .iastore, 1, .iastore, 0), (142, .aload_n 0, 1, .aload_n 0, 0), (143, .getfield 655, 3, .getfield 17, 1222), (146, .bipush 27, 2, .bipush 27, 0), (148, .aload_n 0, 1, .aload_n 0, 0), (149, .getfield 677, 3, .getfield 421, 1244), (152, .iastore, 1, .iastore, 0), (153, .aload_n 0, 1, .aload_n 0, 0), (154, .getfield 655, 3, .getfield 17, 1222), (157, .bipush 26, 2, .bipush 26, 0), (159, .dup2, 1, .dup2, 0)]
def m_X10_hold_r5 : List mj_I := [(160, .iaload, 1, .iaload, 0), (161, .iconst 1, 1, .iconst 1, 0), (162, .iadd, 1, .iadd, 0), (163, .iastore, 1, .iastore, 0), (164, .aload_n 0, 1, .aload_n 0, 0), (165, .aload_n 0, 1, .aload_n 0, 0), (166, .invokevirtual 52250, 3, .invokevirtual 323, 1595), (169, .invokevirtual 42026, 3, .invokevirtual 65, 1524), (172, .ireturn, 1, .ireturn, 0)]
def m_X10_hold_E : List (List mj_I) := [m_X10_hold_r0, m_X10_hold_r1, m_X10_hold_r2, m_X10_hold_r3, m_X10_hold_r4, m_X10_hold_r5]
def m_X10_hold : mj_M := (yX10_hold, cX10_hold, 2, (some .int), m_X10_hold_E)
def m_X10_desert_r0 : List mj_I := [(0, .aload_n 0, 1, .aload_n 0, 0), (1, .iconst 0, 1, .iconst 0, 0), (2, .putfield 640, 3, .putfield 55, 1207), (5, .aload_n 0, 1, .aload_n 0, 0), (6, .iload_n 1, 1, .iload_n 1, 0), (7, .invokevirtual 50730, 3, .invokevirtual 332, 1540), (10, .ifCond .ne 9, 3, .ifCond .ne 9, 0), (13, .aload_n 0, 1, .aload_n 0, 0), (14, .iconst 1, 1, .iconst 1, 0), (15, .invokevirtual 41258, 3, .invokevirtual 61, 1334), (18, .ireturn, 1, .ireturn, 0), (19, .aload_n 0, 1, .aload_n 0, 0), (20, .getfield 655, 3, .getfield 17, 1222), (23, .bipush 18, 2, .bipush 18, 0), (25, .iload_n 1, 1, .iload_n 1, 0), (26, .iadd, 1, .iadd, 0), (27, .iaload, 1, .iaload, 0), (28, .bipush (-2), 2, .bipush (-2), 0), (30, .if_icmp .ne 9, 3, .if_icmp .ne 9, 0)]
def m_X10_desert_r1 : List mj_I := [(33, .aload_n 0, 1, .aload_n 0, 0), (34, .iconst 5, 1, .iconst 5, 0), (35, .invokevirtual 41258, 3, .invokevirtual 61, 1334), (38, .ireturn, 1, .ireturn, 0), (39, .aload_n 0, 1, .aload_n 0, 0), (40, .invokevirtual 68378, 3, .invokevirtual 439, 1836), (43, .aload_n 0, 1, .aload_n 0, 0), (44, .getfield 655, 3, .getfield 17, 1222), (47, .bipush 18, 2, .bipush 18, 0), (49, .iload_n 1, 1, .iload_n 1, 0), (50, .iadd, 1, .iadd, 0), (51, .iaload, 1, .iaload, 0), (52, .istore_n 2, 1, .istore_n 2, 0), (53, .aload_n 0, 1, .aload_n 0, 0), (54, .getfield 655, 3, .getfield 17, 1222), (57, .bipush 18, 2, .bipush 18, 0), (59, .iload_n 1, 1, .iload_n 1, 0), (60, .iadd, 1, .iadd, 0), (61, .bipush (-2), 2, .bipush (-2), 0), (63, .iastore, 1, .iastore, 0)]
def m_X10_desert_r2 : List mj_I := [(64, .aload_n 0, 1, .aload_n 0, 0), (65, .iload_n 2, 1, .iload_n 2, 0), (66, .invokevirtual 42026, 3, .invokevirtual 65, 1524), (69, .ireturn, 1, .ireturn, 0)]
def m_X10_desert_E : List (List mj_I) := [m_X10_desert_r0, m_X10_desert_r1, m_X10_desert_r2]
def m_X10_desert : mj_M := (yX10_desert, cX10_desert, 3, (some .int), m_X10_desert_E)
def m_X10_fateOf_r0 : List mj_I := [(0, .aload_n 0, 1, .aload_n 0, 0), (1, .getfield 655, 3, .getfield 17, 1222), (4, .bipush 18, 2, .bipush 18, 0), (6, .iload_n 1, 1, .iload_n 1, 0), (7, .iadd, 1, .iadd, 0), (8, .iaload, 1, .iaload, 0), (9, .bipush (-2), 2, .bipush (-2), 0), (11, .if_icmp .eq 5, 3, .if_icmp .eq 5, 0), (14, .iconst 3, 1, .iconst 3, 0), (15, .ireturn, 1, .ireturn, 0), (16, .aload_n 0, 1, .aload_n 0, 0), (17, .getfield 655, 3, .getfield 17, 1222), (20, .bipush 24, 2, .bipush 24, 0), (22, .iaload, 1, .iaload, 0), (23, .iload_n 1, 1, .iload_n 1, 0), (24, .invokestatic 42794, 3, .invokestatic 246, 1498), (27, .ifCond .ne 5, 3, .ifCond .ne 5, 0), (30, .iconst 0, 1, .iconst 0, 0), (31, .ireturn, 1, .ireturn, 0)]
def m_X10_fateOf_r1 : List mj_I := [(32, .iconst 0, 1, .iconst 0, 0), (33, .istore_n 2, 1, .istore_n 2, 0), (34, .iload_n 2, 1, .iload_n 2, 0), (35, .aload_n 0, 1, .aload_n 0, 0), (36, .getfield 643, 3, .getfield 279, 1210), (39, .getfield 577, 3, .getfield 188, 1347), (42, .if_icmp .ge 24, 3, .if_icmp .ge 24, 0), (45, .aload_n 0, 1, .aload_n 0, 0), (46, .getfield 655, 3, .getfield 17, 1222), (49, .bipush 18, 2, .bipush 18, 0), (51, .iload_n 2, 1, .iload_n 2, 0), (52, .iadd, 1, .iadd, 0), (53, .iaload, 1, .iaload, 0), (54, .iload_n 1, 1, .iload_n 1, 0), (55, .if_icmp .ne 5, 3, .if_icmp .ne 5, 0), (58, .iconst 2, 1, .iconst 2, 0), (59, .ireturn, 1, .ireturn, 0), (60, .iinc 2 1, 3, .iinc 2 1, 0), (63, .goto (-29), 3, .goto (-29), 0)]
def m_X10_fateOf_r2 : List mj_I := [(66, .iconst 1, 1, .iconst 1, 0), (67, .ireturn, 1, .ireturn, 0)]
def m_X10_fateOf_E : List (List mj_I) := [m_X10_fateOf_r0, m_X10_fateOf_r1, m_X10_fateOf_r2]
def m_X10_fateOf : mj_M := (yX10_fateOf, cX10_fateOf, 3, (some .int), m_X10_fateOf_E)
def m_X10_fate_r0 : List mj_I := [(0, .aload_n 0, 1, .aload_n 0, 0), (1, .iconst 0, 1, .iconst 0, 0), (2, .putfield 640, 3, .putfield 55, 1207), (5, .aload_n 0, 1, .aload_n 0, 0), (6, .iload_n 1, 1, .iload_n 1, 0), (7, .invokevirtual 50730, 3, .invokevirtual 332, 1540), (10, .ifCond .eq 15, 3, .ifCond .eq 15, 0), (13, .aload_n 0, 1, .aload_n 0, 0), (14, .aload_n 0, 1, .aload_n 0, 0), (15, .iload_n 1, 1, .iload_n 1, 0), (16, .invokevirtual 69674, 3, .invokevirtual 445, 1860), (19, .invokevirtual 42026, 3, .invokevirtual 65, 1524), (22, .goto 8, 3, .goto 8, 0), (25, .aload_n 0, 1, .aload_n 0, 0), (26, .iconst 1, 1, .iconst 1, 0), (27, .invokevirtual 41258, 3, .invokevirtual 61, 1334), (30, .ireturn, 1, .ireturn, 0)]
def m_X10_fate_E : List (List mj_I) := [m_X10_fate_r0]
def m_X10_fate : mj_M := (yX10_fate, cX10_fate, 2, (some .int), m_X10_fate_E)
def m_X10_lot_r0 : List mj_I := [(0, .aload_n 0, 1, .aload_n 0, 0), (1, .iconst 0, 1, .iconst 0, 0), (2, .putfield 640, 3, .putfield 55, 1207), (5, .aload_n 0, 1, .aload_n 0, 0), (6, .iload_n 1, 1, .iload_n 1, 0), (7, .invokevirtual 50730, 3, .invokevirtual 332, 1540), (10, .ifCond .eq 29, 3, .ifCond .eq 29, 0), (13, .aload_n 0, 1, .aload_n 0, 0), (14, .getfield 655, 3, .getfield 17, 1222), (17, .bipush 26, 2, .bipush 26, 0), (19, .iaload, 1, .iaload, 0), (20, .ifCond .le 19, 3, .ifCond .le 19, 0), (23, .aload_n 0, 1, .aload_n 0, 0), (24, .aload_n 0, 1, .aload_n 0, 0), (25, .getfield 655, 3, .getfield 17, 1222), (28, .bipush 12, 2, .bipush 12, 0), (30, .iload_n 1, 1, .iload_n 1, 0), (31, .iadd, 1, .iadd, 0)]
def m_X10_lot_r1 : List mj_I := [(32, .iaload, 1, .iaload, 0), (33, .invokevirtual 42026, 3, .invokevirtual 65, 1524), (36, .goto 8, 3, .goto 8, 0), (39, .aload_n 0, 1, .aload_n 0, 0), (40, .iconst 1, 1, .iconst 1, 0), (41, .invokevirtual 41258, 3, .invokevirtual 61, 1334), (44, .ireturn, 1, .ireturn, 0)]
def m_X10_lot_E : List (List mj_I) := [m_X10_lot_r0, m_X10_lot_r1]
def m_X10_lot : mj_M := (yX10_lot, cX10_lot, 2, (some .int), m_X10_lot_E)
def m_X10_seed_r0 : List mj_I := [(0, .aload_n 0, 1, .aload_n 0, 0), (1, .iconst 0, 1, .iconst 0, 0), (2, .putfield 640, 3, .putfield 55, 1207), (5, .aload_n 0, 1, .aload_n 0, 0), (6, .getfield 643, 3, .getfield 279, 1210), (9, .ifnonnull 9, 3, .ifnonnull 9, 0), (12, .aload_n 0, 1, .aload_n 0, 0), (13, .iconst 1, 1, .iconst 1, 0), (14, .invokevirtual 41770, 3, .invokevirtual 436, 1832), (17, .ireturn, 1, .ireturn, 0), (18, .iload_n 1, 1, .iload_n 1, 0), (19, .iconst 0, 1, .iconst 0, 0), (20, .iconst 65536, 3, .ldc_w 428, 1812), (23, .invokestatic 42554, 3, .invokestatic 134, 1455), (26, .ifCond .ne 9, 3, .ifCond .ne 9, 0), (29, .aload_n 0, 1, .aload_n 0, 0), (30, .iconst 2, 1, .iconst 2, 0), (31, .invokevirtual 41770, 3, .invokevirtual 436, 1832)]
def m_X10_seed_r1 : List mj_I := [(34, .ireturn, 1, .ireturn, 0), (35, .aload_n 0, 1, .aload_n 0, 0), (36, .getfield 655, 3, .getfield 17, 1222), (39, .bipush 27, 2, .bipush 27, 0), (41, .iload_n 1, 1, .iload_n 1, 0), (42, .iastore, 1, .iastore, 0), (43, .aload_n 0, 1, .aload_n 0, 0), (44, .invokevirtual 42266, 3, .invokevirtual 442, 1840), (47, .ireturn, 1, .ireturn, 0)]
def m_X10_seed_E : List (List mj_I) := [m_X10_seed_r0, m_X10_seed_r1]
def m_X10_seed : mj_M := (yX10_seed, cX10_seed, 2, (some .boolean), m_X10_seed_E)
def m_X10_undo_r0 : List mj_I := [(0, .aload_n 0, 1, .aload_n 0, 0), (1, .iconst 0, 1, .iconst 0, 0), (2, .putfield 640, 3, .putfield 55, 1207), (5, .aload_n 0, 1, .aload_n 0, 0), (6, .getfield 643, 3, .getfield 279, 1210), (9, .ifnull 10, 3, .ifnull 10, 0), (12, .aload_n 0, 1, .aload_n 0, 0), (13, .getfield 658, 3, .getfield 281, 1225), (16, .ifCond .ne 10, 3, .ifCond .ne 10, 0), (19, .aload_n 0, 1, .aload_n 0, 0), (20, .bipush 6, 2, .bipush 6, 0), (22, .invokevirtual 41770, 3, .invokevirtual 436, 1832), (25, .ireturn, 1, .ireturn, 0), (26, .aload_n 0, 1, .aload_n 0, 0), (27, .dup, 1, .dup, 0), (28, .getfield 658, 3, .getfield 281, 1225), (31, .iconst 1, 1, .iconst 1, 0)]
def m_X10_undo_r1 : List mj_I := [(32, .isub, 1, .isub, 0), (33, .putfield 658, 3, .putfield 281, 1225), (36, .iconst 0, 1, .iconst 0, 0), (37, .istore_n 1, 1, .istore_n 1, 0), (38, .iload_n 1, 1, .iload_n 1, 0), (39, .bipush 28, 2, .bipush 28, 0), (41, .if_icmp .ge 29, 3, .if_icmp .ge 29, 0), (44, .aload_n 0, 1, .aload_n 0, 0), (45, .getfield 655, 3, .getfield 17, 1222), (48, .iload_n 1, 1, .iload_n 1, 0), (49, .aload_n 0, 1, .aload_n 0, 0), (50, .getfield 656, 3, .getfield 21, 1223), (53, .bipush 28, 2, .bipush 28, 0), (55, .aload_n 0, 1, .aload_n 0, 0), (56, .getfield 658, 3, .getfield 281, 1225), (59, .imul, 1, .imul, 0), (60, .iload_n 1, 1, .iload_n 1, 0), (61, .iadd, 1, .iadd, 0), (62, .iaload, 1, .iaload, 0), (63, .iastore, 1, .iastore, 0)]
def m_X10_undo_r2 : List mj_I := [(64, .iinc 1 1, 3, .iinc 1 1, 0), (67, .goto (-29), 3, .goto (-29), 0), (70, .aload_n 0, 1, .aload_n 0, 0), (71, .invokevirtual 42266, 3, .invokevirtual 442, 1840), (74, .ireturn, 1, .ireturn, 0)]
def m_X10_undo_E : List (List mj_I) := [m_X10_undo_r0, m_X10_undo_r1, m_X10_undo_r2]
def m_X10_undo : mj_M := (yX10_undo, cX10_undo, 2, (some .boolean), m_X10_undo_E)
def m_X10_image_r0 : List mj_I := [(0, .aload_n 0, 1, .aload_n 0, 0), (1, .iconst 0, 1, .iconst 0, 0), (2, .putfield 640, 3, .putfield 55, 1207), (5, .aload_n 0, 1, .aload_n 0, 0), (6, .getfield 643, 3, .getfield 279, 1210), (9, .ifnonnull 9, 3, .ifnonnull 9, 0), (12, .aload_n 0, 1, .aload_n 0, 0), (13, .iconst 1, 1, .iconst 1, 0), (14, .invokevirtual 41258, 3, .invokevirtual 61, 1334), (17, .ireturn, 1, .ireturn, 0), (18, .aload_n 0, 1, .aload_n 0, 0), (19, .getfield 659, 3, .getfield 284, 1226), (22, .iconst 3, 1, .iconst 3, 0), (23, .if_icmp .ne 9, 3, .if_icmp .ne 9, 0), (26, .aload_n 0, 1, .aload_n 0, 0), (27, .iconst 3, 1, .iconst 3, 0), (28, .invokevirtual 41258, 3, .invokevirtual 61, 1334), (31, .ireturn, 1, .ireturn, 0)]
def m_X10_image_r1 : List mj_I := [(32, .iconst 0, 1, .iconst 0, 0), (33, .istore_n 1, 1, .istore_n 1, 0), (34, .iload_n 1, 1, .iload_n 1, 0), (35, .bipush 28, 2, .bipush 28, 0), (37, .if_icmp .ge 29, 3, .if_icmp .ge 29, 0), (40, .aload_n 0, 1, .aload_n 0, 0), (41, .getfield 657, 3, .getfield 24, 1224), (44, .bipush 28, 2, .bipush 28, 0), (46, .aload_n 0, 1, .aload_n 0, 0), (47, .getfield 659, 3, .getfield 284, 1226), (50, .imul, 1, .imul, 0), (51, .iload_n 1, 1, .iload_n 1, 0), (52, .iadd, 1, .iadd, 0), (53, .aload_n 0, 1, .aload_n 0, 0), (54, .getfield 655, 3, .getfield 17, 1222), (57, .iload_n 1, 1, .iload_n 1, 0), (58, .iaload, 1, .iaload, 0), (59, .iastore, 1, .iastore, 0), (60, .iinc 1 1, 3, .iinc 1 1, 0), (63, .goto (-29), 3, .goto (-29), 0)]
def m_X10_image_r2 : List mj_I := [(66, .aload_n 0, 1, .aload_n 0, 0), (67, .dup, 1, .dup, 0), (68, .getfield 659, 3, .getfield 284, 1226), (71, .iconst 1, 1, .iconst 1, 0), (72, .iadd, 1, .iadd, 0), (73, .putfield 659, 3, .putfield 284, 1226), (76, .aload_n 0, 1, .aload_n 0, 0), (77, .aload_n 0, 1, .aload_n 0, 0), (78, .getfield 659, 3, .getfield 284, 1226), (81, .iconst 1, 1, .iconst 1, 0), (82, .isub, 1, .isub, 0), (83, .invokevirtual 42026, 3, .invokevirtual 65, 1524), (86, .ireturn, 1, .ireturn, 0)]
def m_X10_image_E : List (List mj_I) := [m_X10_image_r0, m_X10_image_r1, m_X10_image_r2]
def m_X10_image : mj_M := (yX10_image, cX10_image, 2, (some .int), m_X10_image_E)
def m_X10_back_r0 : List mj_I := [(0, .aload_n 0, 1, .aload_n 0, 0), (1, .iconst 0, 1, .iconst 0, 0), (2, .putfield 640, 3, .putfield 55, 1207), (5, .aload_n 0, 1, .aload_n 0, 0), (6, .getfield 643, 3, .getfield 279, 1210), (9, .ifnull 15, 3, .ifnull 15, 0), (12, .iload_n 1, 1, .iload_n 1, 0), (13, .ifCond .lt 11, 3, .ifCond .lt 11, 0), (16, .iload_n 1, 1, .iload_n 1, 0), (17, .aload_n 0, 1, .aload_n 0, 0), (18, .getfield 659, 3, .getfield 284, 1226), (21, .if_icmp .lt 9, 3, .if_icmp .lt 9, 0), (24, .aload_n 0, 1, .aload_n 0, 0), (25, .iconst 1, 1, .iconst 1, 0), (26, .invokevirtual 41770, 3, .invokevirtual 436, 1832), (29, .ireturn, 1, .ireturn, 0), (30, .iconst 0, 1, .iconst 0, 0), (31, .istore_n 2, 1, .istore_n 2, 0)]
def m_X10_back_r1 : List mj_I := [(32, .iload_n 2, 1, .iload_n 2, 0), (33, .bipush 28, 2, .bipush 28, 0), (35, .if_icmp .ge 26, 3, .if_icmp .ge 26, 0), (38, .aload_n 0, 1, .aload_n 0, 0), (39, .getfield 655, 3, .getfield 17, 1222), (42, .iload_n 2, 1, .iload_n 2, 0), (43, .aload_n 0, 1, .aload_n 0, 0), (44, .getfield 657, 3, .getfield 24, 1224), (47, .bipush 28, 2, .bipush 28, 0), (49, .iload_n 1, 1, .iload_n 1, 0), (50, .imul, 1, .imul, 0), (51, .iload_n 2, 1, .iload_n 2, 0), (52, .iadd, 1, .iadd, 0), (53, .iaload, 1, .iaload, 0), (54, .iastore, 1, .iastore, 0), (55, .iinc 2 1, 3, .iinc 2 1, 0), (58, .goto (-26), 3, .goto (-26), 0), (61, .aload_n 0, 1, .aload_n 0, 0), (62, .iconst 0, 1, .iconst 0, 0), (63, .putfield 658, 3, .putfield 281, 1225)]
def m_X10_back_r2 : List mj_I := [(66, .aload_n 0, 1, .aload_n 0, 0), (67, .invokevirtual 42266, 3, .invokevirtual 442, 1840), (70, .ireturn, 1, .ireturn, 0)]
def m_X10_back_E : List (List mj_I) := [m_X10_back_r0, m_X10_back_r1, m_X10_back_r2]
def m_X10_back : mj_M := (yX10_back, cX10_back, 3, (some .boolean), m_X10_back_E)
def m_X10_led_r0 : List mj_I := [(0, .aload_n 0, 1, .aload_n 0, 0), (1, .iconst 0, 1, .iconst 0, 0), (2, .putfield 640, 3, .putfield 55, 1207), (5, .iconst 0, 1, .iconst 0, 0), (6, .istore_n 2, 1, .istore_n 2, 0), (7, .iconst 0, 1, .iconst 0, 0), (8, .istore_n 3, 1, .istore_n 3, 0), (9, .aload_n 0, 1, .aload_n 0, 0), (10, .getfield 643, 3, .getfield 279, 1210), (13, .ifnull 43, 3, .ifnull 43, 0), (16, .iload_n 3, 1, .iload_n 3, 0), (17, .aload_n 0, 1, .aload_n 0, 0), (18, .getfield 643, 3, .getfield 279, 1210), (21, .getfield 577, 3, .getfield 188, 1347), (24, .if_icmp .ge 32, 3, .if_icmp .ge 32, 0), (27, .aload_n 0, 1, .aload_n 0, 0), (28, .iload_n 3, 1, .iload_n 3, 0), (29, .invokevirtual 69674, 3, .invokevirtual 445, 1860)]
def m_X10_led_r1 : List mj_I := [(32, .iconst 2, 1, .iconst 2, 0), (33, .irem, 1, .irem, 0), (34, .ifCond .ne 6, 3, .ifCond .ne 6, 0), (37, .goto 13, 3, .goto 13, 0), (40, .iload_n 2, 1, .iload_n 2, 0), (41, .iload_n 1, 1, .iload_n 1, 0), (42, .if_icmp .ne 5, 3, .if_icmp .ne 5, 0), (45, .iload_n 3, 1, .iload_n 3, 0), (46, .ireturn, 1, .ireturn, 0), (47, .iinc 2 1, 3, .iinc 2 1, 0), (50, .iinc 3 1, 3, .iinc 3 1, 0), (53, .goto (-44), 3, .goto (-44), 0), (56, .aload_n 0, 1, .aload_n 0, 0), (57, .iconst 1, 1, .iconst 1, 0), (58, .putfield 640, 3, .putfield 55, 1207), (61, .iconst 0, 1, .iconst 0, 0), (62, .ireturn, 1, .ireturn, 0)]
def m_X10_led_E : List (List mj_I) := [m_X10_led_r0, m_X10_led_r1]
def m_X10_led : mj_M := (yX10_led, cX10_led, 4, (some .int), m_X10_led_E)
def m_X10_size_r0 : List mj_I := [(0, .aload_n 0, 1, .aload_n 0, 0), (1, .iconst 0, 1, .iconst 0, 0), (2, .putfield 640, 3, .putfield 55, 1207), (5, .iload_n 1, 1, .iload_n 1, 0), (6, .bipush 9, 2, .bipush 9, 0), (8, .if_icmp .ne 8, 3, .if_icmp .ne 8, 0), (11, .aload_n 0, 1, .aload_n 0, 0), (12, .getfield 646, 3, .getfield 272, 1213), (15, .ireturn, 1, .ireturn, 0), (16, .iload_n 1, 1, .iload_n 1, 0), (17, .iconst 0, 1, .iconst 0, 0), (18, .bipush 8, 2, .bipush 8, 0), (20, .invokestatic 42554, 3, .invokestatic 134, 1455), (23, .ifCond .ne 5, 3, .ifCond .ne 5, 0), (26, .iconst (-1), 1, .iconst (-1), 0), (27, .ireturn, 1, .ireturn, 0), (28, .aload_n 0, 1, .aload_n 0, 0), (29, .getfield 643, 3, .getfield 279, 1210)]
def m_X10_size_r1 : List mj_I := [(32, .ifnonnull 5, 3, .ifnonnull 5, 0), (35, .iconst 0, 1, .iconst 0, 0), (36, .ireturn, 1, .ireturn, 0), (37, .iload_n 1, 1, .iload_n 1, 0), (38, .tableswitch 116 0 7 #[46, 54, 62, 70, 87, 95, 103, 111], 46, .tableswitch 116 0 7 #[46, 54, 62, 70, 87, 95, 103, 111], 0)]
def m_X10_size_r2 : List mj_I := [(84, .aload_n 0, 1, .aload_n 0, 0), (85, .getfield 643, 3, .getfield 279, 1210), (88, .getfield 576, 3, .getfield 162, 1345), (91, .ireturn, 1, .ireturn, 0), (92, .aload_n 0, 1, .aload_n 0, 0), (93, .getfield 643, 3, .getfield 279, 1210)]
def m_X10_size_r3 : List mj_I := [(96, .getfield 577, 3, .getfield 188, 1347), (99, .ireturn, 1, .ireturn, 0), (100, .aload_n 0, 1, .aload_n 0, 0), (101, .getfield 643, 3, .getfield 279, 1210), (104, .getfield 578, 3, .getfield 238, 1348), (107, .ireturn, 1, .ireturn, 0), (108, .aload_n 0, 1, .aload_n 0, 0), (109, .getfield 643, 3, .getfield 279, 1210), (112, .getfield 581, 3, .getfield 252, 1353), (115, .iconst (-1), 1, .iconst (-1), 0), (116, .if_icmp .ne 7, 3, .if_icmp .ne 7, 0), (119, .iconst 0, 1, .iconst 0, 0), (120, .goto 4, 3, .goto 4, 0), (123, .iconst 1, 1, .iconst 1, 0), (124, .ireturn, 1, .ireturn, 0), (125, .aload_n 0, 1, .aload_n 0, 0), (126, .getfield 643, 3, .getfield 279, 1210)]
def m_X10_size_r4 : List mj_I := [(129, .getfield 579, 3, .getfield 264, 1350), (132, .ireturn, 1, .ireturn, 0), (133, .aload_n 0, 1, .aload_n 0, 0), (134, .getfield 655, 3, .getfield 17, 1222), (137, .bipush 26, 2, .bipush 26, 0), (139, .iaload, 1, .iaload, 0), (140, .ireturn, 1, .ireturn, 0), (141, .aload_n 0, 1, .aload_n 0, 0), (142, .getfield 655, 3, .getfield 17, 1222), (145, .bipush 27, 2, .bipush 27, 0), (147, .iaload, 1, .iaload, 0), (148, .ireturn, 1, .ireturn, 0), (149, .aload_n 0, 1, .aload_n 0, 0), (150, .getfield 658, 3, .getfield 281, 1225), (153, .ireturn, 1, .ireturn, 0), (154, .aload_n 0, 1, .aload_n 0, 0), (155, .getfield 659, 3, .getfield 284, 1226), (158, .ireturn, 1, .ireturn, 0)]
def m_X10_size_E : List (List mj_I) := [m_X10_size_r0, m_X10_size_r1, m_X10_size_r2, m_X10_size_r3, m_X10_size_r4]
def m_X10_size : mj_M := (yX10_size, cX10_size, 2, (some .int), m_X10_size_E)
def m_X10_trouble_r0 : List mj_I := [(0, .aload_n 0, 1, .aload_n 0, 0), (1, .iconst 0, 1, .iconst 0, 0), (2, .putfield 640, 3, .putfield 55, 1207), (5, .aload_n 0, 1, .aload_n 0, 0), (6, .getfield 641, 3, .getfield 58, 1208), (9, .ireturn, 1, .ireturn, 0)]
def m_X10_trouble_E : List (List mj_I) := [m_X10_trouble_r0]
def m_X10_trouble : mj_M := (yX10_trouble, cX10_trouble, 1, (some .int), m_X10_trouble_E)
def m_J9_max_r0 : List mj_I := [(0, .iload_n 0, 1, .iload_n 0, 0), (1, .iload_n 1, 1, .iload_n 1, 0), (2, .if_icmp .lt 7, 3, .if_icmp .lt 7, 0), (5, .iload_n 0, 1, .iload_n 0, 0), (6, .goto 4, 3, .goto 4, 0), (9, .iload_n 1, 1, .iload_n 1, 0), (10, .ireturn, 1, .ireturn, 0)]
def m_J9_max_E : List (List mj_I) := [m_J9_max_r0]
def m_J9_max : mj_M := (yJ9_max_7cf53, cJ9_max_7cf53, 2, (some .int), m_J9_max_E)
def m_J9_min_r0 : List mj_I := [(0, .iload_n 0, 1, .iload_n 0, 0), (1, .iload_n 1, 1, .iload_n 1, 0), (2, .if_icmp .gt 7, 3, .if_icmp .gt 7, 0), (5, .iload_n 0, 1, .iload_n 0, 0), (6, .goto 4, 3, .goto 4, 0), (9, .iload_n 1, 1, .iload_n 1, 0), (10, .ireturn, 1, .ireturn, 0)]
def m_J9_min_E : List (List mj_I) := [m_J9_min_r0]
def m_J9_min : mj_M := (yJ9_min_7cf53, cJ9_min_7cf53, 2, (some .int), m_J9_min_E)
def m_J6_bitCount_r0 : List mj_I := [(0, .iload_n 0, 1, .iload_n 0, 0), (1, .iload_n 0, 1, .iload_n 0, 0), (2, .iconst 1, 1, .iconst 1, 0), (3, .iushr, 1, .iushr, 0), (4, .iconst 1431655765, 3, .ldc_w 265, 861), (7, .iand, 1, .iand, 0), (8, .isub, 1, .isub, 0), (9, .istore_n 0, 1, .istore_n 0, 0), (10, .iload_n 0, 1, .iload_n 0, 0), (11, .iconst 858993459, 3, .ldc_w 266, 862), (14, .iand, 1, .iand, 0), (15, .iload_n 0, 1, .iload_n 0, 0), (16, .iconst 2, 1, .iconst 2, 0), (17, .iushr, 1, .iushr, 0), (18, .iconst 858993459, 3, .ldc_w 266, 862), (21, .iand, 1, .iand, 0), (22, .iadd, 1, .iadd, 0), (23, .istore_n 0, 1, .istore_n 0, 0), (24, .iload_n 0, 1, .iload_n 0, 0), (25, .iload_n 0, 1, .iload_n 0, 0), (26, .iconst 4, 1, .iconst 4, 0), (27, .iushr, 1, .iushr, 0), (28, .iadd, 1, .iadd, 0), (29, .iconst 252645135, 3, .ldc_w 267, 863)]
def m_J6_bitCount_r1 : List mj_I := [(32, .iand, 1, .iand, 0), (33, .istore_n 0, 1, .istore_n 0, 0), (34, .iload_n 0, 1, .iload_n 0, 0), (35, .iload_n 0, 1, .iload_n 0, 0), (36, .bipush 8, 2, .bipush 8, 0), (38, .iushr, 1, .iushr, 0), (39, .iadd, 1, .iadd, 0), (40, .istore_n 0, 1, .istore_n 0, 0), (41, .iload_n 0, 1, .iload_n 0, 0), (42, .iload_n 0, 1, .iload_n 0, 0), (43, .bipush 16, 2, .bipush 16, 0), (45, .iushr, 1, .iushr, 0), (46, .iadd, 1, .iadd, 0), (47, .istore_n 0, 1, .istore_n 0, 0), (48, .iload_n 0, 1, .iload_n 0, 0), (49, .bipush 63, 2, .bipush 63, 0), (51, .iand, 1, .iand, 0), (52, .ireturn, 1, .ireturn, 0)]
def m_J6_bitCount_E : List (List mj_I) := [m_J6_bitCount_r0, m_J6_bitCount_r1]
def m_J6_bitCount : mj_M := (yJ6_bitCount_0f7a4, cJ6_bitCount_0f7a4, 1, (some .int), m_J6_bitCount_E)
def m_L_law_r0 : List mj_I := [(0, .new 8, 3, .new 8, 125), (3, .dup, 1, .dup, 0), (4, .invokespecial 17176, 3, .invokespecial 15, 127), (7, .astore_n 1, 1, .astore_n 1, 0), (8, .new 10, 3, .new 16, 1201), (11, .dup, 1, .dup, 0), (12, .invokespecial 40730, 3, .invokespecial 18, 1203), (15, .astore_n 2, 1, .astore_n 2, 0), (16, .iconst 1, 1, .iconst 1, 0), (17, .newarray .long, 2, .newarray .long, 0), (19, .astore_n 3, 1, .astore_n 3, 0), (20, .iconst 0, 1, .iconst 0, 0), (21, .istore 4, 2, .istore 4, 0), (23, .iload 4, 2, .iload 4, 0), (25, .aload_n 0, 1, .aload_n 0, 0), (26, .arraylength, 1, .arraylength, 0), (27, .bipush 6, 2, .bipush 6, 0), (29, .isub, 1, .isub, 0), (30, .if_icmp .gt 2003, 3, .if_icmp .gt 2003, 0)]
def m_L_law_r1 : List mj_I := [(33, .aload_n 0, 1, .aload_n 0, 0), (34, .iload 4, 2, .iload 4, 0), (36, .iaload, 1, .iaload, 0), (37, .bipush 63, 2, .bipush 63, 0), (39, .iand, 1, .iand, 0), (40, .tableswitch 1987 0 52 #[228, 301, 326, 339, 352, 389, 402, 427, 452, 477, 502, 539, 576, 601, 655, 709, 775, 829, 883, 949, 974, 1016, 1070, 1124, 1149, 1162, 1175, 1188, 1213, 1238, 1251, 1264, 1277, 1347, 1389, 1466, 1491, 1516, 1565, 1614, 1651, 1676, 1729, 1742, 1767, 1792, 1817, 1842, 1855, 1868, 1893, 1949, 1974], 228, .tableswitch 1987 0 52 #[228, 301, 326, 339, 352, 389, 402, 427, 452, 477, 502, 539, 576, 601, 655, 709, 775, 829, 883, 949, 974, 1016, 1070, 1124, 1149, 1162, 1175, 1188, 1213, 1238, 1251, 1264, 1277, 1347, 1389, 1466, 1491, 1516, 1565, 1614, 1651, 1676, 1729, 1742, 1767, 1792, 1817, 1842, 1855, 1868, 1893, 1949, 1974], 0)]
def m_L_law_r2 : List mj_I := []
def m_L_law_r3 : List mj_I := []
def m_L_law_r4 : List mj_I := []
def m_L_law_r5 : List mj_I := []
def m_L_law_r6 : List mj_I := []
def m_L_law_r7 : List mj_I := []
def m_L_law_r8 : List mj_I := [(268, .aload_n 1, 1, .aload_n 1, 0), (269, .aload_n 0, 1, .aload_n 0, 0), (270, .iload 4, 2, .iload 4, 0), (272, .iconst 1, 1, .iconst 1, 0), (273, .iadd, 1, .iadd, 0), (274, .iaload, 1, .iaload, 0), (275, .aload_n 0, 1, .aload_n 0, 0), (276, .iload 4, 2, .iload 4, 0), (278, .iconst 2, 1, .iconst 2, 0), (279, .iadd, 1, .iadd, 0), (280, .iaload, 1, .iaload, 0), (281, .aload_n 0, 1, .aload_n 0, 0), (282, .iload 4, 2, .iload 4, 0), (284, .iconst 3, 1, .iconst 3, 0), (285, .iadd, 1, .iadd, 0), (286, .iaload, 1, .iaload, 0), (287, .aload_n 0, 1, .aload_n 0, 0)]
def m_L_law_r9 : List mj_I := [(288, .iload 4, 2, .iload 4, 0), (290, .iconst 4, 1, .iconst 4, 0), (291, .iadd, 1, .iadd, 0), (292, .iaload, 1, .iaload, 0), (293, .aload_n 0, 1, .aload_n 0, 0), (294, .iload 4, 2, .iload 4, 0), (296, .iconst 5, 1, .iconst 5, 0), (297, .iadd, 1, .iadd, 0), (298, .iaload, 1, .iaload, 0), (299, .invokevirtual 17512, 3, .invokevirtual 19, 484), (302, .aload_n 2, 1, .aload_n 2, 0), (303, .aload_n 0, 1, .aload_n 0, 0), (304, .iload 4, 2, .iload 4, 0), (306, .iconst 1, 1, .iconst 1, 0), (307, .iadd, 1, .iadd, 0), (308, .iaload, 1, .iaload, 0), (309, .aload_n 0, 1, .aload_n 0, 0), (310, .iload 4, 2, .iload 4, 0), (312, .iconst 2, 1, .iconst 2, 0), (313, .iadd, 1, .iadd, 0), (314, .iaload, 1, .iaload, 0), (315, .aload_n 0, 1, .aload_n 0, 0), (316, .iload 4, 2, .iload 4, 0), (318, .iconst 3, 1, .iconst 3, 0), (319, .iadd, 1, .iadd, 0)]
def m_L_law_r10 : List mj_I := [(320, .iaload, 1, .iaload, 0), (321, .aload_n 0, 1, .aload_n 0, 0), (322, .iload 4, 2, .iload 4, 0), (324, .iconst 4, 1, .iconst 4, 0), (325, .iadd, 1, .iadd, 0), (326, .iaload, 1, .iaload, 0), (327, .aload_n 0, 1, .aload_n 0, 0), (328, .iload 4, 2, .iload 4, 0), (330, .iconst 5, 1, .iconst 5, 0), (331, .iadd, 1, .iadd, 0), (332, .iaload, 1, .iaload, 0), (333, .invokevirtual 49770, 3, .invokevirtual 23, 1326), (336, .if_icmp .eq 1691, 3, .if_icmp .eq 1691, 0), (339, .iconst 0, 1, .iconst 0, 0), (340, .ireturn, 1, .ireturn, 0), (341, .aload_n 1, 1, .aload_n 1, 0), (342, .aload_n 0, 1, .aload_n 0, 0), (343, .iload 4, 2, .iload 4, 0), (345, .iconst 1, 1, .iconst 1, 0), (346, .iadd, 1, .iadd, 0), (347, .iaload, 1, .iaload, 0), (348, .invokevirtual 17704, 3, .invokevirtual 24, 496), (351, .aload_n 2, 1, .aload_n 2, 0)]
def m_L_law_r11 : List mj_I := [(352, .aload_n 0, 1, .aload_n 0, 0), (353, .iload 4, 2, .iload 4, 0), (355, .iconst 1, 1, .iconst 1, 0), (356, .iadd, 1, .iadd, 0), (357, .iaload, 1, .iaload, 0), (358, .invokevirtual 49962, 3, .invokevirtual 27, 1330), (361, .if_icmp .eq 1666, 3, .if_icmp .eq 1666, 0), (364, .iconst 0, 1, .iconst 0, 0), (365, .ireturn, 1, .ireturn, 0), (366, .aload_n 1, 1, .aload_n 1, 0), (367, .invokevirtual 17944, 3, .invokevirtual 28, 675), (370, .aload_n 2, 1, .aload_n 2, 0), (371, .invokevirtual 50202, 3, .invokevirtual 32, 1528), (374, .if_icmp .eq 1653, 3, .if_icmp .eq 1653, 0), (377, .iconst 0, 1, .iconst 0, 0), (378, .ireturn, 1, .ireturn, 0), (379, .aload_n 1, 1, .aload_n 1, 0), (380, .invokevirtual 18200, 3, .invokevirtual 33, 679), (383, .aload_n 2, 1, .aload_n 2, 0)]
def m_L_law_r12 : List mj_I := [(384, .invokevirtual 50458, 3, .invokevirtual 36, 1532), (387, .if_icmp .eq 1640, 3, .if_icmp .eq 1640, 0), (390, .iconst 0, 1, .iconst 0, 0), (391, .ireturn, 1, .ireturn, 0), (392, .aload_n 1, 1, .aload_n 1, 0), (393, .aload_n 0, 1, .aload_n 0, 0), (394, .iload 4, 2, .iload 4, 0), (396, .iconst 1, 1, .iconst 1, 0), (397, .iadd, 1, .iadd, 0), (398, .iaload, 1, .iaload, 0), (399, .aload_n 0, 1, .aload_n 0, 0), (400, .iload 4, 2, .iload 4, 0), (402, .iconst 2, 1, .iconst 2, 0), (403, .iadd, 1, .iadd, 0), (404, .iaload, 1, .iaload, 0), (405, .invokevirtual 18488, 3, .invokevirtual 37, 683), (408, .aload_n 2, 1, .aload_n 2, 0), (409, .aload_n 0, 1, .aload_n 0, 0), (410, .iload 4, 2, .iload 4, 0), (412, .iconst 1, 1, .iconst 1, 0), (413, .iadd, 1, .iadd, 0), (414, .iaload, 1, .iaload, 0), (415, .aload_n 0, 1, .aload_n 0, 0)]
def m_L_law_r13 : List mj_I := [(416, .iload 4, 2, .iload 4, 0), (418, .iconst 2, 1, .iconst 2, 0), (419, .iadd, 1, .iadd, 0), (420, .iaload, 1, .iaload, 0), (421, .invokevirtual 54842, 3, .invokevirtual 41, 1536), (424, .if_icmp .eq 1603, 3, .if_icmp .eq 1603, 0), (427, .iconst 0, 1, .iconst 0, 0), (428, .ireturn, 1, .ireturn, 0), (429, .aload_n 1, 1, .aload_n 1, 0), (430, .invokevirtual 18712, 3, .invokevirtual 42, 691), (433, .aload_n 2, 1, .aload_n 2, 0), (434, .invokevirtual 55066, 3, .invokevirtual 45, 1544), (437, .if_icmp .eq 1590, 3, .if_icmp .eq 1590, 0), (440, .iconst 0, 1, .iconst 0, 0), (441, .ireturn, 1, .ireturn, 0), (442, .aload_n 1, 1, .aload_n 1, 0), (443, .aload_n 0, 1, .aload_n 0, 0), (444, .iload 4, 2, .iload 4, 0), (446, .iconst 1, 1, .iconst 1, 0), (447, .iadd, 1, .iadd, 0)]
def m_L_law_r14 : List mj_I := [(448, .iaload, 1, .iaload, 0), (449, .invokevirtual 18984, 3, .invokevirtual 46, 695), (452, .aload_n 2, 1, .aload_n 2, 0), (453, .aload_n 0, 1, .aload_n 0, 0), (454, .iload 4, 2, .iload 4, 0), (456, .iconst 1, 1, .iconst 1, 0), (457, .iadd, 1, .iadd, 0), (458, .iaload, 1, .iaload, 0), (459, .invokevirtual 55338, 3, .invokevirtual 49, 1548), (462, .if_icmp .eq 1565, 3, .if_icmp .eq 1565, 0), (465, .iconst 0, 1, .iconst 0, 0), (466, .ireturn, 1, .ireturn, 0), (467, .aload_n 1, 1, .aload_n 1, 0), (468, .aload_n 0, 1, .aload_n 0, 0), (469, .iload 4, 2, .iload 4, 0), (471, .iconst 1, 1, .iconst 1, 0), (472, .iadd, 1, .iadd, 0), (473, .iaload, 1, .iaload, 0), (474, .invokevirtual 19240, 3, .invokevirtual 50, 702), (477, .aload_n 2, 1, .aload_n 2, 0), (478, .aload_n 0, 1, .aload_n 0, 0), (479, .iload 4, 2, .iload 4, 0)]
def m_L_law_r15 : List mj_I := [(481, .iconst 1, 1, .iconst 1, 0), (482, .iadd, 1, .iadd, 0), (483, .iaload, 1, .iaload, 0), (484, .invokevirtual 55594, 3, .invokevirtual 53, 1552), (487, .if_icmp .eq 1540, 3, .if_icmp .eq 1540, 0), (490, .iconst 0, 1, .iconst 0, 0), (491, .ireturn, 1, .ireturn, 0), (492, .aload_n 1, 1, .aload_n 1, 0), (493, .aload_n 0, 1, .aload_n 0, 0), (494, .iload 4, 2, .iload 4, 0), (496, .iconst 1, 1, .iconst 1, 0), (497, .iadd, 1, .iadd, 0), (498, .iaload, 1, .iaload, 0), (499, .invokevirtual 19496, 3, .invokevirtual 54, 711), (502, .aload_n 2, 1, .aload_n 2, 0), (503, .aload_n 0, 1, .aload_n 0, 0), (504, .iload 4, 2, .iload 4, 0), (506, .iconst 1, 1, .iconst 1, 0), (507, .iadd, 1, .iadd, 0), (508, .iaload, 1, .iaload, 0), (509, .invokevirtual 56362, 3, .invokevirtual 57, 1564)]
def m_L_law_r16 : List mj_I := [(512, .if_icmp .eq 1515, 3, .if_icmp .eq 1515, 0), (515, .iconst 0, 1, .iconst 0, 0), (516, .ireturn, 1, .ireturn, 0), (517, .aload_n 1, 1, .aload_n 1, 0), (518, .aload_n 0, 1, .aload_n 0, 0), (519, .iload 4, 2, .iload 4, 0), (521, .iconst 1, 1, .iconst 1, 0), (522, .iadd, 1, .iadd, 0), (523, .iaload, 1, .iaload, 0), (524, .invokevirtual 19752, 3, .invokevirtual 58, 732), (527, .aload_n 2, 1, .aload_n 2, 0), (528, .aload_n 0, 1, .aload_n 0, 0), (529, .iload 4, 2, .iload 4, 0), (531, .iconst 1, 1, .iconst 1, 0), (532, .iadd, 1, .iadd, 0), (533, .iaload, 1, .iaload, 0), (534, .invokevirtual 56618, 3, .invokevirtual 61, 1591), (537, .if_icmp .eq 1490, 3, .if_icmp .eq 1490, 0), (540, .iconst 0, 1, .iconst 0, 0), (541, .ireturn, 1, .ireturn, 0), (542, .aload_n 1, 1, .aload_n 1, 0), (543, .aload_n 0, 1, .aload_n 0, 0)]
def m_L_law_r17 : List mj_I := [(544, .iload 4, 2, .iload 4, 0), (546, .iconst 1, 1, .iconst 1, 0), (547, .iadd, 1, .iadd, 0), (548, .iaload, 1, .iaload, 0), (549, .aload_n 0, 1, .aload_n 0, 0), (550, .iload 4, 2, .iload 4, 0), (552, .iconst 2, 1, .iconst 2, 0), (553, .iadd, 1, .iadd, 0), (554, .iaload, 1, .iaload, 0), (555, .invokevirtual 20024, 3, .invokevirtual 62, 739), (558, .aload_n 2, 1, .aload_n 2, 0), (559, .aload_n 0, 1, .aload_n 0, 0), (560, .iload 4, 2, .iload 4, 0), (562, .iconst 1, 1, .iconst 1, 0), (563, .iadd, 1, .iadd, 0), (564, .iaload, 1, .iaload, 0), (565, .aload_n 0, 1, .aload_n 0, 0), (566, .iload 4, 2, .iload 4, 0), (568, .iconst 2, 1, .iconst 2, 0), (569, .iadd, 1, .iadd, 0), (570, .iaload, 1, .iaload, 0), (571, .invokevirtual 56890, 3, .invokevirtual 65, 1599), (574, .if_icmp .eq 1453, 3, .if_icmp .eq 1453, 0)]
def m_L_law_r18 : List mj_I := [(577, .iconst 0, 1, .iconst 0, 0), (578, .ireturn, 1, .ireturn, 0), (579, .aload_n 1, 1, .aload_n 1, 0), (580, .aload_n 0, 1, .aload_n 0, 0), (581, .iload 4, 2, .iload 4, 0), (583, .iconst 1, 1, .iconst 1, 0), (584, .iadd, 1, .iadd, 0), (585, .iaload, 1, .iaload, 0), (586, .aload_n 0, 1, .aload_n 0, 0), (587, .iload 4, 2, .iload 4, 0), (589, .iconst 2, 1, .iconst 2, 0), (590, .iadd, 1, .iadd, 0), (591, .iaload, 1, .iaload, 0), (592, .invokevirtual 20280, 3, .invokevirtual 66, 743), (595, .aload_n 2, 1, .aload_n 2, 0), (596, .aload_n 0, 1, .aload_n 0, 0), (597, .iload 4, 2, .iload 4, 0), (599, .iconst 1, 1, .iconst 1, 0), (600, .iadd, 1, .iadd, 0), (601, .iaload, 1, .iaload, 0), (602, .aload_n 0, 1, .aload_n 0, 0), (603, .iload 4, 2, .iload 4, 0), (605, .iconst 2, 1, .iconst 2, 0), (606, .iadd, 1, .iadd, 0), (607, .iaload, 1, .iaload, 0)]
def m_L_law_r19 : List mj_I := [(608, .invokevirtual 57146, 3, .invokevirtual 69, 1603), (611, .if_icmp .eq 1416, 3, .if_icmp .eq 1416, 0), (614, .iconst 0, 1, .iconst 0, 0), (615, .ireturn, 1, .ireturn, 0), (616, .aload_n 1, 1, .aload_n 1, 0), (617, .aload_n 0, 1, .aload_n 0, 0), (618, .iload 4, 2, .iload 4, 0), (620, .iconst 1, 1, .iconst 1, 0), (621, .iadd, 1, .iadd, 0), (622, .iaload, 1, .iaload, 0), (623, .invokevirtual 20520, 3, .invokevirtual 70, 751), (626, .aload_n 2, 1, .aload_n 2, 0), (627, .aload_n 0, 1, .aload_n 0, 0), (628, .iload 4, 2, .iload 4, 0), (630, .iconst 1, 1, .iconst 1, 0), (631, .iadd, 1, .iadd, 0), (632, .iaload, 1, .iaload, 0), (633, .invokevirtual 57386, 3, .invokevirtual 73, 1611), (636, .if_icmp .eq 1391, 3, .if_icmp .eq 1391, 0), (639, .iconst 0, 1, .iconst 0, 0)]
def m_L_law_r20 : List mj_I := [(640, .ireturn, 1, .ireturn, 0), (641, .aload_n 1, 1, .aload_n 1, 0), (642, .aload_n 0, 1, .aload_n 0, 0), (643, .iload 4, 2, .iload 4, 0), (645, .iconst 1, 1, .iconst 1, 0), (646, .iadd, 1, .iadd, 0), (647, .iaload, 1, .iaload, 0), (648, .aload_n 0, 1, .aload_n 0, 0), (649, .iload 4, 2, .iload 4, 0), (651, .iconst 2, 1, .iconst 2, 0), (652, .iadd, 1, .iadd, 0), (653, .iaload, 1, .iaload, 0), (654, .ifCond .eq 7, 3, .ifCond .eq 7, 0), (657, .iconst 1, 1, .iconst 1, 0), (658, .goto 4, 3, .goto 4, 0), (661, .iconst 0, 1, .iconst 0, 0), (662, .invokevirtual 21304, 3, .invokevirtual 74, 770), (665, .aload_n 2, 1, .aload_n 2, 0), (666, .aload_n 0, 1, .aload_n 0, 0), (667, .iload 4, 2, .iload 4, 0), (669, .iconst 1, 1, .iconst 1, 0), (670, .iadd, 1, .iadd, 0), (671, .iaload, 1, .iaload, 0)]
def m_L_law_r21 : List mj_I := [(672, .aload_n 0, 1, .aload_n 0, 0), (673, .iload 4, 2, .iload 4, 0), (675, .iconst 2, 1, .iconst 2, 0), (676, .iadd, 1, .iadd, 0), (677, .iaload, 1, .iaload, 0), (678, .ifCond .eq 7, 3, .ifCond .eq 7, 0), (681, .iconst 1, 1, .iconst 1, 0), (682, .goto 4, 3, .goto 4, 0), (685, .iconst 0, 1, .iconst 0, 0), (686, .invokevirtual 57914, 3, .invokevirtual 78, 1631), (689, .lcmp, 1, .lcmp, 0), (690, .ifCond .eq 1337, 3, .ifCond .eq 1337, 0), (693, .iconst 0, 1, .iconst 0, 0), (694, .ireturn, 1, .ireturn, 0), (695, .aload_n 1, 1, .aload_n 1, 0), (696, .aload_n 0, 1, .aload_n 0, 0), (697, .iload 4, 2, .iload 4, 0), (699, .iconst 1, 1, .iconst 1, 0), (700, .iadd, 1, .iadd, 0), (701, .iaload, 1, .iaload, 0), (702, .aload_n 0, 1, .aload_n 0, 0), (703, .iload 4, 2, .iload 4, 0)]
def m_L_law_r22 : List mj_I := [(705, .iconst 2, 1, .iconst 2, 0), (706, .iadd, 1, .iadd, 0), (707, .iaload, 1, .iaload, 0), (708, .ifCond .eq 7, 3, .ifCond .eq 7, 0), (711, .iconst 1, 1, .iconst 1, 0), (712, .goto 4, 3, .goto 4, 0), (715, .iconst 0, 1, .iconst 0, 0), (716, .invokevirtual 21560, 3, .invokevirtual 79, 810), (719, .aload_n 2, 1, .aload_n 2, 0), (720, .aload_n 0, 1, .aload_n 0, 0), (721, .iload 4, 2, .iload 4, 0), (723, .iconst 1, 1, .iconst 1, 0), (724, .iadd, 1, .iadd, 0), (725, .iaload, 1, .iaload, 0), (726, .aload_n 0, 1, .aload_n 0, 0), (727, .iload 4, 2, .iload 4, 0), (729, .iconst 2, 1, .iconst 2, 0), (730, .iadd, 1, .iadd, 0), (731, .iaload, 1, .iaload, 0), (732, .ifCond .eq 7, 3, .ifCond .eq 7, 0), (735, .iconst 1, 1, .iconst 1, 0)]
def m_L_law_r23 : List mj_I := [(736, .goto 4, 3, .goto 4, 0), (739, .iconst 0, 1, .iconst 0, 0), (740, .invokevirtual 58170, 3, .invokevirtual 82, 1658), (743, .lcmp, 1, .lcmp, 0), (744, .ifCond .eq 1283, 3, .ifCond .eq 1283, 0), (747, .iconst 0, 1, .iconst 0, 0), (748, .ireturn, 1, .ireturn, 0), (749, .aload_n 1, 1, .aload_n 1, 0), (750, .aload_n 0, 1, .aload_n 0, 0), (751, .iload 4, 2, .iload 4, 0), (753, .iconst 1, 1, .iconst 1, 0), (754, .iadd, 1, .iadd, 0), (755, .iaload, 1, .iaload, 0), (756, .aload_n 0, 1, .aload_n 0, 0), (757, .iload 4, 2, .iload 4, 0), (759, .iconst 2, 1, .iconst 2, 0), (760, .iadd, 1, .iadd, 0), (761, .iaload, 1, .iaload, 0), (762, .aload_n 0, 1, .aload_n 0, 0), (763, .iload 4, 2, .iload 4, 0), (765, .iconst 3, 1, .iconst 3, 0), (766, .iadd, 1, .iadd, 0), (767, .iaload, 1, .iaload, 0)]
def m_L_law_r24 : List mj_I := [(768, .ifCond .eq 7, 3, .ifCond .eq 7, 0), (771, .iconst 1, 1, .iconst 1, 0), (772, .goto 4, 3, .goto 4, 0), (775, .iconst 0, 1, .iconst 0, 0), (776, .invokevirtual 21832, 3, .invokevirtual 83, 826), (779, .aload_n 2, 1, .aload_n 2, 0), (780, .aload_n 0, 1, .aload_n 0, 0), (781, .iload 4, 2, .iload 4, 0), (783, .iconst 1, 1, .iconst 1, 0), (784, .iadd, 1, .iadd, 0), (785, .iaload, 1, .iaload, 0), (786, .aload_n 0, 1, .aload_n 0, 0), (787, .iload 4, 2, .iload 4, 0), (789, .iconst 2, 1, .iconst 2, 0), (790, .iadd, 1, .iadd, 0), (791, .iaload, 1, .iaload, 0), (792, .aload_n 0, 1, .aload_n 0, 0), (793, .iload 4, 2, .iload 4, 0), (795, .iconst 3, 1, .iconst 3, 0), (796, .iadd, 1, .iadd, 0), (797, .iaload, 1, .iaload, 0), (798, .ifCond .eq 7, 3, .ifCond .eq 7, 0)]
def m_L_law_r25 : List mj_I := [(801, .iconst 1, 1, .iconst 1, 0), (802, .goto 4, 3, .goto 4, 0), (805, .iconst 0, 1, .iconst 0, 0), (806, .invokevirtual 58442, 3, .invokevirtual 87, 1662), (809, .lcmp, 1, .lcmp, 0), (810, .ifCond .eq 1217, 3, .ifCond .eq 1217, 0), (813, .iconst 0, 1, .iconst 0, 0), (814, .ireturn, 1, .ireturn, 0), (815, .aload_n 1, 1, .aload_n 1, 0), (816, .aload_n 0, 1, .aload_n 0, 0), (817, .iload 4, 2, .iload 4, 0), (819, .iconst 1, 1, .iconst 1, 0), (820, .iadd, 1, .iadd, 0), (821, .iaload, 1, .iaload, 0), (822, .aload_n 0, 1, .aload_n 0, 0), (823, .iload 4, 2, .iload 4, 0), (825, .iconst 2, 1, .iconst 2, 0), (826, .iadd, 1, .iadd, 0), (827, .iaload, 1, .iaload, 0), (828, .ifCond .eq 7, 3, .ifCond .eq 7, 0), (831, .iconst 1, 1, .iconst 1, 0)]
def m_L_law_r26 : List mj_I := [(832, .goto 4, 3, .goto 4, 0), (835, .iconst 0, 1, .iconst 0, 0), (836, .invokevirtual 22072, 3, .invokevirtual 88, 834), (839, .aload_n 2, 1, .aload_n 2, 0), (840, .aload_n 0, 1, .aload_n 0, 0), (841, .iload 4, 2, .iload 4, 0), (843, .iconst 1, 1, .iconst 1, 0), (844, .iadd, 1, .iadd, 0), (845, .iaload, 1, .iaload, 0), (846, .aload_n 0, 1, .aload_n 0, 0), (847, .iload 4, 2, .iload 4, 0), (849, .iconst 2, 1, .iconst 2, 0), (850, .iadd, 1, .iadd, 0), (851, .iaload, 1, .iaload, 0), (852, .ifCond .eq 7, 3, .ifCond .eq 7, 0), (855, .iconst 1, 1, .iconst 1, 0), (856, .goto 4, 3, .goto 4, 0), (859, .iconst 0, 1, .iconst 0, 0), (860, .invokevirtual 58682, 3, .invokevirtual 91, 1666), (863, .lcmp, 1, .lcmp, 0)]
def m_L_law_r27 : List mj_I := [(864, .ifCond .eq 1163, 3, .ifCond .eq 1163, 0), (867, .iconst 0, 1, .iconst 0, 0), (868, .ireturn, 1, .ireturn, 0), (869, .aload_n 1, 1, .aload_n 1, 0), (870, .aload_n 0, 1, .aload_n 0, 0), (871, .iload 4, 2, .iload 4, 0), (873, .iconst 1, 1, .iconst 1, 0), (874, .iadd, 1, .iadd, 0), (875, .iaload, 1, .iaload, 0), (876, .aload_n 0, 1, .aload_n 0, 0), (877, .iload 4, 2, .iload 4, 0), (879, .iconst 2, 1, .iconst 2, 0), (880, .iadd, 1, .iadd, 0), (881, .iaload, 1, .iaload, 0), (882, .ifCond .eq 7, 3, .ifCond .eq 7, 0), (885, .iconst 1, 1, .iconst 1, 0), (886, .goto 4, 3, .goto 4, 0), (889, .iconst 0, 1, .iconst 0, 0), (890, .invokevirtual 22328, 3, .invokevirtual 92, 846), (893, .aload_n 2, 1, .aload_n 2, 0), (894, .aload_n 0, 1, .aload_n 0, 0), (895, .iload 4, 2, .iload 4, 0)]
def m_L_law_r28 : List mj_I := [(897, .iconst 1, 1, .iconst 1, 0), (898, .iadd, 1, .iadd, 0), (899, .iaload, 1, .iaload, 0), (900, .aload_n 0, 1, .aload_n 0, 0), (901, .iload 4, 2, .iload 4, 0), (903, .iconst 2, 1, .iconst 2, 0), (904, .iadd, 1, .iadd, 0), (905, .iaload, 1, .iaload, 0), (906, .ifCond .eq 7, 3, .ifCond .eq 7, 0), (909, .iconst 1, 1, .iconst 1, 0), (910, .goto 4, 3, .goto 4, 0), (913, .iconst 0, 1, .iconst 0, 0), (914, .invokevirtual 59194, 3, .invokevirtual 95, 1670), (917, .lcmp, 1, .lcmp, 0), (918, .ifCond .eq 1109, 3, .ifCond .eq 1109, 0), (921, .iconst 0, 1, .iconst 0, 0), (922, .ireturn, 1, .ireturn, 0), (923, .aload_n 1, 1, .aload_n 1, 0), (924, .aload_n 0, 1, .aload_n 0, 0), (925, .iload 4, 2, .iload 4, 0), (927, .iconst 1, 1, .iconst 1, 0)]
def m_L_law_r29 : List mj_I := [(928, .iadd, 1, .iadd, 0), (929, .iaload, 1, .iaload, 0), (930, .aload_n 0, 1, .aload_n 0, 0), (931, .iload 4, 2, .iload 4, 0), (933, .iconst 2, 1, .iconst 2, 0), (934, .iadd, 1, .iadd, 0), (935, .iaload, 1, .iaload, 0), (936, .aload_n 0, 1, .aload_n 0, 0), (937, .iload 4, 2, .iload 4, 0), (939, .iconst 3, 1, .iconst 3, 0), (940, .iadd, 1, .iadd, 0), (941, .iaload, 1, .iaload, 0), (942, .ifCond .eq 7, 3, .ifCond .eq 7, 0), (945, .iconst 1, 1, .iconst 1, 0), (946, .goto 4, 3, .goto 4, 0), (949, .iconst 0, 1, .iconst 0, 0), (950, .invokevirtual 22600, 3, .invokevirtual 96, 864), (953, .aload_n 2, 1, .aload_n 2, 0), (954, .aload_n 0, 1, .aload_n 0, 0), (955, .iload 4, 2, .iload 4, 0), (957, .iconst 1, 1, .iconst 1, 0), (958, .iadd, 1, .iadd, 0), (959, .iaload, 1, .iaload, 0)]
def m_L_law_r30 : List mj_I := [(960, .aload_n 0, 1, .aload_n 0, 0), (961, .iload 4, 2, .iload 4, 0), (963, .iconst 2, 1, .iconst 2, 0), (964, .iadd, 1, .iadd, 0), (965, .iaload, 1, .iaload, 0), (966, .aload_n 0, 1, .aload_n 0, 0), (967, .iload 4, 2, .iload 4, 0), (969, .iconst 3, 1, .iconst 3, 0), (970, .iadd, 1, .iadd, 0), (971, .iaload, 1, .iaload, 0), (972, .ifCond .eq 7, 3, .ifCond .eq 7, 0), (975, .iconst 1, 1, .iconst 1, 0), (976, .goto 4, 3, .goto 4, 0), (979, .iconst 0, 1, .iconst 0, 0), (980, .invokevirtual 59466, 3, .invokevirtual 99, 1682), (983, .lcmp, 1, .lcmp, 0), (984, .ifCond .eq 1043, 3, .ifCond .eq 1043, 0), (987, .iconst 0, 1, .iconst 0, 0), (988, .ireturn, 1, .ireturn, 0), (989, .aload_n 1, 1, .aload_n 1, 0), (990, .aload_n 0, 1, .aload_n 0, 0), (991, .iload 4, 2, .iload 4, 0)]
def m_L_law_r31 : List mj_I := [(993, .iconst 1, 1, .iconst 1, 0), (994, .iadd, 1, .iadd, 0), (995, .iaload, 1, .iaload, 0), (996, .invokevirtual 22824, 3, .invokevirtual 100, 872), (999, .aload_n 2, 1, .aload_n 2, 0), (1000, .aload_n 0, 1, .aload_n 0, 0), (1001, .iload 4, 2, .iload 4, 0), (1003, .iconst 1, 1, .iconst 1, 0), (1004, .iadd, 1, .iadd, 0), (1005, .iaload, 1, .iaload, 0), (1006, .invokevirtual 59690, 3, .invokevirtual 103, 1686), (1009, .if_icmp .eq 1018, 3, .if_icmp .eq 1018, 0), (1012, .iconst 0, 1, .iconst 0, 0), (1013, .ireturn, 1, .ireturn, 0), (1014, .aload_n 1, 1, .aload_n 1, 0), (1015, .aload_n 0, 1, .aload_n 0, 0), (1016, .iload 4, 2, .iload 4, 0), (1018, .iconst 1, 1, .iconst 1, 0), (1019, .iadd, 1, .iadd, 0), (1020, .iaload, 1, .iaload, 0), (1021, .ifCond .eq 7, 3, .ifCond .eq 7, 0)]
def m_L_law_r32 : List mj_I := [(1024, .iconst 1, 1, .iconst 1, 0), (1025, .goto 4, 3, .goto 4, 0), (1028, .iconst 0, 1, .iconst 0, 0), (1029, .invokevirtual 23080, 3, .invokevirtual 104, 876), (1032, .aload_n 2, 1, .aload_n 2, 0), (1033, .aload_n 0, 1, .aload_n 0, 0), (1034, .iload 4, 2, .iload 4, 0), (1036, .iconst 1, 1, .iconst 1, 0), (1037, .iadd, 1, .iadd, 0), (1038, .iaload, 1, .iaload, 0), (1039, .ifCond .eq 7, 3, .ifCond .eq 7, 0), (1042, .iconst 1, 1, .iconst 1, 0), (1043, .goto 4, 3, .goto 4, 0), (1046, .iconst 0, 1, .iconst 0, 0), (1047, .invokevirtual 59946, 3, .invokevirtual 108, 1690), (1050, .lcmp, 1, .lcmp, 0), (1051, .ifCond .eq 976, 3, .ifCond .eq 976, 0), (1054, .iconst 0, 1, .iconst 0, 0), (1055, .ireturn, 1, .ireturn, 0)]
def m_L_law_r33 : List mj_I := [(1056, .aload_n 1, 1, .aload_n 1, 0), (1057, .aload_n 0, 1, .aload_n 0, 0), (1058, .iload 4, 2, .iload 4, 0), (1060, .iconst 1, 1, .iconst 1, 0), (1061, .iadd, 1, .iadd, 0), (1062, .iaload, 1, .iaload, 0), (1063, .aload_n 0, 1, .aload_n 0, 0), (1064, .iload 4, 2, .iload 4, 0), (1066, .iconst 2, 1, .iconst 2, 0), (1067, .iadd, 1, .iadd, 0), (1068, .iaload, 1, .iaload, 0), (1069, .ifCond .eq 7, 3, .ifCond .eq 7, 0), (1072, .iconst 1, 1, .iconst 1, 0), (1073, .goto 4, 3, .goto 4, 0), (1076, .iconst 0, 1, .iconst 0, 0), (1077, .invokevirtual 23352, 3, .invokevirtual 109, 885), (1080, .aload_n 2, 1, .aload_n 2, 0), (1081, .aload_n 0, 1, .aload_n 0, 0), (1082, .iload 4, 2, .iload 4, 0), (1084, .iconst 1, 1, .iconst 1, 0), (1085, .iadd, 1, .iadd, 0), (1086, .iaload, 1, .iaload, 0), (1087, .aload_n 0, 1, .aload_n 0, 0)]
def m_L_law_r34 : List mj_I := [(1088, .iload 4, 2, .iload 4, 0), (1090, .iconst 2, 1, .iconst 2, 0), (1091, .iadd, 1, .iadd, 0), (1092, .iaload, 1, .iaload, 0), (1093, .ifCond .eq 7, 3, .ifCond .eq 7, 0), (1096, .iconst 1, 1, .iconst 1, 0), (1097, .goto 4, 3, .goto 4, 0), (1100, .iconst 0, 1, .iconst 0, 0), (1101, .invokevirtual 60218, 3, .invokevirtual 112, 1694), (1104, .lcmp, 1, .lcmp, 0), (1105, .ifCond .eq 922, 3, .ifCond .eq 922, 0), (1108, .iconst 0, 1, .iconst 0, 0), (1109, .ireturn, 1, .ireturn, 0), (1110, .aload_n 1, 1, .aload_n 1, 0), (1111, .aload_n 0, 1, .aload_n 0, 0), (1112, .iload 4, 2, .iload 4, 0), (1114, .iconst 1, 1, .iconst 1, 0), (1115, .iadd, 1, .iadd, 0), (1116, .iaload, 1, .iaload, 0), (1117, .aload_n 0, 1, .aload_n 0, 0), (1118, .iload 4, 2, .iload 4, 0)]
def m_L_law_r35 : List mj_I := [(1120, .iconst 2, 1, .iconst 2, 0), (1121, .iadd, 1, .iadd, 0), (1122, .iaload, 1, .iaload, 0), (1123, .ifCond .eq 7, 3, .ifCond .eq 7, 0), (1126, .iconst 1, 1, .iconst 1, 0), (1127, .goto 4, 3, .goto 4, 0), (1130, .iconst 0, 1, .iconst 0, 0), (1131, .invokevirtual 23608, 3, .invokevirtual 113, 893), (1134, .aload_n 2, 1, .aload_n 2, 0), (1135, .aload_n 0, 1, .aload_n 0, 0), (1136, .iload 4, 2, .iload 4, 0), (1138, .iconst 1, 1, .iconst 1, 0), (1139, .iadd, 1, .iadd, 0), (1140, .iaload, 1, .iaload, 0), (1141, .aload_n 0, 1, .aload_n 0, 0), (1142, .iload 4, 2, .iload 4, 0), (1144, .iconst 2, 1, .iconst 2, 0), (1145, .iadd, 1, .iadd, 0), (1146, .iaload, 1, .iaload, 0), (1147, .ifCond .eq 7, 3, .ifCond .eq 7, 0), (1150, .iconst 1, 1, .iconst 1, 0), (1151, .goto 4, 3, .goto 4, 0)]
def m_L_law_r36 : List mj_I := [(1154, .iconst 0, 1, .iconst 0, 0), (1155, .invokevirtual 60986, 3, .invokevirtual 116, 1698), (1158, .lcmp, 1, .lcmp, 0), (1159, .ifCond .eq 868, 3, .ifCond .eq 868, 0), (1162, .iconst 0, 1, .iconst 0, 0), (1163, .ireturn, 1, .ireturn, 0), (1164, .aload_n 1, 1, .aload_n 1, 0), (1165, .aload_n 0, 1, .aload_n 0, 0), (1166, .iload 4, 2, .iload 4, 0), (1168, .iconst 1, 1, .iconst 1, 0), (1169, .iadd, 1, .iadd, 0), (1170, .iaload, 1, .iaload, 0), (1171, .invokevirtual 23848, 3, .invokevirtual 117, 908), (1174, .aload_n 2, 1, .aload_n 2, 0), (1175, .aload_n 0, 1, .aload_n 0, 0), (1176, .iload 4, 2, .iload 4, 0), (1178, .iconst 1, 1, .iconst 1, 0), (1179, .iadd, 1, .iadd, 0), (1180, .iaload, 1, .iaload, 0), (1181, .invokevirtual 61226, 3, .invokevirtual 120, 1710)]
def m_L_law_r37 : List mj_I := [(1184, .if_icmp .eq 843, 3, .if_icmp .eq 843, 0), (1187, .iconst 0, 1, .iconst 0, 0), (1188, .ireturn, 1, .ireturn, 0), (1189, .aload_n 1, 1, .aload_n 1, 0), (1190, .invokevirtual 24088, 3, .invokevirtual 121, 912), (1193, .aload_n 2, 1, .aload_n 2, 0), (1194, .invokevirtual 61466, 3, .invokevirtual 124, 1714), (1197, .if_icmp .eq 830, 3, .if_icmp .eq 830, 0), (1200, .iconst 0, 1, .iconst 0, 0), (1201, .ireturn, 1, .ireturn, 0), (1202, .aload_n 1, 1, .aload_n 1, 0), (1203, .invokevirtual 24344, 3, .invokevirtual 125, 916), (1206, .aload_n 2, 1, .aload_n 2, 0), (1207, .invokevirtual 61722, 3, .invokevirtual 128, 1718), (1210, .if_icmp .eq 817, 3, .if_icmp .eq 817, 0), (1213, .iconst 0, 1, .iconst 0, 0), (1214, .ireturn, 1, .ireturn, 0), (1215, .aload_n 1, 1, .aload_n 1, 0)]
def m_L_law_r38 : List mj_I := [(1216, .invokevirtual 24856, 3, .invokevirtual 129, 920), (1219, .aload_n 2, 1, .aload_n 2, 0), (1220, .invokevirtual 62234, 3, .invokevirtual 132, 1722), (1223, .if_icmp .eq 804, 3, .if_icmp .eq 804, 0), (1226, .iconst 0, 1, .iconst 0, 0), (1227, .ireturn, 1, .ireturn, 0), (1228, .aload_n 1, 1, .aload_n 1, 0), (1229, .aload_n 0, 1, .aload_n 0, 0), (1230, .iload 4, 2, .iload 4, 0), (1232, .iconst 1, 1, .iconst 1, 0), (1233, .iadd, 1, .iadd, 0), (1234, .iaload, 1, .iaload, 0), (1235, .invokevirtual 25128, 3, .invokevirtual 133, 940), (1238, .aload_n 2, 1, .aload_n 2, 0), (1239, .aload_n 0, 1, .aload_n 0, 0), (1240, .iload 4, 2, .iload 4, 0), (1242, .iconst 1, 1, .iconst 1, 0), (1243, .iadd, 1, .iadd, 0), (1244, .iaload, 1, .iaload, 0), (1245, .invokevirtual 63018, 3, .invokevirtual 136, 1730)]
def m_L_law_r39 : List mj_I := [(1248, .if_icmp .eq 779, 3, .if_icmp .eq 779, 0), (1251, .iconst 0, 1, .iconst 0, 0), (1252, .ireturn, 1, .ireturn, 0), (1253, .aload_n 1, 1, .aload_n 1, 0), (1254, .aload_n 0, 1, .aload_n 0, 0), (1255, .iload 4, 2, .iload 4, 0), (1257, .iconst 1, 1, .iconst 1, 0), (1258, .iadd, 1, .iadd, 0), (1259, .iaload, 1, .iaload, 0), (1260, .invokevirtual 25384, 3, .invokevirtual 137, 952), (1263, .aload_n 2, 1, .aload_n 2, 0), (1264, .aload_n 0, 1, .aload_n 0, 0), (1265, .iload 4, 2, .iload 4, 0), (1267, .iconst 1, 1, .iconst 1, 0), (1268, .iadd, 1, .iadd, 0), (1269, .iaload, 1, .iaload, 0), (1270, .invokevirtual 63274, 3, .invokevirtual 140, 1742), (1273, .if_icmp .eq 754, 3, .if_icmp .eq 754, 0), (1276, .iconst 0, 1, .iconst 0, 0), (1277, .ireturn, 1, .ireturn, 0), (1278, .aload_n 1, 1, .aload_n 1, 0), (1279, .invokevirtual 25624, 3, .invokevirtual 141, 960)]
def m_L_law_r40 : List mj_I := [(1282, .aload_n 2, 1, .aload_n 2, 0), (1283, .invokevirtual 63770, 3, .invokevirtual 144, 1746), (1286, .if_icmp .eq 741, 3, .if_icmp .eq 741, 0), (1289, .iconst 0, 1, .iconst 0, 0), (1290, .ireturn, 1, .ireturn, 0), (1291, .aload_n 1, 1, .aload_n 1, 0), (1292, .invokevirtual 25880, 3, .invokevirtual 145, 975), (1295, .aload_n 2, 1, .aload_n 2, 0), (1296, .invokevirtual 64026, 3, .invokevirtual 148, 1754), (1299, .if_icmp .eq 728, 3, .if_icmp .eq 728, 0), (1302, .iconst 0, 1, .iconst 0, 0), (1303, .ireturn, 1, .ireturn, 0), (1304, .aload_n 1, 1, .aload_n 1, 0), (1305, .invokevirtual 26136, 3, .invokevirtual 149, 980), (1308, .aload_n 2, 1, .aload_n 2, 0), (1309, .invokevirtual 64282, 3, .invokevirtual 152, 1758)]
def m_L_law_r41 : List mj_I := [(1312, .if_icmp .eq 715, 3, .if_icmp .eq 715, 0), (1315, .iconst 0, 1, .iconst 0, 0), (1316, .ireturn, 1, .ireturn, 0), (1317, .aload_n 1, 1, .aload_n 1, 0), (1318, .aload_n 0, 1, .aload_n 0, 0), (1319, .iload 4, 2, .iload 4, 0), (1321, .iconst 1, 1, .iconst 1, 0), (1322, .iadd, 1, .iadd, 0), (1323, .iaload, 1, .iaload, 0), (1324, .ifCond .eq 7, 3, .ifCond .eq 7, 0), (1327, .iconst 1, 1, .iconst 1, 0), (1328, .goto 4, 3, .goto 4, 0), (1331, .iconst 0, 1, .iconst 0, 0), (1332, .aload_n 0, 1, .aload_n 0, 0), (1333, .iload 4, 2, .iload 4, 0), (1335, .iconst 2, 1, .iconst 2, 0), (1336, .iadd, 1, .iadd, 0), (1337, .iaload, 1, .iaload, 0), (1338, .ifCond .eq 7, 3, .ifCond .eq 7, 0), (1341, .iconst 1, 1, .iconst 1, 0), (1342, .goto 4, 3, .goto 4, 0)]
def m_L_law_r42 : List mj_I := [(1345, .iconst 0, 1, .iconst 0, 0), (1346, .invokevirtual 26680, 3, .invokevirtual 153, 984), (1349, .aload_n 2, 1, .aload_n 2, 0), (1350, .aload_n 0, 1, .aload_n 0, 0), (1351, .iload 4, 2, .iload 4, 0), (1353, .iconst 1, 1, .iconst 1, 0), (1354, .iadd, 1, .iadd, 0), (1355, .iaload, 1, .iaload, 0), (1356, .ifCond .eq 7, 3, .ifCond .eq 7, 0), (1359, .iconst 1, 1, .iconst 1, 0), (1360, .goto 4, 3, .goto 4, 0), (1363, .iconst 0, 1, .iconst 0, 0), (1364, .aload_n 0, 1, .aload_n 0, 0), (1365, .iload 4, 2, .iload 4, 0), (1367, .iconst 2, 1, .iconst 2, 0), (1368, .iadd, 1, .iadd, 0), (1369, .iaload, 1, .iaload, 0), (1370, .ifCond .eq 7, 3, .ifCond .eq 7, 0), (1373, .iconst 1, 1, .iconst 1, 0), (1374, .goto 4, 3, .goto 4, 0)]
def m_L_law_r43 : List mj_I := [(1377, .iconst 0, 1, .iconst 0, 0), (1378, .invokevirtual 64826, 3, .invokevirtual 157, 1762), (1381, .lcmp, 1, .lcmp, 0), (1382, .ifCond .eq 645, 3, .ifCond .eq 645, 0), (1385, .iconst 0, 1, .iconst 0, 0), (1386, .ireturn, 1, .ireturn, 0), (1387, .aload_n 1, 1, .aload_n 1, 0), (1388, .aload_n 0, 1, .aload_n 0, 0), (1389, .iload 4, 2, .iload 4, 0), (1391, .iconst 1, 1, .iconst 1, 0), (1392, .iadd, 1, .iadd, 0), (1393, .iaload, 1, .iaload, 0), (1394, .ifCond .eq 7, 3, .ifCond .eq 7, 0), (1397, .iconst 1, 1, .iconst 1, 0), (1398, .goto 4, 3, .goto 4, 0), (1401, .iconst 0, 1, .iconst 0, 0), (1402, .invokevirtual 26920, 3, .invokevirtual 158, 988), (1405, .aload_n 2, 1, .aload_n 2, 0), (1406, .aload_n 0, 1, .aload_n 0, 0), (1407, .iload 4, 2, .iload 4, 0)]
def m_L_law_r44 : List mj_I := [(1409, .iconst 1, 1, .iconst 1, 0), (1410, .iadd, 1, .iadd, 0), (1411, .iaload, 1, .iaload, 0), (1412, .ifCond .eq 7, 3, .ifCond .eq 7, 0), (1415, .iconst 1, 1, .iconst 1, 0), (1416, .goto 4, 3, .goto 4, 0), (1419, .iconst 0, 1, .iconst 0, 0), (1420, .invokevirtual 65066, 3, .invokevirtual 161, 1770), (1423, .lcmp, 1, .lcmp, 0), (1424, .ifCond .eq 603, 3, .ifCond .eq 603, 0), (1427, .iconst 0, 1, .iconst 0, 0), (1428, .ireturn, 1, .ireturn, 0), (1429, .aload_n 1, 1, .aload_n 1, 0), (1430, .aload_n 0, 1, .aload_n 0, 0), (1431, .iload 4, 2, .iload 4, 0), (1433, .iconst 1, 1, .iconst 1, 0), (1434, .iadd, 1, .iadd, 0), (1435, .iaload, 1, .iaload, 0), (1436, .aload_n 0, 1, .aload_n 0, 0), (1437, .iload 4, 2, .iload 4, 0), (1439, .iconst 2, 1, .iconst 2, 0)]
def m_L_law_r45 : List mj_I := [(1440, .iadd, 1, .iadd, 0), (1441, .iaload, 1, .iaload, 0), (1442, .aload_n 0, 1, .aload_n 0, 0), (1443, .iload 4, 2, .iload 4, 0), (1445, .iconst 3, 1, .iconst 3, 0), (1446, .iadd, 1, .iadd, 0), (1447, .iaload, 1, .iaload, 0), (1448, .aload_n 0, 1, .aload_n 0, 0), (1449, .iload 4, 2, .iload 4, 0), (1451, .iconst 4, 1, .iconst 4, 0), (1452, .iadd, 1, .iadd, 0), (1453, .iaload, 1, .iaload, 0), (1454, .ifCond .eq 7, 3, .ifCond .eq 7, 0), (1457, .iconst 1, 1, .iconst 1, 0), (1458, .goto 4, 3, .goto 4, 0), (1461, .iconst 0, 1, .iconst 0, 0), (1462, .invokevirtual 27224, 3, .invokevirtual 162, 993), (1465, .aload_n 2, 1, .aload_n 2, 0), (1466, .aload_n 0, 1, .aload_n 0, 0), (1467, .iload 4, 2, .iload 4, 0), (1469, .iconst 1, 1, .iconst 1, 0), (1470, .iadd, 1, .iadd, 0), (1471, .iaload, 1, .iaload, 0)]
def m_L_law_r46 : List mj_I := [(1472, .aload_n 0, 1, .aload_n 0, 0), (1473, .iload 4, 2, .iload 4, 0), (1475, .iconst 2, 1, .iconst 2, 0), (1476, .iadd, 1, .iadd, 0), (1477, .iaload, 1, .iaload, 0), (1478, .aload_n 0, 1, .aload_n 0, 0), (1479, .iload 4, 2, .iload 4, 0), (1481, .iconst 3, 1, .iconst 3, 0), (1482, .iadd, 1, .iadd, 0), (1483, .iaload, 1, .iaload, 0), (1484, .aload_n 0, 1, .aload_n 0, 0), (1485, .iload 4, 2, .iload 4, 0), (1487, .iconst 4, 1, .iconst 4, 0), (1488, .iadd, 1, .iadd, 0), (1489, .iaload, 1, .iaload, 0), (1490, .ifCond .eq 7, 3, .ifCond .eq 7, 0), (1493, .iconst 1, 1, .iconst 1, 0), (1494, .goto 4, 3, .goto 4, 0), (1497, .iconst 0, 1, .iconst 0, 0), (1498, .invokevirtual 66138, 3, .invokevirtual 166, 1775), (1501, .if_icmp .eq 526, 3, .if_icmp .eq 526, 0)]
def m_L_law_r47 : List mj_I := [(1504, .iconst 0, 1, .iconst 0, 0), (1505, .ireturn, 1, .ireturn, 0), (1506, .aload_n 1, 1, .aload_n 1, 0), (1507, .aload_n 0, 1, .aload_n 0, 0), (1508, .iload 4, 2, .iload 4, 0), (1510, .iconst 1, 1, .iconst 1, 0), (1511, .iadd, 1, .iadd, 0), (1512, .iaload, 1, .iaload, 0), (1513, .invokevirtual 27432, 3, .invokevirtual 167, 1004), (1516, .aload_n 2, 1, .aload_n 2, 0), (1517, .aload_n 0, 1, .aload_n 0, 0), (1518, .iload 4, 2, .iload 4, 0), (1520, .iconst 1, 1, .iconst 1, 0), (1521, .iadd, 1, .iadd, 0), (1522, .iaload, 1, .iaload, 0), (1523, .invokevirtual 66602, 3, .invokevirtual 170, 1793), (1526, .if_icmp .eq 501, 3, .if_icmp .eq 501, 0), (1529, .iconst 0, 1, .iconst 0, 0), (1530, .ireturn, 1, .ireturn, 0), (1531, .aload_n 1, 1, .aload_n 1, 0), (1532, .aload_n 0, 1, .aload_n 0, 0), (1533, .iload 4, 2, .iload 4, 0), (1535, .iconst 1, 1, .iconst 1, 0)]
def m_L_law_r48 : List mj_I := [(1536, .iadd, 1, .iadd, 0), (1537, .iaload, 1, .iaload, 0), (1538, .invokevirtual 27688, 3, .invokevirtual 171, 1014), (1541, .aload_n 2, 1, .aload_n 2, 0), (1542, .aload_n 0, 1, .aload_n 0, 0), (1543, .iload 4, 2, .iload 4, 0), (1545, .iconst 1, 1, .iconst 1, 0), (1546, .iadd, 1, .iadd, 0), (1547, .iaload, 1, .iaload, 0), (1548, .invokevirtual 66858, 3, .invokevirtual 174, 1800), (1551, .if_icmp .eq 476, 3, .if_icmp .eq 476, 0), (1554, .iconst 0, 1, .iconst 0, 0), (1555, .ireturn, 1, .ireturn, 0), (1556, .aload_n 1, 1, .aload_n 1, 0), (1557, .aload_n 0, 1, .aload_n 0, 0), (1558, .iload 4, 2, .iload 4, 0), (1560, .iconst 1, 1, .iconst 1, 0), (1561, .iadd, 1, .iadd, 0), (1562, .iaload, 1, .iaload, 0), (1563, .aload_n 0, 1, .aload_n 0, 0), (1564, .iload 4, 2, .iload 4, 0), (1566, .iconst 2, 1, .iconst 2, 0), (1567, .iadd, 1, .iadd, 0)]
def m_L_law_r49 : List mj_I := [(1568, .iaload, 1, .iaload, 0), (1569, .aload_n 0, 1, .aload_n 0, 0), (1570, .iload 4, 2, .iload 4, 0), (1572, .iconst 3, 1, .iconst 3, 0), (1573, .iadd, 1, .iadd, 0), (1574, .iaload, 1, .iaload, 0), (1575, .invokevirtual 28744, 3, .invokevirtual 175, 1018), (1578, .aload_n 2, 1, .aload_n 2, 0), (1579, .aload_n 0, 1, .aload_n 0, 0), (1580, .iload 4, 2, .iload 4, 0), (1582, .iconst 1, 1, .iconst 1, 0), (1583, .iadd, 1, .iadd, 0), (1584, .iaload, 1, .iaload, 0), (1585, .aload_n 0, 1, .aload_n 0, 0), (1586, .iload 4, 2, .iload 4, 0), (1588, .iconst 2, 1, .iconst 2, 0), (1589, .iadd, 1, .iadd, 0), (1590, .iaload, 1, .iaload, 0), (1591, .aload_n 0, 1, .aload_n 0, 0), (1592, .iload 4, 2, .iload 4, 0), (1594, .iconst 3, 1, .iconst 3, 0), (1595, .iadd, 1, .iadd, 0), (1596, .iaload, 1, .iaload, 0), (1597, .invokevirtual 67658, 3, .invokevirtual 179, 1804)]
def m_L_law_r50 : List mj_I := [(1600, .if_icmp .eq 427, 3, .if_icmp .eq 427, 0), (1603, .iconst 0, 1, .iconst 0, 0), (1604, .ireturn, 1, .ireturn, 0), (1605, .aload_n 1, 1, .aload_n 1, 0), (1606, .aload_n 0, 1, .aload_n 0, 0), (1607, .iload 4, 2, .iload 4, 0), (1609, .iconst 1, 1, .iconst 1, 0), (1610, .iadd, 1, .iadd, 0), (1611, .iaload, 1, .iaload, 0), (1612, .aload_n 0, 1, .aload_n 0, 0), (1613, .iload 4, 2, .iload 4, 0), (1615, .iconst 2, 1, .iconst 2, 0), (1616, .iadd, 1, .iadd, 0), (1617, .iaload, 1, .iaload, 0), (1618, .aload_n 0, 1, .aload_n 0, 0), (1619, .iload 4, 2, .iload 4, 0), (1621, .iconst 3, 1, .iconst 3, 0), (1622, .iadd, 1, .iadd, 0), (1623, .iaload, 1, .iaload, 0), (1624, .invokevirtual 29000, 3, .invokevirtual 180, 1038), (1627, .aload_n 2, 1, .aload_n 2, 0), (1628, .aload_n 0, 1, .aload_n 0, 0), (1629, .iload 4, 2, .iload 4, 0), (1631, .iconst 1, 1, .iconst 1, 0)]
def m_L_law_r51 : List mj_I := [(1632, .iadd, 1, .iadd, 0), (1633, .iaload, 1, .iaload, 0), (1634, .aload_n 0, 1, .aload_n 0, 0), (1635, .iload 4, 2, .iload 4, 0), (1637, .iconst 2, 1, .iconst 2, 0), (1638, .iadd, 1, .iadd, 0), (1639, .iaload, 1, .iaload, 0), (1640, .aload_n 0, 1, .aload_n 0, 0), (1641, .iload 4, 2, .iload 4, 0), (1643, .iconst 3, 1, .iconst 3, 0), (1644, .iadd, 1, .iadd, 0), (1645, .iaload, 1, .iaload, 0), (1646, .invokevirtual 67914, 3, .invokevirtual 183, 1820), (1649, .if_icmp .eq 378, 3, .if_icmp .eq 378, 0), (1652, .iconst 0, 1, .iconst 0, 0), (1653, .ireturn, 1, .ireturn, 0), (1654, .aload_n 1, 1, .aload_n 1, 0), (1655, .aload_n 0, 1, .aload_n 0, 0), (1656, .iload 4, 2, .iload 4, 0), (1658, .iconst 1, 1, .iconst 1, 0), (1659, .iadd, 1, .iadd, 0), (1660, .iaload, 1, .iaload, 0), (1661, .aload_n 0, 1, .aload_n 0, 0), (1662, .iload 4, 2, .iload 4, 0)]
def m_L_law_r52 : List mj_I := [(1664, .iconst 2, 1, .iconst 2, 0), (1665, .iadd, 1, .iadd, 0), (1666, .iaload, 1, .iaload, 0), (1667, .invokevirtual 29496, 3, .invokevirtual 184, 1042), (1670, .aload_n 2, 1, .aload_n 2, 0), (1671, .aload_n 0, 1, .aload_n 0, 0), (1672, .iload 4, 2, .iload 4, 0), (1674, .iconst 1, 1, .iconst 1, 0), (1675, .iadd, 1, .iadd, 0), (1676, .iaload, 1, .iaload, 0), (1677, .aload_n 0, 1, .aload_n 0, 0), (1678, .iload 4, 2, .iload 4, 0), (1680, .iconst 2, 1, .iconst 2, 0), (1681, .iadd, 1, .iadd, 0), (1682, .iaload, 1, .iaload, 0), (1683, .invokevirtual 68154, 3, .invokevirtual 187, 1824), (1686, .if_icmp .eq 341, 3, .if_icmp .eq 341, 0), (1689, .iconst 0, 1, .iconst 0, 0), (1690, .ireturn, 1, .ireturn, 0), (1691, .aload_n 1, 1, .aload_n 1, 0), (1692, .aload_n 0, 1, .aload_n 0, 0), (1693, .iload 4, 2, .iload 4, 0), (1695, .iconst 1, 1, .iconst 1, 0)]
def m_L_law_r53 : List mj_I := [(1696, .iadd, 1, .iadd, 0), (1697, .iaload, 1, .iaload, 0), (1698, .invokevirtual 29992, 3, .invokevirtual 188, 1046), (1701, .aload_n 2, 1, .aload_n 2, 0), (1702, .aload_n 0, 1, .aload_n 0, 0), (1703, .iload 4, 2, .iload 4, 0), (1705, .iconst 1, 1, .iconst 1, 0), (1706, .iadd, 1, .iadd, 0), (1707, .iaload, 1, .iaload, 0), (1708, .invokevirtual 68650, 3, .invokevirtual 192, 1828), (1711, .if_icmp .eq 316, 3, .if_icmp .eq 316, 0), (1714, .iconst 0, 1, .iconst 0, 0), (1715, .ireturn, 1, .ireturn, 0), (1716, .aload_n 1, 1, .aload_n 1, 0), (1717, .aload_n 0, 1, .aload_n 0, 0), (1718, .iload 4, 2, .iload 4, 0), (1720, .iconst 1, 1, .iconst 1, 0), (1721, .iadd, 1, .iadd, 0), (1722, .iaload, 1, .iaload, 0), (1723, .aload_n 0, 1, .aload_n 0, 0), (1724, .iload 4, 2, .iload 4, 0), (1726, .iconst 2, 1, .iconst 2, 0), (1727, .iadd, 1, .iadd, 0)]
def m_L_law_r54 : List mj_I := [(1728, .iaload, 1, .iaload, 0), (1729, .ifCond .eq 7, 3, .ifCond .eq 7, 0), (1732, .iconst 1, 1, .iconst 1, 0), (1733, .goto 4, 3, .goto 4, 0), (1736, .iconst 0, 1, .iconst 0, 0), (1737, .invokevirtual 30264, 3, .invokevirtual 193, 1064), (1740, .aload_n 2, 1, .aload_n 2, 0), (1741, .aload_n 0, 1, .aload_n 0, 0), (1742, .iload 4, 2, .iload 4, 0), (1744, .iconst 1, 1, .iconst 1, 0), (1745, .iadd, 1, .iadd, 0), (1746, .iaload, 1, .iaload, 0), (1747, .aload_n 0, 1, .aload_n 0, 0), (1748, .iload 4, 2, .iload 4, 0), (1750, .iconst 2, 1, .iconst 2, 0), (1751, .iadd, 1, .iadd, 0), (1752, .iaload, 1, .iaload, 0), (1753, .ifCond .eq 7, 3, .ifCond .eq 7, 0), (1756, .iconst 1, 1, .iconst 1, 0), (1757, .goto 4, 3, .goto 4, 0)]
def m_L_law_r55 : List mj_I := [(1760, .iconst 0, 1, .iconst 0, 0), (1761, .invokevirtual 68922, 3, .invokevirtual 197, 1844), (1764, .if_icmp .eq 263, 3, .if_icmp .eq 263, 0), (1767, .iconst 0, 1, .iconst 0, 0), (1768, .ireturn, 1, .ireturn, 0), (1769, .aload_n 1, 1, .aload_n 1, 0), (1770, .invokevirtual 30488, 3, .invokevirtual 198, 1068), (1773, .aload_n 2, 1, .aload_n 2, 0), (1774, .invokevirtual 69146, 3, .invokevirtual 201, 1848), (1777, .if_icmp .eq 250, 3, .if_icmp .eq 250, 0), (1780, .iconst 0, 1, .iconst 0, 0), (1781, .ireturn, 1, .ireturn, 0), (1782, .aload_n 1, 1, .aload_n 1, 0), (1783, .aload_n 0, 1, .aload_n 0, 0), (1784, .iload 4, 2, .iload 4, 0), (1786, .iconst 1, 1, .iconst 1, 0), (1787, .iadd, 1, .iadd, 0), (1788, .iaload, 1, .iaload, 0), (1789, .invokevirtual 30760, 3, .invokevirtual 202, 1072)]
def m_L_law_r56 : List mj_I := [(1792, .aload_n 2, 1, .aload_n 2, 0), (1793, .aload_n 0, 1, .aload_n 0, 0), (1794, .iload 4, 2, .iload 4, 0), (1796, .iconst 1, 1, .iconst 1, 0), (1797, .iadd, 1, .iadd, 0), (1798, .iaload, 1, .iaload, 0), (1799, .invokevirtual 69418, 3, .invokevirtual 205, 1852), (1802, .if_icmp .eq 225, 3, .if_icmp .eq 225, 0), (1805, .iconst 0, 1, .iconst 0, 0), (1806, .ireturn, 1, .ireturn, 0), (1807, .aload_n 1, 1, .aload_n 1, 0), (1808, .aload_n 0, 1, .aload_n 0, 0), (1809, .iload 4, 2, .iload 4, 0), (1811, .iconst 1, 1, .iconst 1, 0), (1812, .iadd, 1, .iadd, 0), (1813, .iaload, 1, .iaload, 0), (1814, .invokevirtual 31016, 3, .invokevirtual 206, 1080), (1817, .aload_n 2, 1, .aload_n 2, 0), (1818, .aload_n 0, 1, .aload_n 0, 0), (1819, .iload 4, 2, .iload 4, 0), (1821, .iconst 1, 1, .iconst 1, 0), (1822, .iadd, 1, .iadd, 0), (1823, .iaload, 1, .iaload, 0)]
def m_L_law_r57 : List mj_I := [(1824, .invokevirtual 69930, 3, .invokevirtual 209, 1856), (1827, .if_icmp .eq 200, 3, .if_icmp .eq 200, 0), (1830, .iconst 0, 1, .iconst 0, 0), (1831, .ireturn, 1, .ireturn, 0), (1832, .aload_n 1, 1, .aload_n 1, 0), (1833, .aload_n 0, 1, .aload_n 0, 0), (1834, .iload 4, 2, .iload 4, 0), (1836, .iconst 1, 1, .iconst 1, 0), (1837, .iadd, 1, .iadd, 0), (1838, .iaload, 1, .iaload, 0), (1839, .invokevirtual 31528, 3, .invokevirtual 210, 1084), (1842, .aload_n 2, 1, .aload_n 2, 0), (1843, .aload_n 0, 1, .aload_n 0, 0), (1844, .iload 4, 2, .iload 4, 0), (1846, .iconst 1, 1, .iconst 1, 0), (1847, .iadd, 1, .iadd, 0), (1848, .iaload, 1, .iaload, 0), (1849, .invokevirtual 70186, 3, .invokevirtual 213, 1864), (1852, .if_icmp .eq 175, 3, .if_icmp .eq 175, 0), (1855, .iconst 0, 1, .iconst 0, 0)]
def m_L_law_r58 : List mj_I := [(1856, .ireturn, 1, .ireturn, 0), (1857, .aload_n 1, 1, .aload_n 1, 0), (1858, .aload_n 0, 1, .aload_n 0, 0), (1859, .iload 4, 2, .iload 4, 0), (1861, .iconst 1, 1, .iconst 1, 0), (1862, .iadd, 1, .iadd, 0), (1863, .iaload, 1, .iaload, 0), (1864, .invokevirtual 31784, 3, .invokevirtual 214, 1088), (1867, .aload_n 2, 1, .aload_n 2, 0), (1868, .aload_n 0, 1, .aload_n 0, 0), (1869, .iload 4, 2, .iload 4, 0), (1871, .iconst 1, 1, .iconst 1, 0), (1872, .iadd, 1, .iadd, 0), (1873, .iaload, 1, .iaload, 0), (1874, .invokevirtual 70442, 3, .invokevirtual 217, 1868), (1877, .if_icmp .eq 150, 3, .if_icmp .eq 150, 0), (1880, .iconst 0, 1, .iconst 0, 0), (1881, .ireturn, 1, .ireturn, 0), (1882, .aload_n 1, 1, .aload_n 1, 0), (1883, .invokevirtual 32024, 3, .invokevirtual 218, 1092), (1886, .aload_n 2, 1, .aload_n 2, 0), (1887, .invokevirtual 70682, 3, .invokevirtual 222, 1872)]
def m_L_law_r59 : List mj_I := [(1890, .if_icmp .eq 137, 3, .if_icmp .eq 137, 0), (1893, .iconst 0, 1, .iconst 0, 0), (1894, .ireturn, 1, .ireturn, 0), (1895, .aload_n 1, 1, .aload_n 1, 0), (1896, .invokevirtual 32280, 3, .invokevirtual 223, 1100), (1899, .aload_n 2, 1, .aload_n 2, 0), (1900, .invokevirtual 70938, 3, .invokevirtual 226, 1876), (1903, .if_icmp .eq 124, 3, .if_icmp .eq 124, 0), (1906, .iconst 0, 1, .iconst 0, 0), (1907, .ireturn, 1, .ireturn, 0), (1908, .aload_n 1, 1, .aload_n 1, 0), (1909, .aload_n 0, 1, .aload_n 0, 0), (1910, .iload 4, 2, .iload 4, 0), (1912, .iconst 1, 1, .iconst 1, 0), (1913, .iadd, 1, .iadd, 0), (1914, .iaload, 1, .iaload, 0), (1915, .invokevirtual 32552, 3, .invokevirtual 227, 1108), (1918, .aload_n 2, 1, .aload_n 2, 0), (1919, .aload_n 0, 1, .aload_n 0, 0)]
def m_L_law_r60 : List mj_I := [(1920, .iload 4, 2, .iload 4, 0), (1922, .iconst 1, 1, .iconst 1, 0), (1923, .iadd, 1, .iadd, 0), (1924, .iaload, 1, .iaload, 0), (1925, .invokevirtual 71210, 3, .invokevirtual 230, 1880), (1928, .if_icmp .eq 99, 3, .if_icmp .eq 99, 0), (1931, .iconst 0, 1, .iconst 0, 0), (1932, .ireturn, 1, .ireturn, 0), (1933, .aload_n 1, 1, .aload_n 1, 0), (1934, .aload_n 0, 1, .aload_n 0, 0), (1935, .iload 4, 2, .iload 4, 0), (1937, .iconst 1, 1, .iconst 1, 0), (1938, .iadd, 1, .iadd, 0), (1939, .iaload, 1, .iaload, 0), (1940, .aload_n 3, 1, .aload_n 3, 0), (1941, .invokestatic 831, 3, .invokestatic 231, 1128), (1944, .istore 5, 2, .istore 5, 0), (1946, .aload_n 2, 1, .aload_n 2, 0), (1947, .aload_n 0, 1, .aload_n 0, 0), (1948, .iload 4, 2, .iload 4, 0), (1950, .iconst 1, 1, .iconst 1, 0), (1951, .iadd, 1, .iadd, 0)]
def m_L_law_r61 : List mj_I := [(1952, .iaload, 1, .iaload, 0), (1953, .invokevirtual 71466, 3, .invokevirtual 236, 1884), (1956, .istore 6, 2, .istore 6, 0), (1958, .aload_n 2, 1, .aload_n 2, 0), (1959, .invokevirtual 40986, 3, .invokevirtual 237, 1322), (1962, .iload 5, 2, .iload 5, 0), (1964, .if_icmp .eq 5, 3, .if_icmp .eq 5, 0), (1967, .iconst 0, 1, .iconst 0, 0), (1968, .ireturn, 1, .ireturn, 0), (1969, .iload 5, 2, .iload 5, 0), (1971, .ifCond .ne 15, 3, .ifCond .ne 15, 0), (1974, .aload_n 3, 1, .aload_n 3, 0), (1975, .iconst 0, 1, .iconst 0, 0), (1976, .laload, 1, .laload, 0), (1977, .iload 6, 2, .iload 6, 0), (1979, .i2l, 1, .i2l, 0), (1980, .lcmp, 1, .lcmp, 0), (1981, .ifCond .eq 5, 3, .ifCond .eq 5, 0)]
def m_L_law_r62 : List mj_I := [(1984, .iconst 0, 1, .iconst 0, 0), (1985, .ireturn, 1, .ireturn, 0), (1986, .goto 41, 3, .goto 41, 0), (1989, .aload_n 1, 1, .aload_n 1, 0), (1990, .aload_n 0, 1, .aload_n 0, 0), (1991, .iload 4, 2, .iload 4, 0), (1993, .iconst 1, 1, .iconst 1, 0), (1994, .iadd, 1, .iadd, 0), (1995, .iaload, 1, .iaload, 0), (1996, .invokevirtual 33064, 3, .invokevirtual 240, 1116), (1999, .aload_n 2, 1, .aload_n 2, 0), (2000, .aload_n 0, 1, .aload_n 0, 0), (2001, .iload 4, 2, .iload 4, 0), (2003, .iconst 1, 1, .iconst 1, 0), (2004, .iadd, 1, .iadd, 0), (2005, .iaload, 1, .iaload, 0), (2006, .invokevirtual 71722, 3, .invokevirtual 243, 1888), (2009, .if_icmp .eq 18, 3, .if_icmp .eq 18, 0), (2012, .iconst 0, 1, .iconst 0, 0), (2013, .ireturn, 1, .ireturn, 0), (2014, .aload_n 1, 1, .aload_n 1, 0), (2015, .invokevirtual 33560, 3, .invokevirtual 244, 1124)]
def m_L_law_r63 : List mj_I := [(2018, .aload_n 2, 1, .aload_n 2, 0), (2019, .invokevirtual 71962, 3, .invokevirtual 247, 1892), (2022, .if_icmp .eq 5, 3, .if_icmp .eq 5, 0), (2025, .iconst 0, 1, .iconst 0, 0), (2026, .ireturn, 1, .ireturn, 0), (2027, .iinc 4 6, 3, .iinc 4 6, 0), (2030, .goto (-2007), 3, .goto (-2007), 0), (2033, .iconst 1, 1, .iconst 1, 0), (2034, .ireturn, 1, .ireturn, 0)]
def m_L_law_E : List (List mj_I) := [m_L_law_r0, m_L_law_r1, m_L_law_r2, m_L_law_r3, m_L_law_r4, m_L_law_r5, m_L_law_r6, m_L_law_r7, m_L_law_r8, m_L_law_r9, m_L_law_r10, m_L_law_r11, m_L_law_r12, m_L_law_r13, m_L_law_r14, m_L_law_r15, m_L_law_r16, m_L_law_r17, m_L_law_r18, m_L_law_r19, m_L_law_r20, m_L_law_r21, m_L_law_r22, m_L_law_r23, m_L_law_r24, m_L_law_r25, m_L_law_r26, m_L_law_r27, m_L_law_r28, m_L_law_r29, m_L_law_r30, m_L_law_r31, m_L_law_r32, m_L_law_r33, m_L_law_r34, m_L_law_r35, m_L_law_r36, m_L_law_r37, m_L_law_r38, m_L_law_r39, m_L_law_r40, m_L_law_r41, m_L_law_r42, m_L_law_r43, m_L_law_r44, m_L_law_r45, m_L_law_r46, m_L_law_r47, m_L_law_r48, m_L_law_r49, m_L_law_r50, m_L_law_r51, m_L_law_r52, m_L_law_r53, m_L_law_r54, m_L_law_r55, m_L_law_r56, m_L_law_r57, m_L_law_r58, m_L_law_r59, m_L_law_r60, m_L_law_r61, m_L_law_r62, m_L_law_r63]
def m_L_law : mj_M := (yL_law, cL_law, 7, (some .boolean), m_L_law_E)
/-- the methods by number (0 .. 3: Object.<init>, String.length, String.charAt, the law's led: taken apart) -/
def mj_ms0 : List mj_M := [m_X0_init, m_X0_fill, m_X0_packed, m_X0_sent, m_X0_isTaken, m_X0_sender, m_X0_lost, m_X0_weightTaken, m_X0_weightGoing, m_X0_weightSent, m_X0_weightLosing, m_X0_weightUnfilled, m_X0_lossOf, m_X1_init, m_X1_clear, m_X2_init, m_X2_clear, m_X2_keep, m_X2_takeBack, m_X2_paint, m_X2_goBack, m_X3_init, m_X3_forget, m_X3_put, m_X4_init, m_X4_run, m_X4_callMen, m_X4_cheapest, m_X4_lost, m_X5_init, m_X5_begin, m_X5_take, m_X6_init, m_X6_hasRoom, m_X6_put, m_X6_read, m_X6_fail, m_X6_step, m_X6_isBetween, m_X6_runEnd]
def mj_ms1 : List mj_M := [m_X6_readLine, m_X6_lineKind, m_X6_readTakes, m_X6_readMan, m_X6_readKin, m_X6_readSpares, m_X6_readDoctor, m_X6_readWent, m_X6_isWord, m_X6_passWord, m_X6_passWhole, m_X6_isToldMan, m_X6_namedMan, m_X6_isNamed, m_X6_namedSort, m_X7_init, m_X7_look, m_X7_clear, m_X7_fits, m_X7_couldBe, m_X7_mustBe, m_X7_mostLeft, m_X7_best, m_X8_init, m_X8_feed, m_X8_draft, m_X8_fault, m_X8_where, m_X8_man, m_X8_spared, m_X8_many, m_X8_wouldGo, m_X8_takenBy, m_X8_goesBy, m_X8_sendsBy, m_X8_lossBy, m_X8_firstTaken, m_X8_levyBy, m_X8_readRow, m_X8_taken]
def mj_ms2 : List mj_M := [m_X8_goes, m_X8_goesFor, m_X8_loss, m_X8_club, m_X8_ruin, m_X8_toJoin, m_X8_shortOf, m_X8_ifMarried, m_X8_harm, m_X8_fills, m_X8_bestLaw, m_X8_toSpare, m_X8_learn, m_X8_rows, m_X8_could, m_X8_surely, m_X8_ask, m_X8_askLeaves, m_X8_surelyTaken, m_X8_look, m_X8_believed, m_X8_wrong, m_X8_agent, m_X8_rests, m_X8_rest, m_X8_isRest, m_X8_isBestReply, m_X8_gain, m_X8_drafts, m_X8_sentIn, m_X8_countDraws, m_X8_lossIn, m_X8_levyByDraws, m_X8_marry, m_X8_spare, m_X8_hold, m_X8_desert, m_X8_fate, m_X8_senderOf, m_X8_lot]
def mj_ms3 : List mj_M := [m_X8_seed, m_X8_undo, m_X8_image, m_X8_back, m_X8_led, m_X8_size, m_X8_sizeOfDraft, m_X8_trouble, m_X8_refuse, m_X8_answer, m_X8_deny, m_X8_grant, m_X8_isMan, m_X8_isClub, m_X8_isTold, m_X8_allMen, m_X8_isSort, m_X8_isLaw, m_X8_isBuyers, m_X8_isSeed, m_X8_isDrafts, m_X8_changed, m_X8_table, m_X8_odds, m_X8_part, m_X8_commonDivisor, m_X8_goers, m_X8_byNumbers, m_X8_numberOf, m_X8_swap, m_X8_turn, m_X8_nextRow, m_X9_init, m_X9_find, m_X9_hasGone, m_X10_init, m_X10_thrown, m_X10_refused, m_X10_lost, m_X10_denied]
def mj_ms4 : List mj_M := [m_X10_good, m_X10_granted, m_X10_in, m_X10_bit, m_X10_bits, m_X10_common, m_X10_fraction, m_X10_byteAt, m_X10_isLetter, m_X10_isDigit, m_X10_packed, m_X10_goesOn, m_X10_flaw, m_X10_isWord, m_X10_eatsSemicolon, m_X10_needs, m_X10_readWhole, m_X10_readPart, m_X10_isName, m_X10_lineBegins, m_X10_knownMan, m_X10_sortAtHand, m_X10_readAll, m_X10_readLine, m_X10_readDraft, m_X10_readMan, m_X10_readKin, m_X10_readSpares, m_X10_readDoctor, m_X10_readWent, m_X10_feed, m_X10_draft, m_X10_fault, m_X10_where, m_X10_isMan, m_X10_everybody, m_X10_asNow, m_X10_cheapest, m_X10_plays, m_X10_lossOf]
def mj_ms5 : List mj_M := [m_X10_going, m_X10_lossOfAll, m_X10_firstRow, m_X10_nextRow, m_X10_swaps, m_X10_allRows, m_X10_codeOfRow, m_X10_lays, m_X10_odds, m_X10_lossesOf, m_X10_man, m_X10_spared, m_X10_many, m_X10_wouldGo, m_X10_refusesRow, m_X10_playsNow, m_X10_takenBy, m_X10_goesBy, m_X10_sendsBy, m_X10_lossBy, m_X10_firstTaken, m_X10_oddsNow, m_X10_taken, m_X10_goes, m_X10_goesFor, m_X10_loss, m_X10_isClub, m_X10_club, m_X10_ruin, m_X10_toJoin, m_X10_shortOf, m_X10_ifMarried, m_X10_byLaw, m_X10_refusesLaw, m_X10_harm, m_X10_fills, m_X10_bestLaw, m_X10_toSpare, m_X10_fitting, m_X10_rows]
def mj_ms6 : List mj_M := [m_X10_isTold, m_X10_couldBe, m_X10_could, m_X10_surely, m_X10_toAsk, m_X10_ask, m_X10_askLeaves, m_X10_surelyTaken, m_X10_refusesDoctor, m_X10_believed, m_X10_wrong, m_X10_least, m_X10_gets, m_X10_refusesMany, m_X10_agent, m_X10_isRest, m_X10_rests, m_X10_rest, m_X10_drawsRow, m_X10_refusesDrafts, m_X10_drafts, m_X10_sentIn, m_X10_lossIn, m_X10_remembers, m_X10_marry, m_X10_spare, m_X10_hold, m_X10_desert, m_X10_fateOf, m_X10_fate, m_X10_lot, m_X10_seed, m_X10_undo, m_X10_image, m_X10_back, m_X10_led, m_X10_size, m_X10_trouble, m_J9_max, m_J9_min]
def mj_ms7 : List mj_M := [m_J6_bitCount, m_L_law]
def mj_nul : mj_M := (⟨"", "", ""⟩, ⟨#[]⟩, 0, none, [])
def mj_ms : List mj_M := mj_nul :: mj_nul :: mj_nul :: mj_nul :: (mj_ms0 ++ (mj_ms1 ++ (mj_ms2 ++ (mj_ms3 ++ (mj_ms4 ++ (mj_ms5 ++ (mj_ms6 ++ (mj_ms7))))))))
set_option maxRecDepth 20000 in
theorem n_X0_init : mj_nth mj_ms 4 = some m_X0_init := rfl
set_option maxRecDepth 20000 in
theorem n_X0_fill : mj_nth mj_ms 5 = some m_X0_fill := rfl
set_option maxRecDepth 20000 in
theorem n_X0_packed : mj_nth mj_ms 6 = some m_X0_packed := rfl
set_option maxRecDepth 20000 in
theorem n_X0_sent : mj_nth mj_ms 7 = some m_X0_sent := rfl
set_option maxRecDepth 20000 in
theorem n_X0_isTaken : mj_nth mj_ms 8 = some m_X0_isTaken := rfl
set_option maxRecDepth 20000 in
theorem n_X0_sender : mj_nth mj_ms 9 = some m_X0_sender := rfl
set_option maxRecDepth 20000 in
theorem n_X0_lost : mj_nth mj_ms 10 = some m_X0_lost := rfl
set_option maxRecDepth 20000 in
theorem n_X0_weightTaken : mj_nth mj_ms 11 = some m_X0_weightTaken := rfl
set_option maxRecDepth 20000 in
theorem n_X0_weightGoing : mj_nth mj_ms 12 = some m_X0_weightGoing := rfl
set_option maxRecDepth 20000 in
theorem n_X0_weightSent : mj_nth mj_ms 13 = some m_X0_weightSent := rfl
set_option maxRecDepth 20000 in
theorem n_X0_weightLosing : mj_nth mj_ms 14 = some m_X0_weightLosing := rfl
set_option maxRecDepth 20000 in
theorem n_X0_weightUnfilled : mj_nth mj_ms 15 = some m_X0_weightUnfilled := rfl
set_option maxRecDepth 20000 in
theorem n_X0_lossOf : mj_nth mj_ms 16 = some m_X0_lossOf := rfl
set_option maxRecDepth 20000 in
theorem n_X1_init : mj_nth mj_ms 17 = some m_X1_init := rfl
set_option maxRecDepth 20000 in
theorem n_X1_clear : mj_nth mj_ms 18 = some m_X1_clear := rfl
set_option maxRecDepth 20000 in
theorem n_X2_init : mj_nth mj_ms 19 = some m_X2_init := rfl
set_option maxRecDepth 20000 in
theorem n_X2_clear : mj_nth mj_ms 20 = some m_X2_clear := rfl
set_option maxRecDepth 20000 in
theorem n_X2_keep : mj_nth mj_ms 21 = some m_X2_keep := rfl
set_option maxRecDepth 20000 in
theorem n_X2_takeBack : mj_nth mj_ms 22 = some m_X2_takeBack := rfl
set_option maxRecDepth 20000 in
theorem n_X2_paint : mj_nth mj_ms 23 = some m_X2_paint := rfl
set_option maxRecDepth 20000 in
theorem n_X2_goBack : mj_nth mj_ms 24 = some m_X2_goBack := rfl
set_option maxRecDepth 20000 in
theorem n_X3_init : mj_nth mj_ms 25 = some m_X3_init := rfl
set_option maxRecDepth 20000 in
theorem n_X3_forget : mj_nth mj_ms 26 = some m_X3_forget := rfl
set_option maxRecDepth 20000 in
theorem n_X3_put : mj_nth mj_ms 27 = some m_X3_put := rfl
set_option maxRecDepth 20000 in
theorem n_X4_init : mj_nth mj_ms 28 = some m_X4_init := rfl
set_option maxRecDepth 20000 in
theorem n_X4_run : mj_nth mj_ms 29 = some m_X4_run := rfl
set_option maxRecDepth 20000 in
theorem n_X4_callMen : mj_nth mj_ms 30 = some m_X4_callMen := rfl
set_option maxRecDepth 20000 in
theorem n_X4_cheapest : mj_nth mj_ms 31 = some m_X4_cheapest := rfl
set_option maxRecDepth 20000 in
theorem n_X4_lost : mj_nth mj_ms 32 = some m_X4_lost := rfl
set_option maxRecDepth 20000 in
theorem n_X5_init : mj_nth mj_ms 33 = some m_X5_init := rfl
set_option maxRecDepth 20000 in
theorem n_X5_begin : mj_nth mj_ms 34 = some m_X5_begin := rfl
set_option maxRecDepth 20000 in
theorem n_X5_take : mj_nth mj_ms 35 = some m_X5_take := rfl
set_option maxRecDepth 20000 in
theorem n_X6_init : mj_nth mj_ms 36 = some m_X6_init := rfl
set_option maxRecDepth 20000 in
theorem n_X6_hasRoom : mj_nth mj_ms 37 = some m_X6_hasRoom := rfl
set_option maxRecDepth 20000 in
theorem n_X6_put : mj_nth mj_ms 38 = some m_X6_put := rfl
set_option maxRecDepth 20000 in
theorem n_X6_read : mj_nth mj_ms 39 = some m_X6_read := rfl
set_option maxRecDepth 20000 in
theorem n_X6_fail : mj_nth mj_ms 40 = some m_X6_fail := rfl
set_option maxRecDepth 20000 in
theorem n_X6_step : mj_nth mj_ms 41 = some m_X6_step := rfl
set_option maxRecDepth 20000 in
theorem n_X6_isBetween : mj_nth mj_ms 42 = some m_X6_isBetween := rfl
set_option maxRecDepth 20000 in
theorem n_X6_runEnd : mj_nth mj_ms 43 = some m_X6_runEnd := rfl
set_option maxRecDepth 20000 in
theorem n_X6_readLine : mj_nth mj_ms 44 = some m_X6_readLine := rfl
set_option maxRecDepth 20000 in
theorem n_X6_lineKind : mj_nth mj_ms 45 = some m_X6_lineKind := rfl
set_option maxRecDepth 20000 in
theorem n_X6_readTakes : mj_nth mj_ms 46 = some m_X6_readTakes := rfl
set_option maxRecDepth 20000 in
theorem n_X6_readMan : mj_nth mj_ms 47 = some m_X6_readMan := rfl
set_option maxRecDepth 20000 in
theorem n_X6_readKin : mj_nth mj_ms 48 = some m_X6_readKin := rfl
set_option maxRecDepth 20000 in
theorem n_X6_readSpares : mj_nth mj_ms 49 = some m_X6_readSpares := rfl
set_option maxRecDepth 20000 in
theorem n_X6_readDoctor : mj_nth mj_ms 50 = some m_X6_readDoctor := rfl
set_option maxRecDepth 20000 in
theorem n_X6_readWent : mj_nth mj_ms 51 = some m_X6_readWent := rfl
set_option maxRecDepth 20000 in
theorem n_X6_isWord : mj_nth mj_ms 52 = some m_X6_isWord := rfl
set_option maxRecDepth 20000 in
theorem n_X6_passWord : mj_nth mj_ms 53 = some m_X6_passWord := rfl
set_option maxRecDepth 20000 in
theorem n_X6_passWhole : mj_nth mj_ms 54 = some m_X6_passWhole := rfl
set_option maxRecDepth 20000 in
theorem n_X6_isToldMan : mj_nth mj_ms 55 = some m_X6_isToldMan := rfl
set_option maxRecDepth 20000 in
theorem n_X6_namedMan : mj_nth mj_ms 56 = some m_X6_namedMan := rfl
set_option maxRecDepth 20000 in
theorem n_X6_isNamed : mj_nth mj_ms 57 = some m_X6_isNamed := rfl
set_option maxRecDepth 20000 in
theorem n_X6_namedSort : mj_nth mj_ms 58 = some m_X6_namedSort := rfl
set_option maxRecDepth 20000 in
theorem n_X7_init : mj_nth mj_ms 59 = some m_X7_init := rfl
set_option maxRecDepth 20000 in
theorem n_X7_look : mj_nth mj_ms 60 = some m_X7_look := rfl
set_option maxRecDepth 20000 in
theorem n_X7_clear : mj_nth mj_ms 61 = some m_X7_clear := rfl
set_option maxRecDepth 20000 in
theorem n_X7_fits : mj_nth mj_ms 62 = some m_X7_fits := rfl
set_option maxRecDepth 20000 in
theorem n_X7_couldBe : mj_nth mj_ms 63 = some m_X7_couldBe := rfl
set_option maxRecDepth 20000 in
theorem n_X7_mustBe : mj_nth mj_ms 64 = some m_X7_mustBe := rfl
set_option maxRecDepth 20000 in
theorem n_X7_mostLeft : mj_nth mj_ms 65 = some m_X7_mostLeft := rfl
set_option maxRecDepth 20000 in
theorem n_X7_best : mj_nth mj_ms 66 = some m_X7_best := rfl
set_option maxRecDepth 20000 in
theorem n_X8_init : mj_nth mj_ms 67 = some m_X8_init := rfl
set_option maxRecDepth 20000 in
theorem n_X8_feed : mj_nth mj_ms 68 = some m_X8_feed := rfl
set_option maxRecDepth 20000 in
theorem n_X8_draft : mj_nth mj_ms 69 = some m_X8_draft := rfl
set_option maxRecDepth 20000 in
theorem n_X8_fault : mj_nth mj_ms 70 = some m_X8_fault := rfl
set_option maxRecDepth 20000 in
theorem n_X8_where : mj_nth mj_ms 71 = some m_X8_where := rfl
set_option maxRecDepth 20000 in
theorem n_X8_man : mj_nth mj_ms 72 = some m_X8_man := rfl
set_option maxRecDepth 20000 in
theorem n_X8_spared : mj_nth mj_ms 73 = some m_X8_spared := rfl
set_option maxRecDepth 20000 in
theorem n_X8_many : mj_nth mj_ms 74 = some m_X8_many := rfl
set_option maxRecDepth 20000 in
theorem n_X8_wouldGo : mj_nth mj_ms 75 = some m_X8_wouldGo := rfl
set_option maxRecDepth 20000 in
theorem n_X8_takenBy : mj_nth mj_ms 76 = some m_X8_takenBy := rfl
set_option maxRecDepth 20000 in
theorem n_X8_goesBy : mj_nth mj_ms 77 = some m_X8_goesBy := rfl
set_option maxRecDepth 20000 in
theorem n_X8_sendsBy : mj_nth mj_ms 78 = some m_X8_sendsBy := rfl
set_option maxRecDepth 20000 in
theorem n_X8_lossBy : mj_nth mj_ms 79 = some m_X8_lossBy := rfl
set_option maxRecDepth 20000 in
theorem n_X8_firstTaken : mj_nth mj_ms 80 = some m_X8_firstTaken := rfl
set_option maxRecDepth 20000 in
theorem n_X8_levyBy : mj_nth mj_ms 81 = some m_X8_levyBy := rfl
set_option maxRecDepth 20000 in
theorem n_X8_readRow : mj_nth mj_ms 82 = some m_X8_readRow := rfl
set_option maxRecDepth 20000 in
theorem n_X8_taken : mj_nth mj_ms 83 = some m_X8_taken := rfl
set_option maxRecDepth 20000 in
theorem n_X8_goes : mj_nth mj_ms 84 = some m_X8_goes := rfl
set_option maxRecDepth 20000 in
theorem n_X8_goesFor : mj_nth mj_ms 85 = some m_X8_goesFor := rfl
set_option maxRecDepth 20000 in
theorem n_X8_loss : mj_nth mj_ms 86 = some m_X8_loss := rfl
set_option maxRecDepth 20000 in
theorem n_X8_club : mj_nth mj_ms 87 = some m_X8_club := rfl
set_option maxRecDepth 20000 in
theorem n_X8_ruin : mj_nth mj_ms 88 = some m_X8_ruin := rfl
set_option maxRecDepth 20000 in
theorem n_X8_toJoin : mj_nth mj_ms 89 = some m_X8_toJoin := rfl
set_option maxRecDepth 20000 in
theorem n_X8_shortOf : mj_nth mj_ms 90 = some m_X8_shortOf := rfl
set_option maxRecDepth 20000 in
theorem n_X8_ifMarried : mj_nth mj_ms 91 = some m_X8_ifMarried := rfl
set_option maxRecDepth 20000 in
theorem n_X8_harm : mj_nth mj_ms 92 = some m_X8_harm := rfl
set_option maxRecDepth 20000 in
theorem n_X8_fills : mj_nth mj_ms 93 = some m_X8_fills := rfl
set_option maxRecDepth 20000 in
theorem n_X8_bestLaw : mj_nth mj_ms 94 = some m_X8_bestLaw := rfl
set_option maxRecDepth 20000 in
theorem n_X8_toSpare : mj_nth mj_ms 95 = some m_X8_toSpare := rfl
set_option maxRecDepth 20000 in
theorem n_X8_learn : mj_nth mj_ms 96 = some m_X8_learn := rfl
set_option maxRecDepth 20000 in
theorem n_X8_rows : mj_nth mj_ms 97 = some m_X8_rows := rfl
set_option maxRecDepth 20000 in
theorem n_X8_could : mj_nth mj_ms 98 = some m_X8_could := rfl
set_option maxRecDepth 20000 in
theorem n_X8_surely : mj_nth mj_ms 99 = some m_X8_surely := rfl
set_option maxRecDepth 20000 in
theorem n_X8_ask : mj_nth mj_ms 100 = some m_X8_ask := rfl
set_option maxRecDepth 20000 in
theorem n_X8_askLeaves : mj_nth mj_ms 101 = some m_X8_askLeaves := rfl
set_option maxRecDepth 20000 in
theorem n_X8_surelyTaken : mj_nth mj_ms 102 = some m_X8_surelyTaken := rfl
set_option maxRecDepth 20000 in
theorem n_X8_look : mj_nth mj_ms 103 = some m_X8_look := rfl
set_option maxRecDepth 20000 in
theorem n_X8_believed : mj_nth mj_ms 104 = some m_X8_believed := rfl
set_option maxRecDepth 20000 in
theorem n_X8_wrong : mj_nth mj_ms 105 = some m_X8_wrong := rfl
set_option maxRecDepth 20000 in
theorem n_X8_agent : mj_nth mj_ms 106 = some m_X8_agent := rfl
set_option maxRecDepth 20000 in
theorem n_X8_rests : mj_nth mj_ms 107 = some m_X8_rests := rfl
set_option maxRecDepth 20000 in
theorem n_X8_rest : mj_nth mj_ms 108 = some m_X8_rest := rfl
set_option maxRecDepth 20000 in
theorem n_X8_isRest : mj_nth mj_ms 109 = some m_X8_isRest := rfl
set_option maxRecDepth 20000 in
theorem n_X8_isBestReply : mj_nth mj_ms 110 = some m_X8_isBestReply := rfl
set_option maxRecDepth 20000 in
theorem n_X8_gain : mj_nth mj_ms 111 = some m_X8_gain := rfl
set_option maxRecDepth 20000 in
theorem n_X8_drafts : mj_nth mj_ms 112 = some m_X8_drafts := rfl
set_option maxRecDepth 20000 in
theorem n_X8_sentIn : mj_nth mj_ms 113 = some m_X8_sentIn := rfl
set_option maxRecDepth 20000 in
theorem n_X8_countDraws : mj_nth mj_ms 114 = some m_X8_countDraws := rfl
set_option maxRecDepth 20000 in
theorem n_X8_lossIn : mj_nth mj_ms 115 = some m_X8_lossIn := rfl
set_option maxRecDepth 20000 in
theorem n_X8_levyByDraws : mj_nth mj_ms 116 = some m_X8_levyByDraws := rfl
set_option maxRecDepth 20000 in
theorem n_X8_marry : mj_nth mj_ms 117 = some m_X8_marry := rfl
set_option maxRecDepth 20000 in
theorem n_X8_spare : mj_nth mj_ms 118 = some m_X8_spare := rfl
set_option maxRecDepth 20000 in
theorem n_X8_hold : mj_nth mj_ms 119 = some m_X8_hold := rfl
set_option maxRecDepth 20000 in
theorem n_X8_desert : mj_nth mj_ms 120 = some m_X8_desert := rfl
set_option maxRecDepth 20000 in
theorem n_X8_fate : mj_nth mj_ms 121 = some m_X8_fate := rfl
set_option maxRecDepth 20000 in
theorem n_X8_senderOf : mj_nth mj_ms 122 = some m_X8_senderOf := rfl
set_option maxRecDepth 20000 in
theorem n_X8_lot : mj_nth mj_ms 123 = some m_X8_lot := rfl
set_option maxRecDepth 20000 in
theorem n_X8_seed : mj_nth mj_ms 124 = some m_X8_seed := rfl
set_option maxRecDepth 20000 in
theorem n_X8_undo : mj_nth mj_ms 125 = some m_X8_undo := rfl
set_option maxRecDepth 20000 in
theorem n_X8_image : mj_nth mj_ms 126 = some m_X8_image := rfl
set_option maxRecDepth 20000 in
theorem n_X8_back : mj_nth mj_ms 127 = some m_X8_back := rfl
set_option maxRecDepth 20000 in
theorem n_X8_led : mj_nth mj_ms 128 = some m_X8_led := rfl
set_option maxRecDepth 20000 in
theorem n_X8_size : mj_nth mj_ms 129 = some m_X8_size := rfl
set_option maxRecDepth 20000 in
theorem n_X8_sizeOfDraft : mj_nth mj_ms 130 = some m_X8_sizeOfDraft := rfl
set_option maxRecDepth 20000 in
theorem n_X8_trouble : mj_nth mj_ms 131 = some m_X8_trouble := rfl
set_option maxRecDepth 20000 in
theorem n_X8_refuse : mj_nth mj_ms 132 = some m_X8_refuse := rfl
set_option maxRecDepth 20000 in
theorem n_X8_answer : mj_nth mj_ms 133 = some m_X8_answer := rfl
set_option maxRecDepth 20000 in
theorem n_X8_deny : mj_nth mj_ms 134 = some m_X8_deny := rfl
set_option maxRecDepth 20000 in
theorem n_X8_grant : mj_nth mj_ms 135 = some m_X8_grant := rfl
set_option maxRecDepth 20000 in
theorem n_X8_isMan : mj_nth mj_ms 136 = some m_X8_isMan := rfl
set_option maxRecDepth 20000 in
theorem n_X8_isClub : mj_nth mj_ms 137 = some m_X8_isClub := rfl
set_option maxRecDepth 20000 in
theorem n_X8_isTold : mj_nth mj_ms 138 = some m_X8_isTold := rfl
set_option maxRecDepth 20000 in
theorem n_X8_allMen : mj_nth mj_ms 139 = some m_X8_allMen := rfl
set_option maxRecDepth 20000 in
theorem n_X8_isSort : mj_nth mj_ms 140 = some m_X8_isSort := rfl
set_option maxRecDepth 20000 in
theorem n_X8_isLaw : mj_nth mj_ms 141 = some m_X8_isLaw := rfl
set_option maxRecDepth 20000 in
theorem n_X8_isBuyers : mj_nth mj_ms 142 = some m_X8_isBuyers := rfl
set_option maxRecDepth 20000 in
theorem n_X8_isSeed : mj_nth mj_ms 143 = some m_X8_isSeed := rfl
set_option maxRecDepth 20000 in
theorem n_X8_isDrafts : mj_nth mj_ms 144 = some m_X8_isDrafts := rfl
set_option maxRecDepth 20000 in
theorem n_X8_changed : mj_nth mj_ms 145 = some m_X8_changed := rfl
set_option maxRecDepth 20000 in
theorem n_X8_table : mj_nth mj_ms 146 = some m_X8_table := rfl
set_option maxRecDepth 20000 in
theorem n_X8_odds : mj_nth mj_ms 147 = some m_X8_odds := rfl
set_option maxRecDepth 20000 in
theorem n_X8_part : mj_nth mj_ms 148 = some m_X8_part := rfl
set_option maxRecDepth 20000 in
theorem n_X8_commonDivisor : mj_nth mj_ms 149 = some m_X8_commonDivisor := rfl
set_option maxRecDepth 20000 in
theorem n_X8_goers : mj_nth mj_ms 150 = some m_X8_goers := rfl
set_option maxRecDepth 20000 in
theorem n_X8_byNumbers : mj_nth mj_ms 151 = some m_X8_byNumbers := rfl
set_option maxRecDepth 20000 in
theorem n_X8_numberOf : mj_nth mj_ms 152 = some m_X8_numberOf := rfl
set_option maxRecDepth 20000 in
theorem n_X8_swap : mj_nth mj_ms 153 = some m_X8_swap := rfl
set_option maxRecDepth 20000 in
theorem n_X8_turn : mj_nth mj_ms 154 = some m_X8_turn := rfl
set_option maxRecDepth 20000 in
theorem n_X8_nextRow : mj_nth mj_ms 155 = some m_X8_nextRow := rfl
set_option maxRecDepth 20000 in
theorem n_X9_init : mj_nth mj_ms 156 = some m_X9_init := rfl
set_option maxRecDepth 20000 in
theorem n_X9_find : mj_nth mj_ms 157 = some m_X9_find := rfl
set_option maxRecDepth 20000 in
theorem n_X9_hasGone : mj_nth mj_ms 158 = some m_X9_hasGone := rfl
set_option maxRecDepth 20000 in
theorem n_X10_init : mj_nth mj_ms 159 = some m_X10_init := rfl
set_option maxRecDepth 20000 in
theorem n_X10_thrown : mj_nth mj_ms 160 = some m_X10_thrown := rfl
set_option maxRecDepth 20000 in
theorem n_X10_refused : mj_nth mj_ms 161 = some m_X10_refused := rfl
set_option maxRecDepth 20000 in
theorem n_X10_lost : mj_nth mj_ms 162 = some m_X10_lost := rfl
set_option maxRecDepth 20000 in
theorem n_X10_denied : mj_nth mj_ms 163 = some m_X10_denied := rfl
set_option maxRecDepth 20000 in
theorem n_X10_good : mj_nth mj_ms 164 = some m_X10_good := rfl
set_option maxRecDepth 20000 in
theorem n_X10_granted : mj_nth mj_ms 165 = some m_X10_granted := rfl
set_option maxRecDepth 20000 in
theorem n_X10_in : mj_nth mj_ms 166 = some m_X10_in := rfl
set_option maxRecDepth 20000 in
theorem n_X10_bit : mj_nth mj_ms 167 = some m_X10_bit := rfl
set_option maxRecDepth 20000 in
theorem n_X10_bits : mj_nth mj_ms 168 = some m_X10_bits := rfl
set_option maxRecDepth 20000 in
theorem n_X10_common : mj_nth mj_ms 169 = some m_X10_common := rfl
set_option maxRecDepth 20000 in
theorem n_X10_fraction : mj_nth mj_ms 170 = some m_X10_fraction := rfl
set_option maxRecDepth 20000 in
theorem n_X10_byteAt : mj_nth mj_ms 171 = some m_X10_byteAt := rfl
set_option maxRecDepth 20000 in
theorem n_X10_isLetter : mj_nth mj_ms 172 = some m_X10_isLetter := rfl
set_option maxRecDepth 20000 in
theorem n_X10_isDigit : mj_nth mj_ms 173 = some m_X10_isDigit := rfl
set_option maxRecDepth 20000 in
theorem n_X10_packed : mj_nth mj_ms 174 = some m_X10_packed := rfl
set_option maxRecDepth 20000 in
theorem n_X10_goesOn : mj_nth mj_ms 175 = some m_X10_goesOn := rfl
set_option maxRecDepth 20000 in
theorem n_X10_flaw : mj_nth mj_ms 176 = some m_X10_flaw := rfl
set_option maxRecDepth 20000 in
theorem n_X10_isWord : mj_nth mj_ms 177 = some m_X10_isWord := rfl
set_option maxRecDepth 20000 in
theorem n_X10_eatsSemicolon : mj_nth mj_ms 178 = some m_X10_eatsSemicolon := rfl
set_option maxRecDepth 20000 in
theorem n_X10_needs : mj_nth mj_ms 179 = some m_X10_needs := rfl
set_option maxRecDepth 20000 in
theorem n_X10_readWhole : mj_nth mj_ms 180 = some m_X10_readWhole := rfl
set_option maxRecDepth 20000 in
theorem n_X10_readPart : mj_nth mj_ms 181 = some m_X10_readPart := rfl
set_option maxRecDepth 20000 in
theorem n_X10_isName : mj_nth mj_ms 182 = some m_X10_isName := rfl
set_option maxRecDepth 20000 in
theorem n_X10_lineBegins : mj_nth mj_ms 183 = some m_X10_lineBegins := rfl
set_option maxRecDepth 20000 in
theorem n_X10_knownMan : mj_nth mj_ms 184 = some m_X10_knownMan := rfl
set_option maxRecDepth 20000 in
theorem n_X10_sortAtHand : mj_nth mj_ms 185 = some m_X10_sortAtHand := rfl
set_option maxRecDepth 20000 in
theorem n_X10_readAll : mj_nth mj_ms 186 = some m_X10_readAll := rfl
set_option maxRecDepth 20000 in
theorem n_X10_readLine : mj_nth mj_ms 187 = some m_X10_readLine := rfl
set_option maxRecDepth 20000 in
theorem n_X10_readDraft : mj_nth mj_ms 188 = some m_X10_readDraft := rfl
set_option maxRecDepth 20000 in
theorem n_X10_readMan : mj_nth mj_ms 189 = some m_X10_readMan := rfl
set_option maxRecDepth 20000 in
theorem n_X10_readKin : mj_nth mj_ms 190 = some m_X10_readKin := rfl
set_option maxRecDepth 20000 in
theorem n_X10_readSpares : mj_nth mj_ms 191 = some m_X10_readSpares := rfl
set_option maxRecDepth 20000 in
theorem n_X10_readDoctor : mj_nth mj_ms 192 = some m_X10_readDoctor := rfl
set_option maxRecDepth 20000 in
theorem n_X10_readWent : mj_nth mj_ms 193 = some m_X10_readWent := rfl
set_option maxRecDepth 20000 in
theorem n_X10_feed : mj_nth mj_ms 194 = some m_X10_feed := rfl
set_option maxRecDepth 20000 in
theorem n_X10_draft : mj_nth mj_ms 195 = some m_X10_draft := rfl
set_option maxRecDepth 20000 in
theorem n_X10_fault : mj_nth mj_ms 196 = some m_X10_fault := rfl
set_option maxRecDepth 20000 in
theorem n_X10_where : mj_nth mj_ms 197 = some m_X10_where := rfl
set_option maxRecDepth 20000 in
theorem n_X10_isMan : mj_nth mj_ms 198 = some m_X10_isMan := rfl
set_option maxRecDepth 20000 in
theorem n_X10_everybody : mj_nth mj_ms 199 = some m_X10_everybody := rfl
set_option maxRecDepth 20000 in
theorem n_X10_asNow : mj_nth mj_ms 200 = some m_X10_asNow := rfl
set_option maxRecDepth 20000 in
theorem n_X10_cheapest : mj_nth mj_ms 201 = some m_X10_cheapest := rfl
set_option maxRecDepth 20000 in
theorem n_X10_plays : mj_nth mj_ms 202 = some m_X10_plays := rfl
set_option maxRecDepth 20000 in
theorem n_X10_lossOf : mj_nth mj_ms 203 = some m_X10_lossOf := rfl
set_option maxRecDepth 20000 in
theorem n_X10_going : mj_nth mj_ms 204 = some m_X10_going := rfl
set_option maxRecDepth 20000 in
theorem n_X10_lossOfAll : mj_nth mj_ms 205 = some m_X10_lossOfAll := rfl
set_option maxRecDepth 20000 in
theorem n_X10_firstRow : mj_nth mj_ms 206 = some m_X10_firstRow := rfl
set_option maxRecDepth 20000 in
theorem n_X10_nextRow : mj_nth mj_ms 207 = some m_X10_nextRow := rfl
set_option maxRecDepth 20000 in
theorem n_X10_swaps : mj_nth mj_ms 208 = some m_X10_swaps := rfl
set_option maxRecDepth 20000 in
theorem n_X10_allRows : mj_nth mj_ms 209 = some m_X10_allRows := rfl
set_option maxRecDepth 20000 in
theorem n_X10_codeOfRow : mj_nth mj_ms 210 = some m_X10_codeOfRow := rfl
set_option maxRecDepth 20000 in
theorem n_X10_lays : mj_nth mj_ms 211 = some m_X10_lays := rfl
set_option maxRecDepth 20000 in
theorem n_X10_odds : mj_nth mj_ms 212 = some m_X10_odds := rfl
set_option maxRecDepth 20000 in
theorem n_X10_lossesOf : mj_nth mj_ms 213 = some m_X10_lossesOf := rfl
set_option maxRecDepth 20000 in
theorem n_X10_man : mj_nth mj_ms 214 = some m_X10_man := rfl
set_option maxRecDepth 20000 in
theorem n_X10_spared : mj_nth mj_ms 215 = some m_X10_spared := rfl
set_option maxRecDepth 20000 in
theorem n_X10_many : mj_nth mj_ms 216 = some m_X10_many := rfl
set_option maxRecDepth 20000 in
theorem n_X10_wouldGo : mj_nth mj_ms 217 = some m_X10_wouldGo := rfl
set_option maxRecDepth 20000 in
theorem n_X10_refusesRow : mj_nth mj_ms 218 = some m_X10_refusesRow := rfl
set_option maxRecDepth 20000 in
theorem n_X10_playsNow : mj_nth mj_ms 219 = some m_X10_playsNow := rfl
set_option maxRecDepth 20000 in
theorem n_X10_takenBy : mj_nth mj_ms 220 = some m_X10_takenBy := rfl
set_option maxRecDepth 20000 in
theorem n_X10_goesBy : mj_nth mj_ms 221 = some m_X10_goesBy := rfl
set_option maxRecDepth 20000 in
theorem n_X10_sendsBy : mj_nth mj_ms 222 = some m_X10_sendsBy := rfl
set_option maxRecDepth 20000 in
theorem n_X10_lossBy : mj_nth mj_ms 223 = some m_X10_lossBy := rfl
set_option maxRecDepth 20000 in
theorem n_X10_firstTaken : mj_nth mj_ms 224 = some m_X10_firstTaken := rfl
set_option maxRecDepth 20000 in
theorem n_X10_oddsNow : mj_nth mj_ms 225 = some m_X10_oddsNow := rfl
set_option maxRecDepth 20000 in
theorem n_X10_taken : mj_nth mj_ms 226 = some m_X10_taken := rfl
set_option maxRecDepth 20000 in
theorem n_X10_goes : mj_nth mj_ms 227 = some m_X10_goes := rfl
set_option maxRecDepth 20000 in
theorem n_X10_goesFor : mj_nth mj_ms 228 = some m_X10_goesFor := rfl
set_option maxRecDepth 20000 in
theorem n_X10_loss : mj_nth mj_ms 229 = some m_X10_loss := rfl
set_option maxRecDepth 20000 in
theorem n_X10_isClub : mj_nth mj_ms 230 = some m_X10_isClub := rfl
set_option maxRecDepth 20000 in
theorem n_X10_club : mj_nth mj_ms 231 = some m_X10_club := rfl
set_option maxRecDepth 20000 in
theorem n_X10_ruin : mj_nth mj_ms 232 = some m_X10_ruin := rfl
set_option maxRecDepth 20000 in
theorem n_X10_toJoin : mj_nth mj_ms 233 = some m_X10_toJoin := rfl
set_option maxRecDepth 20000 in
theorem n_X10_shortOf : mj_nth mj_ms 234 = some m_X10_shortOf := rfl
set_option maxRecDepth 20000 in
theorem n_X10_ifMarried : mj_nth mj_ms 235 = some m_X10_ifMarried := rfl
set_option maxRecDepth 20000 in
theorem n_X10_byLaw : mj_nth mj_ms 236 = some m_X10_byLaw := rfl
set_option maxRecDepth 20000 in
theorem n_X10_refusesLaw : mj_nth mj_ms 237 = some m_X10_refusesLaw := rfl
set_option maxRecDepth 20000 in
theorem n_X10_harm : mj_nth mj_ms 238 = some m_X10_harm := rfl
set_option maxRecDepth 20000 in
theorem n_X10_fills : mj_nth mj_ms 239 = some m_X10_fills := rfl
set_option maxRecDepth 20000 in
theorem n_X10_bestLaw : mj_nth mj_ms 240 = some m_X10_bestLaw := rfl
set_option maxRecDepth 20000 in
theorem n_X10_toSpare : mj_nth mj_ms 241 = some m_X10_toSpare := rfl
set_option maxRecDepth 20000 in
theorem n_X10_fitting : mj_nth mj_ms 242 = some m_X10_fitting := rfl
set_option maxRecDepth 20000 in
theorem n_X10_rows : mj_nth mj_ms 243 = some m_X10_rows := rfl
set_option maxRecDepth 20000 in
theorem n_X10_isTold : mj_nth mj_ms 244 = some m_X10_isTold := rfl
set_option maxRecDepth 20000 in
theorem n_X10_couldBe : mj_nth mj_ms 245 = some m_X10_couldBe := rfl
set_option maxRecDepth 20000 in
theorem n_X10_could : mj_nth mj_ms 246 = some m_X10_could := rfl
set_option maxRecDepth 20000 in
theorem n_X10_surely : mj_nth mj_ms 247 = some m_X10_surely := rfl
set_option maxRecDepth 20000 in
theorem n_X10_toAsk : mj_nth mj_ms 248 = some m_X10_toAsk := rfl
set_option maxRecDepth 20000 in
theorem n_X10_ask : mj_nth mj_ms 249 = some m_X10_ask := rfl
set_option maxRecDepth 20000 in
theorem n_X10_askLeaves : mj_nth mj_ms 250 = some m_X10_askLeaves := rfl
set_option maxRecDepth 20000 in
theorem n_X10_surelyTaken : mj_nth mj_ms 251 = some m_X10_surelyTaken := rfl
set_option maxRecDepth 20000 in
theorem n_X10_refusesDoctor : mj_nth mj_ms 252 = some m_X10_refusesDoctor := rfl
set_option maxRecDepth 20000 in
theorem n_X10_believed : mj_nth mj_ms 253 = some m_X10_believed := rfl
set_option maxRecDepth 20000 in
theorem n_X10_wrong : mj_nth mj_ms 254 = some m_X10_wrong := rfl
set_option maxRecDepth 20000 in
theorem n_X10_least : mj_nth mj_ms 255 = some m_X10_least := rfl
set_option maxRecDepth 20000 in
theorem n_X10_gets : mj_nth mj_ms 256 = some m_X10_gets := rfl
set_option maxRecDepth 20000 in
theorem n_X10_refusesMany : mj_nth mj_ms 257 = some m_X10_refusesMany := rfl
set_option maxRecDepth 20000 in
theorem n_X10_agent : mj_nth mj_ms 258 = some m_X10_agent := rfl
set_option maxRecDepth 20000 in
theorem n_X10_isRest : mj_nth mj_ms 259 = some m_X10_isRest := rfl
set_option maxRecDepth 20000 in
theorem n_X10_rests : mj_nth mj_ms 260 = some m_X10_rests := rfl
set_option maxRecDepth 20000 in
theorem n_X10_rest : mj_nth mj_ms 261 = some m_X10_rest := rfl
set_option maxRecDepth 20000 in
theorem n_X10_drawsRow : mj_nth mj_ms 262 = some m_X10_drawsRow := rfl
set_option maxRecDepth 20000 in
theorem n_X10_refusesDrafts : mj_nth mj_ms 263 = some m_X10_refusesDrafts := rfl
set_option maxRecDepth 20000 in
theorem n_X10_drafts : mj_nth mj_ms 264 = some m_X10_drafts := rfl
set_option maxRecDepth 20000 in
theorem n_X10_sentIn : mj_nth mj_ms 265 = some m_X10_sentIn := rfl
set_option maxRecDepth 20000 in
theorem n_X10_lossIn : mj_nth mj_ms 266 = some m_X10_lossIn := rfl
set_option maxRecDepth 20000 in
theorem n_X10_remembers : mj_nth mj_ms 267 = some m_X10_remembers := rfl
set_option maxRecDepth 20000 in
theorem n_X10_marry : mj_nth mj_ms 268 = some m_X10_marry := rfl
set_option maxRecDepth 20000 in
theorem n_X10_spare : mj_nth mj_ms 269 = some m_X10_spare := rfl
set_option maxRecDepth 20000 in
theorem n_X10_hold : mj_nth mj_ms 270 = some m_X10_hold := rfl
set_option maxRecDepth 20000 in
theorem n_X10_desert : mj_nth mj_ms 271 = some m_X10_desert := rfl
set_option maxRecDepth 20000 in
theorem n_X10_fateOf : mj_nth mj_ms 272 = some m_X10_fateOf := rfl
set_option maxRecDepth 20000 in
theorem n_X10_fate : mj_nth mj_ms 273 = some m_X10_fate := rfl
set_option maxRecDepth 20000 in
theorem n_X10_lot : mj_nth mj_ms 274 = some m_X10_lot := rfl
set_option maxRecDepth 20000 in
theorem n_X10_seed : mj_nth mj_ms 275 = some m_X10_seed := rfl
set_option maxRecDepth 20000 in
theorem n_X10_undo : mj_nth mj_ms 276 = some m_X10_undo := rfl
set_option maxRecDepth 20000 in
theorem n_X10_image : mj_nth mj_ms 277 = some m_X10_image := rfl
set_option maxRecDepth 20000 in
theorem n_X10_back : mj_nth mj_ms 278 = some m_X10_back := rfl
set_option maxRecDepth 20000 in
theorem n_X10_led : mj_nth mj_ms 279 = some m_X10_led := rfl
set_option maxRecDepth 20000 in
theorem n_X10_size : mj_nth mj_ms 280 = some m_X10_size := rfl
set_option maxRecDepth 20000 in
theorem n_X10_trouble : mj_nth mj_ms 281 = some m_X10_trouble := rfl
set_option maxRecDepth 20000 in
theorem n_J9_max : mj_nth mj_ms 282 = some m_J9_max := rfl
set_option maxRecDepth 20000 in
theorem n_J9_min : mj_nth mj_ms 283 = some m_J9_min := rfl
set_option maxRecDepth 20000 in
theorem n_J6_bitCount : mj_nth mj_ms 284 = some m_J6_bitCount := rfl
set_option maxRecDepth 20000 in
theorem n_L_law : mj_nth mj_ms 285 = some m_L_law := rfl
/-- texts: class, entry, text -/
def mj_str : List (String × Nat × String) := [("LowNumber$Tape", 102, "draft"), ("LowNumber$Tape", 108, "man"), ("LowNumber$Tape", 110, "kin"), ("LowNumber$Tape", 112, "spares"), ("LowNumber$Tape", 114, "doctor"), ("LowNumber$Tape", 116, "went"), ("LowNumber$Tape", 118, "takes"), ("LowNumber$Tape", 195, "plain"), ("LowNumber$Tape", 197, "married"), ("LowNumber$Tape", 199, "short"), ("LowNumber$Tape", 201, "lame"), ("LowNumber$Tape", 141, "worth"), ("LowNumber$Tape", 145, "coins"), ("LowNumber$Tape", 149, "asks"), ("LowNumber$Tape", 167, "hits"), ("LowNumber$Tape", 171, "errs"), ("LowNumber$Tape", 175, "share"), ("LowNumber", 393, "no such man goes"), ("LowNumberModel", 146, "draft"), ("LowNumberModel", 209, "takes"), ("LowNumberModel", 148, "man"), ("LowNumberModel", 150, "kin"), ("LowNumberModel", 152, "spares"), ("LowNumberModel", 154, "doctor"), ("LowNumberModel", 156, "went"), ("LowNumberModel", 174, "plain"), ("LowNumberModel", 176, "married"), ("LowNumberModel", 178, "short"), ("LowNumberModel", 180, "lame"), ("LowNumberModel", 221, "worth"), ("LowNumberModel", 223, "coins"), ("LowNumberModel", 225, "asks"), ("LowNumberModel", 255, "hits"), ("LowNumberModel", 256, "errs"), ("LowNumberModel", 258, "share")]
end
section
/-! what a row of the tables rests on, as a check that is computed -/
def mj_isF (w : Option Cond) (own : String) (i : Nat) (q : String × String × String × Bool) : Bool := match w with
  | some (.fieldLink a j r n d) => decide (a = own ∧ j = i ∧ r = q.1 ∧ n = q.2.1 ∧ d = q.2.2.1)
  | some (.fieldLinkNest a j r n d _) => decide (a = own ∧ j = i ∧ r = q.1 ∧ n = q.2.1 ∧ d = q.2.2.1)
  | _ => false
def mj_isFp (w : Option Cond) : Bool := match w with
  | some (.fieldLink ..) => true
  | _ => false
def mj_isM (w : Option Cond) (own : String) (i : Nat) (c : Nat) : Bool := match mj_nth mj_ms (c / 256) with
  | some M => match w with
    | some (.methodLink a j y) => decide (a = own ∧ j = i ∧ y = mj_nm M)
    | some (.methodLinkNest a j y _) => decide (a = own ∧ j = i ∧ y = mj_nm M)
    | _ => false
  | none => false
/-- the builtins' names -/
def mj_bn (k : Nat) : MethodName := match k with
  | 0 => objectInit
  | 1 => yJ0_length_8abf5
  | 2 => yJ0_charAt_5068e
  | _ => yL_led
def mj_isB (w : Option Cond) (own : String) (i : Nat) (k : Nat) : Bool := match w with
  | some (.methodLink a j y) => decide (a = own ∧ j = i ∧ y = mj_bn k)
  | _ => false
def mj_np (M : mj_M) (n : Nat) : Bool := decide ((parseMethodDescriptor (mj_nm M).desc).map (fun d => d.parameters.length) = some n)
/-- is the row right: own class, is it a constructor, locals, as resolved, as it stands, its word -/
def mj_ok (own : String) (ini : Bool) (nL : Nat) (res raw : Instr) (w : Option Cond) : Bool := match res with
  | .getfield c => match raw with
    | .getfield i => match mj_nth vwCl (c / 64) with
      | some q => decide (c % 64 < q.2.2) && mj_isF w own i (q.2.1 (c % 64))
      | none => false
    | _ => false
  | .putfield c => match raw with
    | .putfield i => match mj_nth vwCl (c / 64) with
      | some q => decide (c % 64 < q.2.2) && (mj_isF w own i (q.2.1 (c % 64)) && (!(q.2.1 (c % 64)).2.2.2 || (ini && (mj_isFp w && decide ((q.2.1 (c % 64)).1 = own)))))
      | none => false
    | _ => false
  | .getstatic j => match raw with
    | .getstatic i => decide (j = 100) && mj_isF w own i ("LowNumber", "FACTORIALS", "[I", true)
    | _ => false
  | .invokevirtual c => match raw with
    | .invokevirtual i => if c / 256 < 4 then decide (1 ≤ c / 256 ∧ c / 256 ≤ 2 ∧ c / 16 % 16 = c / 256) && mj_isB w own i (c / 256) else mj_isM w own i c && (match mj_nth mj_ms (c / 256), mj_nth vwCl (c % 16) with
      | some M, some q => decide ((mj_nm M).cls = q.1) && (decide (1 ≤ c / 16 % 16) && (mj_np M (c / 16 % 16 - 1) && (decide (.instanceMethod (mj_nm M) ∈ lw_tbl) && decide (.selects q.1 (mj_nm M) (mj_nm M) ∈ lw_tbl))))
      | _, _ => false)
    | _ => false
  | .invokestatic c => match raw with
    | .invokestatic i => if c / 256 < 4 then decide (c / 256 = 3 ∧ c / 16 % 16 = 3) && mj_isB w own i 3 else mj_isM w own i c && (match mj_nth mj_ms (c / 256) with
      | some M => mj_np M (c / 16 % 16) && decide (.static (mj_nm M) ∈ lw_tbl)
      | _ => false)
    | _ => false
  | .invokespecial c => match raw with
    | .invokespecial i => if c / 256 < 4 then decide (c / 256 = 0 ∧ c / 16 % 16 = 1) && mj_isB w own i 0 else mj_isM w own i c && (match mj_nth mj_ms (c / 256) with
      | some M => decide (1 ≤ c / 16 % 16 ∧ (mj_nm M).name = "<init>" ∧ mj_rt M = none) && (mj_np M (c / 16 % 16 - 1) && decide (.instanceMethod (mj_nm M) ∈ lw_tbl))
      | _ => false)
    | _ => false
  | .iconst n => match raw with
    | .iconst m => decide (n = m)
    | .ldc i => (match w with | some (.constant a j v) => decide (a = own ∧ j = i ∧ Int32.ofInt n = v) | _ => false)
    | .ldc_w i => (match w with | some (.constant a j v) => decide (a = own ∧ j = i ∧ Int32.ofInt n = v) | _ => false)
    | _ => false
  | .ldc j => match raw with
    | .ldc i => (match w with | some (.stringRef a k tx) => decide (a = own ∧ k = i ∧ mj_nth mj_str j = some (a, k, tx)) | _ => false)
    | _ => false
  | .ldc2_w n => match raw with
    | .ldc2_w i => (match w with | some (.constantLong a j v) => decide (a = own ∧ j = i ∧ Int64.ofNat n = v) | _ => false)
    | _ => false
  | .new ci => match raw with
    | .new i => (match w, mj_nth vwCl ci with | some (.classLink a j C), some q => decide (a = own ∧ j = i ∧ C = q.1) && (decide (.instantiable q.1 q.2.2 ∈ lw_tbl) && decide (.initialized q.1 ∈ lw_tbl)) | _, _ => false)
    | _ => false
  | .anewarray k => match raw with
    | .anewarray i => (match w with | some (.classLink a j C) => decide (k = 3 ∧ a = own ∧ j = i ∧ C = "LowNumber$Now") | _ => false)
    | _ => false
  | .multianewarray k d => match raw with
    | .multianewarray i d2 => (match w with | some (.classLink a j C) => decide (k = 4 ∧ d = 2 ∧ d2 = 2 ∧ a = own ∧ j = i ∧ C = "[[I") | _ => false)
    | _ => false
  | .istore_n k => decide (raw = res) && decide ((k : Nat) < nL)
  | .istore k => decide (raw = res) && decide (k < nL)
  | .astore_n k => decide (raw = res) && decide ((k : Nat) < nL)
  | .astore k => decide (raw = res) && decide (k < nL)
  | .lstore_n k => decide (raw = res) && decide ((k : Nat) + 1 < nL)
  | .lstore k => decide (raw = res) && decide (k + 1 < nL)
  | .iinc k _ => decide (raw = res) && decide (k < nL)
  | _ => decide (raw = res)
def mj_len (i : Instr) : Nat := match i with
  | .bipush _ => 2 | .sipush _ => 3 | .ldc _ => 2 | .ldc_w _ => 3 | .ldc2_w _ => 3 | .iload _ => 2 | .lload _ => 2 | .aload _ => 2 | .istore _ => 2 | .lstore _ => 2 | .astore _ => 2
  | .iinc _ _ => 3 | .goto _ => 3 | .ifCond _ _ => 3 | .if_icmp _ _ => 3 | .ifnull _ => 3 | .ifnonnull _ => 3 | .getfield _ => 3 | .putfield _ => 3 | .getstatic _ => 3
  | .invokevirtual _ => 3 | .invokestatic _ => 3 | .invokespecial _ => 3 | .new _ => 3 | .newarray _ => 2 | .anewarray _ => 3 | .multianewarray _ _ => 4 | _ => 1
def mj_lenok (i : Instr) (len : Nat) : Bool := match i with
  | .tableswitch _ _ _ _ => true
  | i => Nat.beq len (mj_len i)
def mj_tgok (pc : Nat) (i : Instr) : Bool := match i with
  | .goto off => decide (0 ≤ (pc : Int) + off)
  | .ifCond _ off => decide (0 ≤ (pc : Int) + off)
  | .if_icmp _ off => decide (0 ≤ (pc : Int) + off)
  | .ifnull off => decide (0 ≤ (pc : Int) + off)
  | .ifnonnull off => decide (0 ≤ (pc : Int) + off)
  | .tableswitch d _ _ offs => decide (0 ≤ (pc : Int) + d) && offs.toList.all (fun off => decide (0 ≤ (pc : Int) + off))
  | _ => true
def mj_okE (M : mj_M) (e : mj_I) : Bool := (mj_lenok e.2.2.2.1 e.2.2.1 && mj_tgok e.1 e.2.2.2.1) && (decide (decode (mj_bt M) e.1 = .ok (e.2.2.2.1, e.2.2.1)) && mj_ok (mj_nm M).cls (decide ((mj_nm M).name = "<init>")) (mj_mx M) e.2.1 e.2.2.2.1 (mj_nth lw_tbl e.2.2.2.2))
def mj_okR (M : mj_M) (r : List mj_I) : Bool := r.all (mj_okE M)
def mj_okM (M : mj_M) : Bool := (mj_cd M).all (mj_okR M)
theorem mj_nth_mem {α : Type} : ∀ {l : List α} {n : Nat} {a : α}, mj_nth l n = some a → a ∈ l
  | [], _, _, h => by simp [mj_nth] at h
  | b :: t, 0, a, h => by simp [mj_nth] at h; simp [h]
  | b :: t, n + 1, a, h => List.mem_cons_of_mem _ (mj_nth_mem (l := t) (n := n) h)
theorem mj_nth_eq {α : Type} : ∀ (l : List α) (n : Nat), mj_nth l n = l[n]?
  | [], _ => by simp [mj_nth]
  | b :: t, 0 => by simp [mj_nth]
  | b :: t, n + 1 => by simp [mj_nth, mj_nth_eq t n]
theorem mj_find_spec : ∀ {l : List mj_I} {pc : Nat} {e : mj_I}, mj_find l pc = some e → e ∈ l ∧ e.1 = pc
  | [], _, _, h => by simp [mj_find] at h
  | b :: t, pc, e, h => by
    unfold mj_find at h
    cases hb : Nat.beq b.1 pc with
    | true => rw [hb] at h; cases h; exact ⟨List.mem_cons_self, Nat.eq_of_beq_eq_true hb⟩
    | false => rw [hb] at h; obtain ⟨h1, h2⟩ := mj_find_spec (l := t) h; exact ⟨List.mem_cons_of_mem _ h1, h2⟩
theorem mj_ent_ok {M : mj_M} (hM : mj_okM M = true) {pc : Nat} {e : mj_I} (he : mj_ent (mj_cd M) pc = some e) : e.1 = pc ∧ mj_okE M e = true := by
  unfold mj_ent at he
  cases hr : mj_nth (mj_cd M) (pc / 32) with
  | none => rw [hr] at he; cases he
  | some r =>
    rw [hr] at he
    obtain ⟨h1, h2⟩ := mj_find_spec he
    have h3 := List.all_eq_true.mp (List.all_eq_true.mp hM r (mj_nth_mem hr)) e h1
    exact ⟨h2, h3⟩
theorem mj_tst2 : mj_okM m_X8_init = true := by decide +kernel
theorem mj_tst4 : mj_okM m_X6_isWord = true := by decide +kernel
end
section
/-! the small machine's cells in the Jvm's heap -/
/-- class numbers, array classes, where the made cells begin, the heap at the law's start, the static cells, their ints -/
abbrev mj_D : Type := va_G × (Nat → ClassId) × Nat × Heap × (Nat → Nat) × mj_S
abbrev mj_G (D : mj_D) : va_G := D.1
abbrev mj_dA (D : mj_D) : Nat → ClassId := D.2.1
abbrev mj_b (D : mj_D) : Nat := D.2.2.1
abbrev mj_H0 (D : mj_D) : Heap := D.2.2.2.1
abbrev mj_sK (D : mj_D) : Nat → Nat := D.2.2.2.2.1
abbrev mj_sta (D : mj_D) : mj_S := D.2.2.2.2.2
def mj_ad (D : mj_D) (k : Nat) : Nat := if k < mj_SB then mj_b D + k else mj_sK D (k - mj_SB)
def mj_cv (D : mj_D) : Value → Value
  | .ref k => .ref (mj_ad D k)
  | v => v
def mj_cx (D : mj_D) (x : (Nat → Int32) ⊕ (Nat → Int64) ⊕ (Nat → UInt32) ⊕ (Nat → UInt64) ⊕ (Nat → Option Nat)) : (Nat → Int32) ⊕ (Nat → Int64) ⊕ (Nat → UInt32) ⊕ (Nat → UInt64) ⊕ (Nat → Option Nat) := match x with
  | .inr (.inr (.inr (.inr f))) => .inr (.inr (.inr (.inr (fun i => (f i).map (mj_ad D)))))
  | y => y
def mj_ca (D : mj_D) : va_E → va_E
  | .inl (a, n, x) => .inl (mj_dA D a, n, mj_cx D x)
  | .inr (ci, fs) => .inr (ci, fs.map (mj_cv D))
/-- a cell that nobody looks at -/
def mj_gb : va_E → Bool
  | .inr (99, _) => true
  | _ => false
def mj_hp (D : mj_D) (h : mj_H) (H : Heap) : Prop := H.size = mj_b D + h.1.length ∧ (∀ q : Nat, q < mj_b D → H[q]? = (mj_H0 D)[q]?) ∧ ∀ (k : Nat) (e : va_E), mj_nth h.1 k = some e → mj_gb e = false → va_at (mj_G D) vwCl (mj_b D + k, mj_ca D e) H
def mj_nest (w : Cond) : Bool := match w with
  | .fieldLinkNest .. => true
  | .methodLinkNest .. => true
  | _ => false
def mj_kw (w : Cond) : Bool := mj_nest w || goodWord w
def mj_tys : List FieldType := [.int, .long, .byte, .object "LowNumber$Now", .array .int]
def mj_AA (U : State) : Prop := (Cond.arrayOver (.array .int)).before #[] U = true
/-- what the tables say, at every state of the run -/
def mj_St (D : mj_D) (s : State) : Prop :=
  (∀ w ∈ lw_tbl, mj_kw w = true → va_Nw w s) ∧ (∀ (c : Nat) (q : vw_C), vwCl[c]? = some q → u_Kn s q.1 q.2.1 q.2.2 ((mj_G D).1 c) ((mj_G D).2 c)) ∧
  (∀ (a : Nat) (ty : FieldType), mj_tys[a]? = some ty → ArrOfT s (mj_dA D a) ty ∧ va_RA s (mj_dA D a) ty) ∧
  (∀ (k n : Nat) (f : Nat → Int32), mj_sta D k = some (n, f) → mj_SB ≤ k ∧ va_X (mj_sK D (k - mj_SB)) n f s (mj_H0 D) ∧ mj_sK D (k - mj_SB) < mj_b D) ∧
  (∀ (j : Nat) (r : String × Nat × String), mj_nth mj_str j = some r → vk_R r.1 r.2.1 r.2.2 (mj_sK D j) s) ∧
  va_AO "LowNumber$Now" s ∧ mj_AA s ∧ va_Z "LowNumber" "FACTORIALS" "[I" (.ref (mj_sK D 100)) (fun q => mj_b D ≤ q) s (mj_H0 D) ∧ (mj_H0 D).size = mj_b D
theorem mj_bare_kind (vm : Vm) (c : ClassId) : (vm.bare.classes[c]?).map (fun k : Class => k.kind) = (vm.classes[c]?).map (fun k : Class => k.kind) := by
  simp only [Vm.bare, Array.getElem?_map, Option.map_map]
  rfl
theorem mj_bare_idx (vm : Vm) (g : Kind → Bool) : (vm.bare.classes.findIdx? fun (x : Class) => g x.kind) = (vm.classes.findIdx? fun (x : Class) => g x.kind) := by
  simp only [Vm.bare, Array.findIdx?_map]
  rfl
theorem mj_AA.moved {u U : State} (hvm : u.vm.Alike U.vm) (h : mj_AA u) : mj_AA U := by
  have hi : ∀ g : Kind → Bool, (U.vm.classes.findIdx? fun (x : Class) => g x.kind) = (u.vm.classes.findIdx? fun (x : Class) => g x.kind) := by
    intro g
    rw [← mj_bare_idx U.vm, ← mj_bare_idx u.vm]
    first | rw [hvm.bare_eq] | rw [← hvm.bare_eq]
  have hk : ∀ c : ClassId, (U.vm.classes[c]?).map (fun k : Class => k.kind) = (u.vm.classes[c]?).map (fun k : Class => k.kind) := by
    intro c
    rw [← mj_bare_kind U.vm, ← mj_bare_kind u.vm]
    first | rw [hvm.bare_eq] | rw [← hvm.bare_eq]
  have hm : ∀ (c : ClassId) (g : Kind → Bool), (U.vm.classes[c]?).map (fun k : Class => g k.kind) = (u.vm.classes[c]?).map (fun k : Class => g k.kind) := by
    intro c g
    have := congrArg (Option.map g) (hk c)
    simpa [Option.map_map, Function.comp_def] using this
  unfold mj_AA Cond.before Cond.holds at h ⊢
  simp only [Cond.value] at h ⊢
  refine Eq.trans ?_ h
  refine congrArg (fun o : Option Bool => o == some true) ?_
  rw [hvm.findClass]
  refine congrArg (fun f => Option.bind (u.vm.findClass (FieldType.array .int).toString) f) (funext fun comp => ?_)
  refine (congrArg (fun o : Option Nat => Option.bind o _) (hi (fun kd => match kd with | .array component _ => component == comp | _ => false))).trans (congrArg (fun f => Option.bind _ f) (funext fun c => ?_))
  rw [hvm.findClass]
  exact hm c (fun kd => match kd with | .array _ ty => decide (ty = FieldType.array .int) && decide (u.vm.findClass ("[" ++ (FieldType.array .int).toString) = some c) | _ => false)
theorem mj_St.warm {D : mj_D} {s U : State} (hW : s.WarmedH U.vm) (h : mj_St D s) : mj_St D U := by
  obtain ⟨h1, h2, h3, h4, h5, h6, h7, h8, h9⟩ := h
  refine ⟨fun w hw hk => ?_, fun c q hq => u_Kn_moved hW.alike (h2 c q hq), fun a ty ha => ⟨arrOfT_moved hW.alike (h3 a ty ha).1, (h3 a ty ha).2.moved hW.alike⟩, fun j n f hj => ⟨(h4 j n f hj).1, (h4 j n f hj).2.1.moved hW.alike, (h4 j n f hj).2.2⟩, fun j r hj => (h5 j r hj).warm hW, h6.moved hW.alike, h7.moved hW.alike, h8.moved hW.alike, h9⟩
  have h0 := h1 w hw hk
  cases hn : mj_nest w with
  | true =>
    cases w <;> simp [mj_nest] at hn
    · exact va_Nw.warmM hW h0
    · exact va_Nw.warmF hW h0
  | false =>
    have hg : goodWord w = true := by simpa [mj_kw, hn] using hk
    exact word_at hW (good_of_word hg) h0
theorem mj_cat (D : mj_D) (v : Value) : (mj_cv D v).category = v.category := by cases v <;> rfl
theorem mj_nth_lt {α : Type} {l : List α} {k : Nat} {a : α} (h : mj_nth l k = some a) : k < l.length := by
  rw [mj_nth_eq] at h
  exact (List.getElem?_eq_some_iff.mp h).1
theorem mj_nth_set {α : Type} {l : List α} {k : Nat} {a b : α} (h : mj_nth l k = some a) : mj_nth (l.set k b) k = some b := by
  rw [mj_nth_eq, List.getElem?_set_self (mj_nth_lt h)]
theorem mj_nth_ne {α : Type} {l : List α} {k j : Nat} {b : α} (h : j ≠ k) : mj_nth (l.set k b) j = mj_nth l j := by
  rw [mj_nth_eq, mj_nth_eq, List.getElem?_set_ne (fun e => h e.symm)]
theorem mj_nth_map {α β : Type} (f : α → β) (l : List α) (k : Nat) : mj_nth (l.map f) k = (mj_nth l k).map f := by
  rw [mj_nth_eq, mj_nth_eq, List.getElem?_map]
theorem mj_hp.set {D : mj_D} {h : mj_H} {H H1 : Heap} {k n : Nat} {e0 e : va_E} (hh : mj_hp D h H) (hk : mj_nth h.1 k = some e0) (hz : H1.size = H.size) (ho : ∀ q, q ≠ mj_b D + k → H1[q]? = H[q]?) (ha : va_at (mj_G D) vwCl (mj_b D + k, mj_ca D e) H1) : mj_hp D (h.1.set k e, n) H1 := by
  obtain ⟨h1, h2, h3⟩ := hh
  refine ⟨by rw [hz, h1]; simp, fun q hq => by rw [ho q (by omega)]; exact h2 q hq, fun j e' hj hg => ?_⟩
  by_cases hjk : j = k
  · subst hjk
    have : e' = e := Option.some.inj (hj.symm.trans (mj_nth_set hk))
    subst this
    exact ha
  · have hj' : mj_nth h.1 j = some e' := (mj_nth_ne hjk).symm.trans hj
    exact (h3 j e' hj' hg).kept (ho _ (by show mj_b D + j ≠ mj_b D + k; omega))
theorem mj_nth_app {α : Type} {l t : List α} {j : Nat} {a : α} (h : mj_nth (l ++ t) j = some a) : (j < l.length ∧ mj_nth l j = some a) ∨ (l.length ≤ j ∧ mj_nth t (j - l.length) = some a) := by
  rw [mj_nth_eq] at h
  rcases Nat.lt_or_ge j l.length with q | q
  · left; rw [List.getElem?_append_left q] at h; exact ⟨q, by rw [mj_nth_eq]; exact h⟩
  · right; rw [List.getElem?_append_right q] at h; exact ⟨q, by rw [mj_nth_eq]; exact h⟩
theorem mj_hp.push {D : mj_D} {h : mj_H} {H H1 : Heap} {n : Nat} {t : List va_E} (hh : mj_hp D h H) (hz : H1.size = H.size + t.length) (ho : ∀ q, q < H.size → H1[q]? = H[q]?) (ha : ∀ j e, mj_nth t j = some e → mj_gb e = false → va_at (mj_G D) vwCl (mj_b D + (h.1.length + j), mj_ca D e) H1) : mj_hp D (h.1 ++ t, n) H1 := by
  obtain ⟨h1, h2, h3⟩ := hh
  refine ⟨by rw [hz, h1]; simp; omega, fun q hq => by rw [ho q (by omega)]; exact h2 q hq, fun j e' hj hg => ?_⟩
  rcases mj_nth_app hj with ⟨q, hj'⟩ | ⟨q, hj'⟩
  · exact (h3 j e' hj' hg).kept (ho _ (by show mj_b D + j < H.size; omega))
  · have := ha (j - h.1.length) e' hj' hg
    rwa [show h.1.length + (j - h.1.length) = j by omega] at this
/-- locals -/
def mj_pr (D : mj_D) (lv : mj_L) : List (Nat × Value) := lv.zipIdx.filterMap fun q => q.1.map fun v => (q.2, mj_cv D v)
theorem mj_pr_mem {D : mj_D} {lv : mj_L} {q : Nat × Value} : q ∈ mj_pr D lv ↔ ∃ v, lv[q.1]? = some (some v) ∧ q.2 = mj_cv D v := by
  unfold mj_pr
  rw [List.mem_filterMap]
  constructor
  · rintro ⟨⟨o, i⟩, hm, ho⟩
    cases o with
    | none => cases ho
    | some v =>
      cases ho
      exact ⟨v, List.mem_zipIdx_iff_getElem?.mp hm, rfl⟩
  · rintro ⟨v, h1, h2⟩
    exact ⟨(some v, q.1), List.mem_zipIdx_iff_getElem?.mpr h1, by simp [← h2]⟩
theorem mj_rd {D : mj_D} {ls : Array Slot} {nL : Nat} {lv : mj_L} {i : Nat} {v : Value} (h : lv_has ls nL (mj_pr D lv)) (hv : mj_ld lv i = some v) : ls[i]? = some (.val (mj_cv D v)) := by
  unfold mj_ld at hv
  rw [mj_nth_eq] at hv
  cases hi : lv[i]? with
  | none => rw [hi] at hv; cases hv
  | some o =>
    rw [hi] at hv
    cases o with
    | none => cases hv
    | some w => cases hv; exact h.2.2 (i, mj_cv D _) (mj_pr_mem.mpr ⟨_, hi, rfl⟩)
theorem mj_kl_get {lv : mj_L} {i j : Nat} {w : Value} (h : (mj_kl lv i)[j]? = some (some w)) : lv[j]? = some (some w) ∧ ¬ (j + 1 = i ∧ w.category = 2) := by
  unfold mj_kl at h
  cases i with
  | zero => exact ⟨h, by omega⟩
  | succ k =>
    dsimp only at h
    rw [mj_nth_eq] at h
    have gone : ∀ x : Value, lv[k]? = some (some x) → (lv.set k none)[j]? = some (some w) → lv[j]? = some (some w) ∧ ¬ (j + 1 = k + 1 ∧ w.category = 2) := by
      intro x hx h
      by_cases hj : k = j
      · subst hj
        rw [List.getElem?_set_self (List.getElem?_eq_some_iff.mp hx).1] at h
        cases h
      · rw [List.getElem?_set_ne hj] at h
        exact ⟨h, by omega⟩
    split at h
    · rename_i x hx; exact gone _ hx h
    · rename_i x hx; exact gone _ hx h
    · rename_i h1 h2
      refine ⟨h, fun ⟨e1, e2⟩ => ?_⟩
      have e3 : j = k := by omega
      subst e3
      cases w <;> simp [Value.category] at e2
      · exact h1 _ h
      · exact h2 _ h
theorem mj_st1 {D : mj_D} {ls' : Array Slot} {nL : Nat} {lv : mj_L} {i : Nat} {v : Value} (h : lv_has ls' nL ((i, mj_cv D v) :: (mj_pr D lv).filter (fun q => !(q.1 == i) && !(q.1 + 1 == i && q.2.category == 2)))) : lv_has ls' nL (mj_pr D (mj_s1 lv i v)) := by
  refine ⟨h.1, h.2.1, fun q hq => ?_⟩
  obtain ⟨w, h1, h2⟩ := mj_pr_mem.mp hq
  refine h.2.2 q ?_
  unfold mj_s1 at h1
  by_cases hi : i = q.1
  · subst hi
    have hlt : q.1 < ((mj_kl lv q.1).set q.1 (some v)).length := (List.getElem?_eq_some_iff.mp h1).1
    rw [List.getElem?_set_self (by simpa using hlt)] at h1
    cases h1
    exact List.mem_cons.mpr (Or.inl (Prod.ext rfl h2))
  · rw [List.getElem?_set_ne hi] at h1
    obtain ⟨g1, g2⟩ := mj_kl_get h1
    refine List.mem_cons.mpr (Or.inr (List.mem_filter.mpr ⟨mj_pr_mem.mpr ⟨w, g1, h2⟩, ?_⟩))
    rw [h2, mj_cat]
    have : ¬ q.1 = i := fun e => hi e.symm
    simp [this]
    exact Decidable.not_and_iff_or_not.mp g2
theorem mj_st2 {D : mj_D} {ls' : Array Slot} {nL : Nat} {lv : mj_L} {i : Nat} {v : Value} (h : lv_has ls' nL ((i, mj_cv D v) :: (mj_pr D lv).filter (fun q => !(q.1 == i) && (!(q.1 == i + 1) && !(q.1 + 1 == i && q.2.category == 2))))) : lv_has ls' nL (mj_pr D (mj_s2 lv i v)) := by
  refine ⟨h.1, h.2.1, fun q hq => ?_⟩
  obtain ⟨w, h1, h2⟩ := mj_pr_mem.mp hq
  refine h.2.2 q ?_
  unfold mj_s2 at h1
  by_cases hs : i + 1 = q.1
  · have hlt : q.1 < (((mj_kl lv i).set i (some v)).set (i + 1) none).length := (List.getElem?_eq_some_iff.mp h1).1
    rw [← hs] at h1 hlt
    rw [List.getElem?_set_self (by simpa using hlt)] at h1
    cases h1
  · rw [List.getElem?_set_ne hs] at h1
    by_cases hi : i = q.1
    · subst hi
      have hlt : q.1 < ((mj_kl lv q.1).set q.1 (some v)).length := (List.getElem?_eq_some_iff.mp h1).1
      rw [List.getElem?_set_self (by simpa using hlt)] at h1
      cases h1
      exact List.mem_cons.mpr (Or.inl (Prod.ext rfl h2))
    · rw [List.getElem?_set_ne hi] at h1
      obtain ⟨g1, g2⟩ := mj_kl_get h1
      refine List.mem_cons.mpr (Or.inr (List.mem_filter.mpr ⟨mj_pr_mem.mpr ⟨w, g1, h2⟩, ?_⟩))
      rw [h2, mj_cat]
      have e1 : ¬ q.1 = i := fun e => hi e.symm
      have e2 : ¬ q.1 = i + 1 := fun e => hs e.symm
      simp [e1, e2]
      exact Decidable.not_and_iff_or_not.mp g2
theorem mj_el_sl (D : mj_D) : ∀ as : List Value, (lg_sl (as.map (mj_cv D))).length = (mj_el as).length ∧ ∀ (i : Nat) (v : Value), (mj_el as)[i]? = some (some v) → (lg_sl (as.map (mj_cv D)))[i]? = some (.val (mj_cv D v))
  | [] => ⟨rfl, fun i v h => by simp [mj_el] at h⟩
  | w :: t => by
    obtain ⟨h1, h2⟩ := mj_el_sl D t
    have two : ∀ w : Value, w.category = 2 → mj_el (w :: t) = some w :: none :: mj_el t → (lg_sl ((w :: t).map (mj_cv D))).length = (mj_el (w :: t)).length ∧ ∀ (i : Nat) (v : Value), (mj_el (w :: t))[i]? = some (some v) → (lg_sl ((w :: t).map (mj_cv D)))[i]? = some (.val (mj_cv D v)) := by
      intro w hc he
      have e : lg_sl ((w :: t).map (mj_cv D)) = .val (mj_cv D w) :: .second :: lg_sl (t.map (mj_cv D)) := by simp [lg_sl, mj_cat, hc]
      rw [e, he]
      refine ⟨by simp [h1], fun i v h => ?_⟩
      match i, h with
      | 0, h => simp at h; simp [h]
      | 1, h => simp at h
      | i + 2, h => simp at h ⊢; exact h2 i v h
    have one : ∀ w : Value, w.category = 1 → mj_el (w :: t) = some w :: mj_el t → (lg_sl ((w :: t).map (mj_cv D))).length = (mj_el (w :: t)).length ∧ ∀ (i : Nat) (v : Value), (mj_el (w :: t))[i]? = some (some v) → (lg_sl ((w :: t).map (mj_cv D)))[i]? = some (.val (mj_cv D v)) := by
      intro w hc he
      have e : lg_sl ((w :: t).map (mj_cv D)) = .val (mj_cv D w) :: lg_sl (t.map (mj_cv D)) := by simp [lg_sl, mj_cat, hc]
      rw [e, he]
      refine ⟨by simp [h1], fun i v h => ?_⟩
      match i, h with
      | 0, h => simp at h; simp [h]
      | i + 1, h => simp at h ⊢; exact h2 i v h
    cases w with
    | long x => exact two _ rfl rfl
    | double x => exact two _ rfl rfl
    | _ => exact one _ rfl rfl
/-- at the entry -/
theorem mj_entry {D : mj_D} (as : List Value) {n : Nat} (hn : (mj_el as).length ≤ n) : lv_has ((lg_sl (as.map (mj_cv D)) ++ List.replicate (n - (lg_sl (as.map (mj_cv D))).length) Slot.unset).toArray) n (mj_pr D (mj_e0 n as)) := by
  obtain ⟨h1, h2⟩ := mj_el_sl D as
  have h := lv_entry (as.map (mj_cv D)) (n := n) (by omega)
  refine ⟨h.1, h.2.1, fun q hq => ?_⟩
  obtain ⟨v, g1, g2⟩ := mj_pr_mem.mp hq
  have g3 : (mj_el as)[q.1]? = some (some v) := by
    unfold mj_e0 at g1
    rcases Nat.lt_or_ge q.1 (mj_el as).length with z | z
    · rwa [List.getElem?_append_left z] at g1
    · rw [List.getElem?_append_right z, List.getElem?_replicate] at g1
      split at g1 <;> simp at g1
  have g4 := h2 _ _ g3
  have hlt : q.1 < (lg_sl (as.map (mj_cv D))).length := (List.getElem?_eq_some_iff.mp g4).1
  rw [g2, List.getElem?_toArray, List.getElem?_append_left hlt]
  exact g4
end
section
/-! a step of the small machine is a step of the Jvm: plain instructions -/
section MJS
variable {D : mj_D} {M : mj_M} {p : Program} {l : Launch} {e : Env} {R : Room} {s : State} {m : MethodId} {args : Array Value} {below : List Frame} {meth : Method} {c : Code} {Q : State → Prop} {n0 s0 Lx Sx : Nat}
/-- what stands fast in a method's body -/
def mj_Cx (D : mj_D) (M : mj_M) (p : Program) (R : Room) (s : State) (m : MethodId) (meth : Method) (c : Code) (n0 s0 Lx Sx : Nat) : Prop :=
  p.tables.exec = Jvm.exec ∧ c.code = mj_bt M ∧ c.maxLocals = mj_mx M ∧ s.vm.findClass (mj_nm M).cls = some m.cls ∧ meth.name = (mj_nm M).name ∧ mj_St D s ∧ R.cells = Lx - n0 ∧ R.slots = Sx - s0 ∧ Lx ≤ mj_SB ∧ mj_b D ≤ s.heap.size ∧ ∀ q : Nat, q < mj_b D → s.heap[q]? = (mj_H0 D)[q]?
def mj_P (D : mj_D) (M : mj_M) (p : Program) (l : Launch) (e : Env) (R : Room) (s : State) (m : MethodId) (args : Array Value) (below : List Frame) (meth : Method) (c : Code) (Q : State → Prop) (n0 s0 Lx Sx : Nat) (pc : Nat) (lv : mj_L) (st : List Value) (h : mj_H) : Prop :=
  h.1.length ≤ Lx ∧ h.2 ≤ Sx ∧ ∀ (H : Heap) (locs : List Loc) (ls : Array Slot), mj_hp D h H → va_S (fun q => mj_b D ≤ q) s.heap H locs → lv_has ls (mj_mx M) (mj_pr D lv) → n0 ≤ h.1.length → s0 ≤ h.2 → W p l e R s m args below meth c H locs (h.1.length - n0) (h.2 - s0) Q (F0 m pc ls (st.map (mj_cv D)))
variable {pc : Nat} {lv : mj_L} {st r : List Value} {h : mj_H}
theorem mj_ad_s (D : mj_D) (j : Nat) : mj_ad D (mj_SB + j) = mj_sK D j := by
  unfold mj_ad
  rw [if_neg (Nat.not_lt.mpr (Nat.le_add_right _ _)), Nat.add_sub_cancel_left]
theorem mj_ad_l {D : mj_D} {k : Nat} (h : k < mj_SB) : mj_ad D k = mj_b D + k := if_pos h
theorem mj_St.use (hS : mj_St D s) {w : Cond} (hw : w ∈ lw_tbl) (hk : mj_kw w = true) (ho : w.onTables = true) : w.before args s = true := va_Nw.use ho (hS.1 w hw hk)
theorem mj_tgI {pc : Nat} {off : Int} (h : 0 ≤ (pc : Int) + off) : (pc : Int) + off = ((mj_tg pc off : Nat) : Int) := by
  unfold mj_tg
  omega
/-- the same heap, the same locals -/
theorem mj_lift {pc pc' : Nat} {st st' : List Value} (hW : ∀ (H : Heap) (locs : List Loc) (ls : Array Slot) (cells slots : Nat), lv_has ls (mj_mx M) (mj_pr D lv) → W p l e R s m args below meth c H locs cells slots Q (F0 m pc' ls (st'.map (mj_cv D))) → W p l e R s m args below meth c H locs cells slots Q (F0 m pc ls (st.map (mj_cv D))))
    (k : mj_P D M p l e R s m args below meth c Q n0 s0 Lx Sx pc' lv st' h) : mj_P D M p l e R s m args below meth c Q n0 s0 Lx Sx pc lv st h :=
  ⟨k.1, k.2.1, fun H locs ls a1 a2 a3 a4 a5 => hW H locs ls _ _ a3 (k.2.2 H locs ls a1 a2 a3 a4 a5)⟩
/-- the same heap, other locals -/
theorem mj_liftL {pc pc' : Nat} {st st' : List Value} {lv' : mj_L} (hW : ∀ (H : Heap) (locs : List Loc) (ls : Array Slot) (cells slots : Nat), lv_has ls (mj_mx M) (mj_pr D lv) → (∀ ls', lv_has ls' (mj_mx M) (mj_pr D lv') → W p l e R s m args below meth c H locs cells slots Q (F0 m pc' ls' (st'.map (mj_cv D)))) → W p l e R s m args below meth c H locs cells slots Q (F0 m pc ls (st.map (mj_cv D))))
    (k : mj_P D M p l e R s m args below meth c Q n0 s0 Lx Sx pc' lv' st' h) : mj_P D M p l e R s m args below meth c Q n0 s0 Lx Sx pc lv st h :=
  ⟨k.1, k.2.1, fun H locs ls a1 a2 a3 a4 a5 => hW H locs ls _ _ a3 (fun ls' a3' => k.2.2 H locs ls' a1 a2 a3' a4 a5)⟩
theorem mj_iinc_at {lv : mj_L} {i : Nat} {v : Value} (hv : mj_ld lv i = some v) : ∃ k : Nat, (mj_pr D lv)[k]? = some (i, mj_cv D v) := by
  unfold mj_ld at hv
  rw [mj_nth_eq] at hv
  cases hi : lv[i]? with
  | none => rw [hi] at hv; cases hv
  | some o =>
    rw [hi] at hv
    cases o with
    | none => cases hv
    | some w => cases hv; exact List.getElem?_of_mem (mj_pr_mem.mpr ⟨_, hi, rfl⟩)
set_option maxHeartbeats 4000000 in
/-- instructions that look at no heap -/
theorem mj_pure (C : mj_Cx D M p R s m meth c n0 s0 Lx Sx) {i raw : Instr} {len wp : Nat} {pc' : Nat} {lv' : mj_L} {st' : List Value} {h' : mj_H} (hd : decode (mj_bt M) pc = .ok (raw, len)) (hl : mj_lenok raw len = true) (ht : mj_tgok pc raw = true)
    (hok : mj_ok (mj_nm M).cls (decide ((mj_nm M).name = "<init>")) (mj_mx M) i raw (mj_nth lw_tbl wp) = true) (hi : match i with | .getfield _ | .putfield _ | .iaload | .baload | .laload | .aaload | .iastore | .bastore | .lastore | .aastore | .arraylength | .new _ | .newarray _ | .anewarray _ | .multianewarray _ _ | .getstatic _ => False | _ => True)
    (hn : mj_nx (mj_sta D) i len pc lv st h = some (pc', lv', st', h')) (k : mj_P D M p l e R s m args below meth c Q n0 s0 Lx Sx pc' lv' st' h') : mj_P D M p l e R s m args below meth c Q n0 s0 Lx Sx pc lv st h := by
  obtain ⟨hx, hb, hml, hown, hnm, hSt, -⟩ := id C
  cases i
  case iconst n =>
    cases hn
    cases raw <;> simp only [mj_ok, Bool.false_eq_true] at hok
    case iconst m =>
      have e1 := of_decide_eq_true hok; subst e1
      have e2 : len = 1 := Nat.eq_of_beq_eq_true hl; subst e2
      exact mj_lift (fun H locs ls cells slots _ w => lv_iconst hx hb hd rfl w) k
    case ldc j =>
      have e2 : len = 2 := Nat.eq_of_beq_eq_true hl; subst e2
      cases hw : mj_nth lw_tbl wp with
      | none => rw [hw] at hok; cases hok
      | some w =>
        rw [hw] at hok
        cases w <;> simp only [Bool.false_eq_true] at hok
        obtain ⟨e1, e2, e3⟩ := of_decide_eq_true hok
        subst e1; subst e2; subst e3
        exact mj_lift (fun H locs ls cells slots _ w => lv_ldc hx hb hown (hSt.use (mj_nth_mem hw) rfl rfl) hd w) k
    case ldc_w j =>
      have e2 : len = 3 := Nat.eq_of_beq_eq_true hl; subst e2
      cases hw : mj_nth lw_tbl wp with
      | none => rw [hw] at hok; cases hok
      | some w =>
        rw [hw] at hok
        cases w <;> simp only [Bool.false_eq_true] at hok
        obtain ⟨e1, e2, e3⟩ := of_decide_eq_true hok
        subst e1; subst e2; subst e3
        exact mj_lift (fun H locs ls cells slots _ w => lv_ldcw hx hb hown (hSt.use (mj_nth_mem hw) rfl rfl) hd w) k
  case ldc2_w n =>
    cases hn
    cases raw <;> simp only [mj_ok, Bool.false_eq_true] at hok
    have e2 : len = 3 := Nat.eq_of_beq_eq_true hl; subst e2
    cases hw : mj_nth lw_tbl wp with
    | none => rw [hw] at hok; cases hok
    | some w =>
      rw [hw] at hok
      cases w <;> simp only [Bool.false_eq_true] at hok
      obtain ⟨e1, e2, e3⟩ := of_decide_eq_true hok
      subst e1; subst e2; subst e3
      exact mj_lift (fun H locs ls cells slots _ w => lv_ldc2 hx hb hown (hSt.use (mj_nth_mem hw) rfl rfl) hd w) k
  case ldc j =>
    cases hn
    cases raw <;> simp only [mj_ok, Bool.false_eq_true] at hok
    have e2 : len = 2 := Nat.eq_of_beq_eq_true hl; subst e2
    cases hw : mj_nth lw_tbl wp with
    | none => rw [hw] at hok; cases hok
    | some w =>
      rw [hw] at hok
      cases w <;> simp only [Bool.false_eq_true] at hok
      obtain ⟨e1, e2, e3⟩ := of_decide_eq_true hok
      subst e1; subst e2
      have hZ := hSt.2.2.2.2.1 j _ e3
      have ha : mj_ad D (mj_SB + j) = mj_sK D j := mj_ad_s D j
      exact mj_lift (fun H locs ls cells slots _ w => va_ldcS hx hb hown hZ hd (by rw [List.map_cons, show mj_cv D (.ref (mj_SB + j)) = .ref (mj_ad D (mj_SB + j)) from rfl, ha] at w; exact w)) k
  case bipush n =>
    have e1 : raw = _ := of_decide_eq_true (by simpa only [mj_ok] using hok); subst e1
    have e2 : len = 2 := Nat.eq_of_beq_eq_true hl; subst e2
    cases hn
    exact mj_lift (fun H locs ls cells slots _ w => lv_bipush hx hb hd rfl w) k
  case sipush n =>
    have e1 : raw = _ := of_decide_eq_true (by simpa only [mj_ok] using hok); subst e1
    have e2 : len = 3 := Nat.eq_of_beq_eq_true hl; subst e2
    cases hn
    exact mj_lift (fun H locs ls cells slots _ w => lv_sipush hx hb hd rfl w) k
  case lconst n =>
    have e1 : raw = _ := of_decide_eq_true (by simpa only [mj_ok] using hok); subst e1
    have e2 : len = 1 := Nat.eq_of_beq_eq_true hl; subst e2
    cases hn
    exact mj_lift (fun H locs ls cells slots _ w => lv_lconst hx hb hd rfl w) k
  case iload_n n =>
    have e1 : raw = _ := of_decide_eq_true (by simpa only [mj_ok] using hok); subst e1
    have e2 : len = 1 := Nat.eq_of_beq_eq_true hl; subst e2
    unfold mj_nx at hn
    dsimp only at hn
    split at hn
    case h_2 => cases hn
    rename_i x hv
    cases hn
    exact mj_lift (fun H locs ls cells slots hl0 w => lv_iload_n hx hb hd rfl (mj_rd hl0 hv) w) k
  case lload_n n =>
    have e1 : raw = _ := of_decide_eq_true (by simpa only [mj_ok] using hok); subst e1
    have e2 : len = 1 := Nat.eq_of_beq_eq_true hl; subst e2
    unfold mj_nx at hn
    dsimp only at hn
    split at hn
    case h_2 => cases hn
    rename_i x hv
    cases hn
    exact mj_lift (fun H locs ls cells slots hl0 w => lv_lload_n hx hb hd rfl (mj_rd hl0 hv) w) k
  case aload_n n =>
    have e1 : raw = _ := of_decide_eq_true (by simpa only [mj_ok] using hok); subst e1
    have e2 : len = 1 := Nat.eq_of_beq_eq_true hl; subst e2
    unfold mj_nx at hn
    dsimp only at hn
    split at hn
    case h_2 => cases hn
    rename_i x hv
    cases hn
    exact mj_lift (fun H locs ls cells slots hl0 w => lv_aload_n hx hb hd rfl (mj_rd hl0 hv) w) k
  case iload n =>
    have e1 : raw = _ := of_decide_eq_true (by simpa only [mj_ok] using hok); subst e1
    have e2 : len = 2 := Nat.eq_of_beq_eq_true hl; subst e2
    unfold mj_nx at hn
    dsimp only at hn
    split at hn
    case h_2 => cases hn
    rename_i x hv
    cases hn
    exact mj_lift (fun H locs ls cells slots hl0 w => lv_iload hx hb hd (mj_rd hl0 hv) w) k
  case lload n =>
    have e1 : raw = _ := of_decide_eq_true (by simpa only [mj_ok] using hok); subst e1
    have e2 : len = 2 := Nat.eq_of_beq_eq_true hl; subst e2
    unfold mj_nx at hn
    dsimp only at hn
    split at hn
    case h_2 => cases hn
    rename_i x hv
    cases hn
    exact mj_lift (fun H locs ls cells slots hl0 w => lv_lload hx hb hd (mj_rd hl0 hv) w) k
  case aload n =>
    have e1 : raw = _ := of_decide_eq_true (by simpa only [mj_ok] using hok); subst e1
    have e2 : len = 2 := Nat.eq_of_beq_eq_true hl; subst e2
    unfold mj_nx at hn
    dsimp only at hn
    split at hn
    case h_2 => cases hn
    rename_i x hv
    cases hn
    exact mj_lift (fun H locs ls cells slots hl0 w => lv_aload hx hb hd (mj_rd hl0 hv) w) k
  case istore_n n =>
    simp only [mj_ok, Bool.and_eq_true, decide_eq_true_eq] at hok
    obtain ⟨e1, hlt⟩ := hok; subst e1
    have e2 : len = 1 := Nat.eq_of_beq_eq_true hl; subst e2
    unfold mj_nx at hn
    dsimp only at hn
    split at hn
    case h_2 => cases hn
    cases hn
    exact mj_liftL (fun H locs ls cells slots hl0 w => lv_istore_n hx hb hd rfl hl0 hlt rfl (fun ls' hl' => w ls' (mj_st1 (v := .int _) hl'))) k
  case istore n =>
    simp only [mj_ok, Bool.and_eq_true, decide_eq_true_eq] at hok
    obtain ⟨e1, hlt⟩ := hok; subst e1
    have e2 : len = 2 := Nat.eq_of_beq_eq_true hl; subst e2
    unfold mj_nx at hn
    dsimp only at hn
    split at hn
    case h_2 => cases hn
    cases hn
    exact mj_liftL (fun H locs ls cells slots hl0 w => lv_istore hx hb hd hl0 hlt rfl (fun ls' hl' => w ls' (mj_st1 (v := .int _) hl'))) k
  case lstore_n n =>
    simp only [mj_ok, Bool.and_eq_true, decide_eq_true_eq] at hok
    obtain ⟨e1, hlt⟩ := hok; subst e1
    have e2 : len = 1 := Nat.eq_of_beq_eq_true hl; subst e2
    unfold mj_nx at hn
    dsimp only at hn
    split at hn
    case h_2 => cases hn
    cases hn
    exact mj_liftL (fun H locs ls cells slots hl0 w => lv_lstore_n hx hb hd rfl hl0 hlt rfl (fun ls' hl' => w ls' (mj_st2 (v := .long _) hl'))) k
  case lstore n =>
    simp only [mj_ok, Bool.and_eq_true, decide_eq_true_eq] at hok
    obtain ⟨e1, hlt⟩ := hok; subst e1
    have e2 : len = 2 := Nat.eq_of_beq_eq_true hl; subst e2
    unfold mj_nx at hn
    dsimp only at hn
    split at hn
    case h_2 => cases hn
    cases hn
    exact mj_liftL (fun H locs ls cells slots hl0 w => lv_lstore hx hb hd hl0 hlt rfl (fun ls' hl' => w ls' (mj_st2 (v := .long _) hl'))) k
  case astore_n n =>
    simp only [mj_ok, Bool.and_eq_true, decide_eq_true_eq] at hok
    obtain ⟨e1, hlt⟩ := hok; subst e1
    have e2 : len = 1 := Nat.eq_of_beq_eq_true hl; subst e2
    unfold mj_nx at hn
    dsimp only at hn
    split at hn
    case h_2 => cases hn
    cases hn
    exact mj_liftL (fun H locs ls cells slots hl0 w => lv_astore_n hx hb hd rfl hl0 hlt rfl (fun ls' hl' => w ls' (mj_st1 (v := .ref _) hl'))) k
  case astore n =>
    simp only [mj_ok, Bool.and_eq_true, decide_eq_true_eq] at hok
    obtain ⟨e1, hlt⟩ := hok; subst e1
    have e2 : len = 2 := Nat.eq_of_beq_eq_true hl; subst e2
    unfold mj_nx at hn
    dsimp only at hn
    split at hn
    case h_2 => cases hn
    cases hn
    exact mj_liftL (fun H locs ls cells slots hl0 w => lv_astore hx hb hd hl0 hlt rfl (fun ls' hl' => w ls' (mj_st1 (v := .ref _) hl'))) k
  case iinc n z =>
    simp only [mj_ok, Bool.and_eq_true, decide_eq_true_eq] at hok
    obtain ⟨e1, hlt⟩ := hok; subst e1
    have e2 : len = 3 := Nat.eq_of_beq_eq_true hl; subst e2
    unfold mj_nx at hn
    dsimp only at hn
    split at hn
    case h_2 => cases hn
    rename_i x hv
    cases hn
    obtain ⟨j, hj⟩ := mj_iinc_at (D := D) hv
    exact mj_liftL (fun H locs ls cells slots hl0 w => lv_iinc hx hb hd hl0 hj rfl hlt rfl (fun ls' hl' => w ls' (mj_st1 (v := .int _) hl'))) k
  case iadd =>
    have e1 : raw = _ := of_decide_eq_true (by simpa only [mj_ok] using hok); subst e1
    have e2 : len = 1 := Nat.eq_of_beq_eq_true hl; subst e2
    unfold mj_nx at hn
    dsimp only at hn
    split at hn
    case h_2 => cases hn
    cases hn
    exact mj_lift (fun H locs ls cells slots _ w => lv_iadd hx hb hd w) k
  case isub =>
    have e1 : raw = _ := of_decide_eq_true (by simpa only [mj_ok] using hok); subst e1
    have e2 : len = 1 := Nat.eq_of_beq_eq_true hl; subst e2
    unfold mj_nx at hn
    dsimp only at hn
    split at hn
    case h_2 => cases hn
    cases hn
    exact mj_lift (fun H locs ls cells slots _ w => lv_isub hx hb hd w) k
  case imul =>
    have e1 : raw = _ := of_decide_eq_true (by simpa only [mj_ok] using hok); subst e1
    have e2 : len = 1 := Nat.eq_of_beq_eq_true hl; subst e2
    unfold mj_nx at hn
    dsimp only at hn
    split at hn
    case h_2 => cases hn
    cases hn
    exact mj_lift (fun H locs ls cells slots _ w => lv_imul hx hb hd w) k
  case iand =>
    have e1 : raw = _ := of_decide_eq_true (by simpa only [mj_ok] using hok); subst e1
    have e2 : len = 1 := Nat.eq_of_beq_eq_true hl; subst e2
    unfold mj_nx at hn
    dsimp only at hn
    split at hn
    case h_2 => cases hn
    cases hn
    exact mj_lift (fun H locs ls cells slots _ w => lv_iand hx hb hd w) k
  case ior =>
    have e1 : raw = _ := of_decide_eq_true (by simpa only [mj_ok] using hok); subst e1
    have e2 : len = 1 := Nat.eq_of_beq_eq_true hl; subst e2
    unfold mj_nx at hn
    dsimp only at hn
    split at hn
    case h_2 => cases hn
    cases hn
    exact mj_lift (fun H locs ls cells slots _ w => lv_ior hx hb hd w) k
  case ixor =>
    have e1 : raw = _ := of_decide_eq_true (by simpa only [mj_ok] using hok); subst e1
    have e2 : len = 1 := Nat.eq_of_beq_eq_true hl; subst e2
    unfold mj_nx at hn
    dsimp only at hn
    split at hn
    case h_2 => cases hn
    cases hn
    exact mj_lift (fun H locs ls cells slots _ w => lv_ixor hx hb hd w) k
  case ishl =>
    have e1 : raw = _ := of_decide_eq_true (by simpa only [mj_ok] using hok); subst e1
    have e2 : len = 1 := Nat.eq_of_beq_eq_true hl; subst e2
    unfold mj_nx at hn
    dsimp only at hn
    split at hn
    case h_2 => cases hn
    cases hn
    exact mj_lift (fun H locs ls cells slots _ w => lv_ishl hx hb hd w) k
  case ishr =>
    have e1 : raw = _ := of_decide_eq_true (by simpa only [mj_ok] using hok); subst e1
    have e2 : len = 1 := Nat.eq_of_beq_eq_true hl; subst e2
    unfold mj_nx at hn
    dsimp only at hn
    split at hn
    case h_2 => cases hn
    cases hn
    exact mj_lift (fun H locs ls cells slots _ w => lv_ishr hx hb hd w) k
  case ladd =>
    have e1 : raw = _ := of_decide_eq_true (by simpa only [mj_ok] using hok); subst e1
    have e2 : len = 1 := Nat.eq_of_beq_eq_true hl; subst e2
    unfold mj_nx at hn
    dsimp only at hn
    split at hn
    case h_2 => cases hn
    cases hn
    exact mj_lift (fun H locs ls cells slots _ w => lv_ladd hx hb hd w) k
  case lmul =>
    have e1 : raw = _ := of_decide_eq_true (by simpa only [mj_ok] using hok); subst e1
    have e2 : len = 1 := Nat.eq_of_beq_eq_true hl; subst e2
    unfold mj_nx at hn
    dsimp only at hn
    split at hn
    case h_2 => cases hn
    cases hn
    exact mj_lift (fun H locs ls cells slots _ w => lv_lmul hx hb hd w) k
  case iushr =>
    have e1 : raw = _ := of_decide_eq_true (by simpa only [mj_ok] using hok); subst e1
    have e2 : len = 1 := Nat.eq_of_beq_eq_true hl; subst e2
    unfold mj_nx at hn
    dsimp only at hn
    split at hn
    case h_2 => cases hn
    cases hn
    exact mj_lift (fun H locs ls cells slots _ w => lv_iushr hx hb hd rfl w) k
  case lcmp =>
    have e1 : raw = _ := of_decide_eq_true (by simpa only [mj_ok] using hok); subst e1
    have e2 : len = 1 := Nat.eq_of_beq_eq_true hl; subst e2
    unfold mj_nx at hn
    dsimp only at hn
    split at hn
    case h_2 => cases hn
    cases hn
    exact mj_lift (fun H locs ls cells slots _ w => W.lcmp hx hb hd w) k
  case i2l =>
    have e1 : raw = _ := of_decide_eq_true (by simpa only [mj_ok] using hok); subst e1
    have e2 : len = 1 := Nat.eq_of_beq_eq_true hl; subst e2
    unfold mj_nx at hn
    dsimp only at hn
    split at hn
    case h_2 => cases hn
    cases hn
    exact mj_lift (fun H locs ls cells slots _ w => lv_i2l hx hb hd rfl w) k
  case l2i =>
    have e1 : raw = _ := of_decide_eq_true (by simpa only [mj_ok] using hok); subst e1
    have e2 : len = 1 := Nat.eq_of_beq_eq_true hl; subst e2
    unfold mj_nx at hn
    dsimp only at hn
    split at hn
    case h_2 => cases hn
    cases hn
    exact mj_lift (fun H locs ls cells slots _ w => lv_l2i hx hb hd rfl w) k
  case i2b =>
    have e1 : raw = _ := of_decide_eq_true (by simpa only [mj_ok] using hok); subst e1
    have e2 : len = 1 := Nat.eq_of_beq_eq_true hl; subst e2
    unfold mj_nx at hn
    dsimp only at hn
    split at hn
    case h_2 => cases hn
    cases hn
    exact mj_lift (fun H locs ls cells slots _ w => lv_i2b hx hb hd rfl w) k
  case idiv =>
    have e1 : raw = _ := of_decide_eq_true (by simpa only [mj_ok] using hok); subst e1
    have e2 : len = 1 := Nat.eq_of_beq_eq_true hl; subst e2
    unfold mj_nx at hn
    dsimp only at hn
    split at hn
    case h_2 => cases hn
    split at hn
    case isTrue => cases hn
    rename_i hne
    cases hn
    exact mj_lift (fun H locs ls cells slots _ w => lv_idiv hx hb hd hne w) k
  case irem =>
    have e1 : raw = _ := of_decide_eq_true (by simpa only [mj_ok] using hok); subst e1
    have e2 : len = 1 := Nat.eq_of_beq_eq_true hl; subst e2
    unfold mj_nx at hn
    dsimp only at hn
    split at hn
    case h_2 => cases hn
    split at hn
    case isTrue => cases hn
    rename_i hne
    cases hn
    exact mj_lift (fun H locs ls cells slots _ w => lv_irem hx hb hd hne w) k
  case ldiv =>
    have e1 : raw = _ := of_decide_eq_true (by simpa only [mj_ok] using hok); subst e1
    have e2 : len = 1 := Nat.eq_of_beq_eq_true hl; subst e2
    unfold mj_nx at hn
    dsimp only at hn
    split at hn
    case h_2 => cases hn
    split at hn
    case isTrue => cases hn
    rename_i hne
    cases hn
    exact mj_lift (fun H locs ls cells slots _ w => lv_ldiv hx hb hd hne w) k
  case lrem =>
    have e1 : raw = _ := of_decide_eq_true (by simpa only [mj_ok] using hok); subst e1
    have e2 : len = 1 := Nat.eq_of_beq_eq_true hl; subst e2
    unfold mj_nx at hn
    dsimp only at hn
    split at hn
    case h_2 => cases hn
    split at hn
    case isTrue => cases hn
    rename_i hne
    cases hn
    exact mj_lift (fun H locs ls cells slots _ w => lv_lrem hx hb hd hne w) k
  case dup =>
    have e1 : raw = _ := of_decide_eq_true (by simpa only [mj_ok] using hok); subst e1
    have e2 : len = 1 := Nat.eq_of_beq_eq_true hl; subst e2
    unfold mj_nx at hn
    dsimp only at hn
    split at hn
    case h_3 => cases hn
    · cases hn
      exact mj_lift (fun H locs ls cells slots _ w => lv_dup hx hb hd rfl w) k
    · cases hn
      exact mj_lift (fun H locs ls cells slots _ w => lv_dup hx hb hd rfl w) k
  case dup2 =>
    have e1 : raw = _ := of_decide_eq_true (by simpa only [mj_ok] using hok); subst e1
    have e2 : len = 1 := Nat.eq_of_beq_eq_true hl; subst e2
    unfold mj_nx at hn
    dsimp only at hn
    split at hn
    case h_3 => cases hn
    · cases hn
      exact mj_lift (fun H locs ls cells slots _ w => lv_dup2_11 hx hb hd rfl rfl w) k
    · cases hn
      exact mj_lift (fun H locs ls cells slots _ w => lv_dup2_2 hx hb hd rfl w) k
  case pop =>
    have e1 : raw = _ := of_decide_eq_true (by simpa only [mj_ok] using hok); subst e1
    have e2 : len = 1 := Nat.eq_of_beq_eq_true hl; subst e2
    unfold mj_nx at hn
    dsimp only at hn
    split at hn
    case h_3 => cases hn
    · cases hn
      exact mj_lift (fun H locs ls cells slots _ w => lv_pop hx hb hd rfl w) k
    · cases hn
      exact mj_lift (fun H locs ls cells slots _ w => lv_pop hx hb hd rfl w) k
  case ifnull off =>
    have e1 : raw = _ := of_decide_eq_true (by simpa only [mj_ok] using hok); subst e1
    have e2 : len = 3 := Nat.eq_of_beq_eq_true hl; subst e2
    have ht := mj_tgI (of_decide_eq_true ht)
    unfold mj_nx at hn
    dsimp only at hn
    split at hn
    case h_3 => cases hn
    · cases hn
      exact mj_lift (fun H locs ls cells slots _ w => lv_ifnull hx hb hd w) k
    · cases hn
      exact mj_lift (fun H locs ls cells slots _ w => lv_ifnullN hx hb hd ht w) k
  case ifnonnull off =>
    have e1 : raw = _ := of_decide_eq_true (by simpa only [mj_ok] using hok); subst e1
    have e2 : len = 3 := Nat.eq_of_beq_eq_true hl; subst e2
    have ht := mj_tgI (of_decide_eq_true ht)
    unfold mj_nx at hn
    dsimp only at hn
    split at hn
    case h_3 => cases hn
    · cases hn
      exact mj_lift (fun H locs ls cells slots _ w => lv_ifnonnull hx hb hd ht w) k
    · cases hn
      exact mj_lift (fun H locs ls cells slots _ w => lv_ifnonnullN hx hb hd w) k
  case goto off =>
    have e1 : raw = _ := of_decide_eq_true (by simpa only [mj_ok] using hok); subst e1
    have e2 : len = 3 := Nat.eq_of_beq_eq_true hl; subst e2
    have tg := mj_tgI (of_decide_eq_true ht)
    cases hn
    exact mj_lift (fun H locs ls cells slots _ w => lv_goto hx hb hd tg w) k
  case ifCond q off =>
    have e1 : raw = _ := of_decide_eq_true (by simpa only [mj_ok] using hok); subst e1
    have e2 : len = 3 := Nat.eq_of_beq_eq_true hl; subst e2
    have tg := mj_tgI (of_decide_eq_true ht)
    unfold mj_nx at hn
    dsimp only at hn
    split at hn
    case h_2 => cases hn
    cases hn
    refine mj_lift (fun H locs ls cells slots _ w => ?_) k
    cases q
    · exact lv_if_eq hx hb hd tg (fun z => by simpa [mj_cmp, z] using w) (fun z => by simpa [mj_cmp, z] using w)
    · exact lv_if_ne hx hb hd tg (fun z => by simpa [mj_cmp, z] using w) (fun z => by simpa [mj_cmp, z] using w)
    · exact lv_if_lt hx hb hd tg (fun z => by simpa [mj_cmp, z] using w) (fun z => by simpa [mj_cmp, z] using w)
    · exact lv_if_ge hx hb hd tg (fun z => by simpa [mj_cmp, z] using w) (fun z => by simpa [mj_cmp, z] using w)
    · exact lv_if_gt hx hb hd tg (fun z => by simpa [mj_cmp, z] using w) (fun z => by simpa [mj_cmp, z] using w)
    · exact lv_if_le hx hb hd tg (fun z => by simpa [mj_cmp, z] using w) (fun z => by simpa [mj_cmp, z] using w)
  case if_icmp q off =>
    have e1 : raw = _ := of_decide_eq_true (by simpa only [mj_ok] using hok); subst e1
    have e2 : len = 3 := Nat.eq_of_beq_eq_true hl; subst e2
    have tg := mj_tgI (of_decide_eq_true ht)
    unfold mj_nx at hn
    dsimp only at hn
    split at hn
    case h_2 => cases hn
    cases hn
    refine mj_lift (fun H locs ls cells slots _ w => ?_) k
    cases q
    · exact lv_icmp_eq hx hb hd tg (fun z => by simpa [mj_cmp, z] using w) (fun z => by simpa [mj_cmp, z] using w)
    · exact lv_icmp_ne hx hb hd tg (fun z => by simpa [mj_cmp, z] using w) (fun z => by simpa [mj_cmp, z] using w)
    · exact lv_icmp_lt hx hb hd tg (fun z => by simpa [mj_cmp, z] using w) (fun z => by simpa [mj_cmp, z] using w)
    · exact lv_icmp_ge hx hb hd tg (fun z => by simpa [mj_cmp, z] using w) (fun z => by simpa [mj_cmp, z] using w)
    · exact lv_icmp_gt hx hb hd tg (fun z => by simpa [mj_cmp, z] using w) (fun z => by simpa [mj_cmp, z] using w)
    · exact lv_icmp_le hx hb hd tg (fun z => by simpa [mj_cmp, z] using w) (fun z => by simpa [mj_cmp, z] using w)
  case tableswitch d lo hi offs =>
    have e1 : raw = _ := of_decide_eq_true (by simpa only [mj_ok] using hok); subst e1
    simp only [mj_tgok, Bool.and_eq_true] at ht
    obtain ⟨t1, t2⟩ := ht
    unfold mj_nx at hn
    dsimp only at hn
    split at hn
    case h_2 => cases hn
    split at hn
    case isTrue z =>
      cases hn
      exact mj_lift (fun H locs ls cells slots _ w => lv_tableOut hx hb hd z (mj_tgI (of_decide_eq_true t1)) w) k
    case isFalse z =>
      split at hn
      case h_2 => cases hn
      rename_i off ho
      cases hn
      have hm : off ∈ offs.toList := by
        have := Array.mem_of_getElem? ho
        simpa using this
      exact mj_lift (fun H locs ls cells slots _ w => lv_tableIn hx hb hd (fun q => z (Or.inl q)) (fun q => z (Or.inr q)) ho (mj_tgI (of_decide_eq_true (List.all_eq_true.mp t2 off hm))) w) k
  all_goals first | (exact hi.elim) | (simp [mj_nx] at hn)
end MJS
end
section
/-! a step of the small machine is a step of the Jvm: fields, arrays, new cells -/
theorem mj_cls : ∀ {ci : Nat} {q : vw_C}, mj_nth vwCl ci = some q → (∀ w ∈ u_ws q.1 q.2.1 q.2.2, w ∈ lw_tbl) ∧ (∀ k, k < q.2.2 → parseFieldDescriptor (q.2.1 k).2.2.1 = some (mj_tyc ci k)) ∧ (∀ a, a < q.2.2 → ∀ b, b < q.2.2 → a ≠ b → (q.2.1 a).2.1 ≠ (q.2.1 b).2.1) ∧ ci < 11 ∧ mj_sz ci = q.2.2 := by
  intro ci q h
  match ci, h with
  | 0, h => cases h; exact ⟨inX0, tyX0_ok, nmX0, by omega, rfl⟩
  | 1, h => cases h; exact ⟨inX1, tyX1_ok, nmX1, by omega, rfl⟩
  | 2, h => cases h; exact ⟨inX2, tyX2_ok, nmX2, by omega, rfl⟩
  | 3, h => cases h; exact ⟨inX3, tyX3_ok, nmX3, by omega, rfl⟩
  | 4, h => cases h; exact ⟨inX4, tyX4_ok, nmX4, by omega, rfl⟩
  | 5, h => cases h; exact ⟨inX5, tyX5_ok, nmX5, by omega, rfl⟩
  | 6, h => cases h; exact ⟨inX6, tyX6_ok, nmX6, by omega, rfl⟩
  | 7, h => cases h; exact ⟨inX7, tyX7_ok, nmX7, by omega, rfl⟩
  | 8, h => cases h; exact ⟨inX8, tyX8_ok, nmX8, by omega, rfl⟩
  | 9, h => cases h; exact ⟨inX9, tyX9_ok, nmX9, by omega, rfl⟩
  | 10, h => cases h; exact ⟨inX10, tyX10_ok, nmX10, by omega, rfl⟩
  | n + 11, h => simp [vwCl, mj_nth] at h
theorem mj_nf {D : mj_D} {ty : FieldType} {v : Value} (h1 : narrow ty v = v) (h2 : fits ty v = true) : narrow ty (mj_cv D v) = mj_cv D v ∧ fits ty (mj_cv D v) = true := by
  cases v <;> first | exact ⟨h1, h2⟩ | (cases ty <;> simp_all [mj_cv, narrow, fits])
theorem mj_cv_def (D : mj_D) (ty : FieldType) : mj_cv D (defaultValue ty) = defaultValue ty := by cases ty <;> rfl
theorem mj_V {D : mj_D} {fs : List Value} {j : Nat} {v : Value} (hv : mj_nth fs j = some v) : vp_V (fs.map (mj_cv D)) j = mj_cv D v := by
  rw [mj_nth_eq] at hv
  simp [vp_V, hv]
section MJH
variable {D : mj_D} {M : mj_M} {p : Program} {l : Launch} {e : Env} {R : Room} {s : State} {m : MethodId} {args : Array Value} {below : List Frame} {meth : Method} {c : Code} {Q : State → Prop} {n0 s0 Lx Sx : Nat}
variable {pc : Nat} {lv : mj_L} {st r : List Value} {h : mj_H}
theorem mj_lays (hS : mj_St D s) {ci : Nat} {q : vw_C} (hq : mj_nth vwCl ci = some q) : ∀ w ∈ u_ws q.1 q.2.1 q.2.2, w.before args s = true := fun w hw => by
  have hm := (mj_cls hq).1 w hw
  obtain ⟨k, -, rfl⟩ := List.mem_map.mp hw
  refine hS.use hm ?_ ?_ <;> (unfold u_lay; split <;> rfl)
theorem mj_gbI {ci : Nat} {fs : List Value} (h : ci < 11) : mj_gb (.inr (ci, fs)) = false := by
  unfold mj_gb
  split
  · rename_i h2; cases h2; omega
  · rfl
/-- a put: the cell's new fields -/
theorem mj_put_at {H H1 : Heap} {ci j a : Nat} {fs : List Value} {v : Value} {q : vw_C} {cell : Cell} (hS : mj_St D s) (hq : mj_nth vwCl ci = some q) (hj : j < q.2.2) (hl : j < fs.length) (q2 : cell.cls = (mj_G D).1 ci) (q3 : cell.vm = .none) (q4 : ∀ k, k < q.2.2 → cell.slots[(mj_G D).2 ci k]? = some (vp_V (fs.map (mj_cv D)) k))
    (e1 : H1[a]? = some (cell.setSlot ((mj_G D).2 ci j) (mj_cv D v))) : va_at (mj_G D) vwCl (a, mj_ca D (.inr (ci, fs.set j v))) H1 := by
  obtain ⟨c1, c2, c3, c4, -⟩ := mj_cls hq
  have hq' : vwCl[ci]? = some q := by rw [← mj_nth_eq]; exact hq
  have hK : va_K (mj_G D) vwCl [] s := ⟨hS.2.1, fun k x hx => by simp at hx⟩
  have hap := va_apart (args := #[]) (own := "") (Ts := u_ws q.1 q.2.1 q.2.2) (mj_lays hS hq) (fun _ h => h) (mj_tyc ci) c2 c3 hK hq'
  refine ⟨q, hq', t_OB.to (V := updV (vp_V (fs.map (mj_cv D))) j (mj_cv D v)) ⟨_, e1, q2, q3, t_set q4 hap hj _⟩ (fun k _ => ?_)⟩
  rw [List.map_set]
  exact vp_updV_set (by simpa using hl) _ k
theorem mj_S_put {H H1 : Heap} {locs : List Loc} {a k : Nat} (hS : va_S (fun q => mj_b D ≤ q) s.heap H locs) (z : H1.size = H.size) (oq : ∀ q : Nat, q ≠ mj_b D + a → H1[q]? = H[q]?) : va_S (fun q => mj_b D ≤ q) s.heap H1 (locs ++ [⟨mj_b D + a, k⟩]) := hS.put z oq (Nat.le_add_right _ _)
theorem mj_S_push {H H1 : Heap} {locs : List Loc} (hS : va_S (fun q => mj_b D ≤ q) s.heap H locs) (z : H.size ≤ H1.size) (oq : ∀ q : Nat, q < H.size → H1[q]? = H[q]?) : va_S (fun q => mj_b D ≤ q) s.heap H1 locs :=
  ⟨Nat.le_trans hS.1 z, fun q h1 h2 => (oq q (Nat.lt_of_lt_of_le h1 hS.1)).trans (hS.2.1 q h1 h2), hS.2.2⟩
theorem mj_w_get (C : mj_Cx D M p R s m meth c n0 s0 Lx Sx) {i ci j wp a : Nat} {q : vw_C} {fs : List Value} {v : Value} (hd : decode (mj_bt M) pc = .ok (.getfield i, 3)) (hq : mj_nth vwCl ci = some q) (hj : j < q.2.2) (hF : mj_isF (mj_nth lw_tbl wp) (mj_nm M).cls i (q.2.1 j) = true)
    (hc : mj_nth h.1 a = some (.inr (ci, fs))) (hv : mj_nth fs j = some v) (k : mj_P D M p l e R s m args below meth c Q n0 s0 Lx Sx (pc + 3) lv (v :: r) h) : mj_P D M p l e R s m args below meth c Q n0 s0 Lx Sx pc lv (.ref a :: r) h := by
  obtain ⟨hx, hb, hml, hown, hnm, hSt, hRc, hRs, hLx, -⟩ := id C
  refine ⟨k.1, k.2.1, fun H locs ls a1 a2 a3 a4 a5 => ?_⟩
  have ha : mj_ad D a = mj_b D + a := mj_ad_l (Nat.lt_of_lt_of_le (mj_nth_lt hc) (Nat.le_trans k.1 hLx))
  obtain ⟨c1, c2, c3, c4, -⟩ := mj_cls hq
  have hq' : vwCl[ci]? = some q := by rw [← mj_nth_eq]; exact hq
  obtain ⟨r', h1, cell, q1, q2, q3, q4⟩ := a1.2.2 a _ hc (mj_gbI c4)
  have hr : r' = q := Option.some.inj (h1.symm.trans hq')
  subst hr
  obtain ⟨hS, hfc, kC, hkC, hkind⟩ := hSt.2.1 ci _ hq'
  obtain ⟨cf, kf, fi, f, hi, hsl⟩ := hS j hj
  have hst := (u_facts (args := #[]) hfc hkC (u_lays (mj_lays hSt hq) (fun _ h => h) hj) hi).1
  have hslot : cell.slots[f.slot]? = some (mj_cv D v) := by rw [hsl, q4 j hj, mj_V hv]
  have w := k.2.2 H locs ls a1 a2 a3 a4 a5
  show W p l e R s m args below meth c H locs _ _ Q (F0 m pc ls (.ref (mj_ad D a) :: r.map (mj_cv D)))
  rw [ha]
  cases hw : mj_nth lw_tbl wp with
  | none => rw [hw] at hF; cases hF
  | some w0 =>
    rw [hw] at hF
    cases w0 <;> simp only [mj_isF, Bool.false_eq_true] at hF
    · obtain ⟨e1, e2, e3, e4, e5⟩ := of_decide_eq_true hF
      subst e1; subst e2; subst e3; subst e4; subst e5
      exact W.getf hx hb hown (hSt.use (mj_nth_mem hw) rfl rfl) hi hst q1 (by rw [q3]; exact fun h => by cases h) hslot rfl rfl hd w
    · obtain ⟨e1, e2, e3, e4, e5⟩ := of_decide_eq_true hF
      subst e1; subst e2; subst e3; subst e4; subst e5
      exact va_Wgetf hx hb hown (hSt.use (mj_nth_mem hw) rfl rfl) hi hst q1 (by rw [q3]; exact fun h => by cases h) hslot rfl rfl hd w
theorem mj_w_put (C : mj_Cx D M p R s m meth c n0 s0 Lx Sx) {i ci j wp a : Nat} {q : vw_C} {fs : List Value} {v : Value} (hd : decode (mj_bt M) pc = .ok (.putfield i, 3)) (hq : mj_nth vwCl ci = some q) (hj : j < q.2.2) (hF : mj_isF (mj_nth lw_tbl wp) (mj_nm M).cls i (q.2.1 j) = true)
    (hfin : (!(q.2.1 j).2.2.2 || (decide ((mj_nm M).name = "<init>") && (mj_isFp (mj_nth lw_tbl wp) && decide ((q.2.1 j).1 = (mj_nm M).cls)))) = true)
    (hc : mj_nth h.1 a = some (.inr (ci, fs))) (hl : j < fs.length) (hn1 : narrow (mj_tyc ci j) v = v) (hn2 : fits (mj_tyc ci j) v = true) (k : mj_P D M p l e R s m args below meth c Q n0 s0 Lx Sx (pc + 3) lv r (h.1.set a (.inr (ci, fs.set j v)), h.2)) : mj_P D M p l e R s m args below meth c Q n0 s0 Lx Sx pc lv (v :: .ref a :: r) h := by
  obtain ⟨hx, hb, hml, hown, hnm, hSt, hRc, hRs, hLx, -⟩ := id C
  have hk1 : h.1.length ≤ Lx := by have := k.1; simpa using this
  refine ⟨hk1, k.2.1, fun H locs ls a1 a2 a3 a4 a5 => ?_⟩
  have ha : mj_ad D a = mj_b D + a := mj_ad_l (Nat.lt_of_lt_of_le (mj_nth_lt hc) (Nat.le_trans hk1 hLx))
  obtain ⟨c1, c2, c3, c4, -⟩ := mj_cls hq
  have hq' : vwCl[ci]? = some q := by rw [← mj_nth_eq]; exact hq
  obtain ⟨r', h1, cell, q1, q2, q3, q4⟩ := a1.2.2 a _ hc (mj_gbI c4)
  have hr : r' = q := Option.some.inj (h1.symm.trans hq')
  subst hr
  obtain ⟨hS, hfc, kC, hkC, hkind⟩ := hSt.2.1 ci _ hq'
  obtain ⟨cf, kf, fi, f, hi, hsl⟩ := hS j hj
  have hst := (u_facts (args := #[]) hfc hkC (u_lays (mj_lays hSt hq) (fun _ h => h) hj) hi).1
  obtain ⟨g1, g2⟩ := mj_nf (D := D) hn1 hn2
  have hlt : f.slot < cell.slots.size := by rw [hsl]; exact k2_hasslot (q4 j hj)
  have go : ∀ H1 : Heap, H1[mj_b D + a]? = some (cell.setSlot f.slot (mj_cv D v)) → H1.size = H.size → (∀ q, q ≠ mj_b D + a → H1[q]? = H[q]?) → W p l e R s m args below meth c H1 (locs ++ [⟨mj_b D + a, f.slot⟩]) (h.1.length - n0) (h.2 - s0) Q (F0 m (pc + 3) ls (r.map (mj_cv D))) := by
    intro H1 e1 e2 e3
    rw [hsl] at e1
    have w := k.2.2 H1 (locs ++ [⟨mj_b D + a, f.slot⟩]) ls (mj_hp.set a1 hc e2 e3 (mj_put_at (H := H) hSt hq hj hl q2 q3 q4 e1)) (mj_S_put a2 e2 e3) a3 (by simpa using a4) a5
    rw [List.length_set] at w
    exact w
  show W p l e R s m args below meth c H locs _ _ Q (F0 m pc ls (mj_cv D v :: .ref (mj_ad D a) :: r.map (mj_cv D)))
  rw [ha]
  have hlay : (u_lay r'.1 r'.2.1 j).before #[] s = true := mj_lays (args := #[]) hSt hq _ (u_in_lay hj)
  cases hfl : (r'.2.1 j).2.2.2 with
  | false =>
    unfold u_lay at hlay
    rw [if_neg (by rw [hfl]; decide)] at hlay
    have h6 := u_store hfc hkC hkind hlay hi (c2 j hj) g1 g2
    cases hw : mj_nth lw_tbl wp with
    | none => rw [hw] at hF; cases hF
    | some w0 =>
      rw [hw] at hF
      cases w0 <;> simp only [mj_isF, Bool.false_eq_true] at hF
      · obtain ⟨e1, e2, e3, e4, e5⟩ := of_decide_eq_true hF
        subst e1; subst e2; subst e3; subst e4; subst e5
        exact W.putK hx hb (f := f) ⟨hown, hSt.use (mj_nth_mem hw) rfl rfl, ⟨_, _, _, hi⟩, hst⟩ (by rw [q2]; exact h6) q1 q3 hlt rfl rfl hd go
      · obtain ⟨e1, e2, e3, e4, e5⟩ := of_decide_eq_true hF
        subst e1; subst e2; subst e3; subst e4; subst e5
        exact va_WputK hx hb (f := f) hown (hSt.use (mj_nth_mem hw) rfl rfl) hi hst (by rw [q2]; exact h6) q1 q3 hlt rfl rfl hd go
  | true =>
    rw [hfl] at hfin
    simp only [Bool.not_true, Bool.false_or, Bool.and_eq_true, decide_eq_true_eq] at hfin
    obtain ⟨z1, z2, z3⟩ := hfin
    unfold u_lay at hlay
    rw [if_pos hfl] at hlay
    have hcf : m.cls = cf := by
      obtain ⟨_, _, c', _, _, _, -, -, hf', -, -, -, hown2, -⟩ := Cond.laysFinal_spec hlay
      have e1 : c' = cf := by have := hi.symm.trans hf'; simp at this; exact this.1.symm
      rw [z3] at hown2
      rw [← e1]; exact Option.some.inj (hown.symm.trans hown2)
    have h6 := u_fits hfc hkC hkind (Or.inr hlay) hi (c2 j hj) g1 g2
    cases hw : mj_nth lw_tbl wp with
    | none => rw [hw] at hF; cases hF
    | some w0 =>
      rw [hw] at hF z2
      cases w0 <;> simp only [mj_isFp, Bool.false_eq_true] at z2
      simp only [mj_isF] at hF
      obtain ⟨e1, e2, e3, e4, e5⟩ := of_decide_eq_true hF
      subst e1; subst e2; subst e3; subst e4; subst e5
      exact W.putFinK hx hb hown (hSt.use (mj_nth_mem hw) rfl rfl) hi hst hcf (hnm.trans z1) (by rw [q2]; exact h6) q1 q3 hlt rfl rfl hd go
end MJH
end
section
/-! arrays and new cells -/
theorem mj_inI {i : Int32} {n : Nat} (h : ¬ (i < 0 ∨ n ≤ i.toNatClampNeg)) : i.toNatClampNeg < n := Nat.not_le.mp fun q => h (Or.inr q)
section MJA
variable {D : mj_D} {M : mj_M} {p : Program} {l : Launch} {e : Env} {R : Room} {s : State} {m : MethodId} {args : Array Value} {below : List Frame} {meth : Method} {c : Code} {Q : State → Prop} {n0 s0 Lx Sx : Nat}
variable {pc : Nat} {lv : mj_L} {st r : List Value} {h : mj_H} {a n : Nat} {i : Int32}
theorem mj_w_iald (C : mj_Cx D M p R s m meth c n0 s0 Lx Sx) {f : Nat → Int32} (hd : decode (mj_bt M) pc = .ok (.iaload, 1)) (hc : mj_nth h.1 a = some (.inl (0, n, .inl f))) (hin : ¬ (i < 0 ∨ n ≤ i.toNatClampNeg)) (k : mj_P D M p l e R s m args below meth c Q n0 s0 Lx Sx (pc + 1) lv (.int (f i.toNatClampNeg) :: r) h) : mj_P D M p l e R s m args below meth c Q n0 s0 Lx Sx pc lv (.int i :: .ref a :: r) h := by
  obtain ⟨hx, hb, hml, hown, hnm, hSt, hRc, hRs, hLx, -⟩ := id C
  refine ⟨k.1, k.2.1, fun H locs ls a1 a2 a3 a4 a5 => ?_⟩
  have ha : mj_ad D a = mj_b D + a := mj_ad_l (Nat.lt_of_lt_of_le (mj_nth_lt hc) (Nat.le_trans k.1 hLx))
  have w := k.2.2 H locs ls a1 a2 a3 a4 a5
  show W p l e R s m args below meth c H locs _ _ Q (F0 m pc ls (.int i :: .ref (mj_ad D a) :: r.map (mj_cv D)))
  rw [ha]
  exact W.iald (v := .int (f i.toNatClampNeg)) hx hb (a1.2.2 a _ hc rfl) ((hSt.2.2.1 0 .int rfl).1 n (fun j => .int (f j))) (fun q => by cases q) (by show ¬ (i < 0 ∨ (arrV _ _ _).slots.size ≤ _); rw [arrV_size]; exact hin) (by show (arrV _ _ _).slots[_]? = _; rw [arrV_read _ _ (mj_inI hin)]) rfl rfl hd w
theorem mj_w_bald (C : mj_Cx D M p R s m meth c n0 s0 Lx Sx) {f : Nat → Int32} (hd : decode (mj_bt M) pc = .ok (.baload, 1)) (hc : mj_nth h.1 a = some (.inl (2, n, .inl f))) (hin : ¬ (i < 0 ∨ n ≤ i.toNatClampNeg)) (k : mj_P D M p l e R s m args below meth c Q n0 s0 Lx Sx (pc + 1) lv (.int (f i.toNatClampNeg) :: r) h) : mj_P D M p l e R s m args below meth c Q n0 s0 Lx Sx pc lv (.int i :: .ref a :: r) h := by
  obtain ⟨hx, hb, hml, hown, hnm, hSt, hRc, hRs, hLx, -⟩ := id C
  refine ⟨k.1, k.2.1, fun H locs ls a1 a2 a3 a4 a5 => ?_⟩
  have ha : mj_ad D a = mj_b D + a := mj_ad_l (Nat.lt_of_lt_of_le (mj_nth_lt hc) (Nat.le_trans k.1 hLx))
  have w := k.2.2 H locs ls a1 a2 a3 a4 a5
  show W p l e R s m args below meth c H locs _ _ Q (F0 m pc ls (.int i :: .ref (mj_ad D a) :: r.map (mj_cv D)))
  rw [ha]
  exact W.bald (v := .int (f i.toNatClampNeg)) hx hb (a1.2.2 a _ hc rfl) ((hSt.2.2.1 2 .byte rfl).1 n (fun j => .int (f j))) (fun q => by cases q) (by show ¬ (i < 0 ∨ (arrV _ _ _).slots.size ≤ _); rw [arrV_size]; exact hin) (by show (arrV _ _ _).slots[_]? = _; rw [arrV_read _ _ (mj_inI hin)]) rfl rfl hd w
theorem mj_w_lald (C : mj_Cx D M p R s m meth c n0 s0 Lx Sx) {f : Nat → Int64} (hd : decode (mj_bt M) pc = .ok (.laload, 1)) (hc : mj_nth h.1 a = some (.inl (1, n, .inr (.inl f)))) (hin : ¬ (i < 0 ∨ n ≤ i.toNatClampNeg)) (k : mj_P D M p l e R s m args below meth c Q n0 s0 Lx Sx (pc + 1) lv (.long (f i.toNatClampNeg) :: r) h) : mj_P D M p l e R s m args below meth c Q n0 s0 Lx Sx pc lv (.int i :: .ref a :: r) h := by
  obtain ⟨hx, hb, hml, hown, hnm, hSt, hRc, hRs, hLx, -⟩ := id C
  refine ⟨k.1, k.2.1, fun H locs ls a1 a2 a3 a4 a5 => ?_⟩
  have ha : mj_ad D a = mj_b D + a := mj_ad_l (Nat.lt_of_lt_of_le (mj_nth_lt hc) (Nat.le_trans k.1 hLx))
  have w := k.2.2 H locs ls a1 a2 a3 a4 a5
  show W p l e R s m args below meth c H locs _ _ Q (F0 m pc ls (.int i :: .ref (mj_ad D a) :: r.map (mj_cv D)))
  rw [ha]
  exact W.lald (v := .long (f i.toNatClampNeg)) hx hb (a1.2.2 a _ hc rfl) ((hSt.2.2.1 1 .long rfl).1 n (fun j => .long (f j))) (fun q => by cases q) (by show ¬ (i < 0 ∨ (arrV _ _ _).slots.size ≤ _); rw [arrV_size]; exact hin) (by show (arrV _ _ _).slots[_]? = _; rw [arrV_read _ _ (mj_inI hin)]) rfl rfl hd w
theorem mj_rf_cv (D : mj_D) (o : Option Nat) : va_rf (o.map (mj_ad D)) = mj_cv D (va_rf o) := by cases o <;> rfl
theorem mj_w_aald (C : mj_Cx D M p R s m meth c n0 s0 Lx Sx) {f : Nat → Option Nat} {t : Nat} {ty : FieldType} (hty : mj_tys[t]? = some ty) (href : ty.isReference = true) (hd : decode (mj_bt M) pc = .ok (.aaload, 1)) (hc : mj_nth h.1 a = some (.inl (t, n, .inr (.inr (.inr (.inr f)))))) (hin : ¬ (i < 0 ∨ n ≤ i.toNatClampNeg)) (k : mj_P D M p l e R s m args below meth c Q n0 s0 Lx Sx (pc + 1) lv (va_rf (f i.toNatClampNeg) :: r) h) : mj_P D M p l e R s m args below meth c Q n0 s0 Lx Sx pc lv (.int i :: .ref a :: r) h := by
  obtain ⟨hx, hb, hml, hown, hnm, hSt, hRc, hRs, hLx, -⟩ := id C
  refine ⟨k.1, k.2.1, fun H locs ls a1 a2 a3 a4 a5 => ?_⟩
  have ha : mj_ad D a = mj_b D + a := mj_ad_l (Nat.lt_of_lt_of_le (mj_nth_lt hc) (Nat.le_trans k.1 hLx))
  have w := k.2.2 H locs ls a1 a2 a3 a4 a5
  show W p l e R s m args below meth c H locs _ _ Q (F0 m pc ls (.int i :: .ref (mj_ad D a) :: r.map (mj_cv D)))
  rw [ha]
  refine W.aald (v := mj_cv D (va_rf (f i.toNatClampNeg))) (ty := ty) hx hb (a1.2.2 a _ hc rfl) ((hSt.2.2.1 t ty hty).1 n (fun j => va_rf ((f j).map (mj_ad D)))) href (fun q => by cases q) (by show ¬ (i < 0 ∨ (arrV _ _ _).slots.size ≤ _); rw [arrV_size]; exact hin) ?_ rfl rfl hd w
  show (arrV _ _ _).slots[_]? = _
  rw [arrV_read _ _ (mj_inI hin), mj_rf_cv]
theorem mj_w_iast (C : mj_Cx D M p R s m meth c n0 s0 Lx Sx) {f : Nat → Int32} {x : Int32} (hd : decode (mj_bt M) pc = .ok (.iastore, 1)) (hc : mj_nth h.1 a = some (.inl (0, n, .inl f))) (hin : ¬ (i < 0 ∨ n ≤ i.toNatClampNeg)) (k : mj_P D M p l e R s m args below meth c Q n0 s0 Lx Sx (pc + 1) lv r (h.1.set a (.inl (0, n, .inl (upd f i.toNatClampNeg x))), h.2)) : mj_P D M p l e R s m args below meth c Q n0 s0 Lx Sx pc lv (.int x :: .int i :: .ref a :: r) h := by
  obtain ⟨hx, hb, hml, hown, hnm, hSt, hRc, hRs, hLx, -⟩ := id C
  have hk1 : h.1.length ≤ Lx := by have := k.1; simpa using this
  refine ⟨hk1, k.2.1, fun H locs ls a1 a2 a3 a4 a5 => ?_⟩
  have ha : mj_ad D a = mj_b D + a := mj_ad_l (Nat.lt_of_lt_of_le (mj_nth_lt hc) (Nat.le_trans hk1 hLx))
  show W p l e R s m args below meth c H locs _ _ Q (F0 m pc ls (.int x :: .int i :: .ref (mj_ad D a) :: r.map (mj_cv D)))
  rw [ha]
  refine W.iast hx hb (a1.2.2 a _ hc rfl) ((hSt.2.2.1 0 .int rfl).1 n (fun j => .int (f j))) (fun q => by cases q) (by show ¬ (i < 0 ∨ (arrV _ _ _).slots.size ≤ _); rw [arrV_size]; exact hin) rfl rfl hd fun H1 e1 z oq => ?_
  have w := k.2.2 H1 (locs ++ [⟨mj_b D + a, i.toNatClampNeg⟩]) ls (mj_hp.set a1 hc z oq ?_) (mj_S_put a2 z oq) a3 (by simpa using a4) a5
  · rw [List.length_set] at w
    exact w
  show H1[mj_b D + a]? = some (vp_cell _ (n, .inl (upd f i.toNatClampNeg x)))
  rw [e1]
  show some ((vp_cell (mj_dA D 0) (n, .inl f)).setSlot _ _) = _
  rw [vp_cell_i, vp_cell_i, arrV_store]
  congr 2
  funext q
  by_cases hq : q = i.toNatClampNeg
  · subst hq
    simp [updV, upd]
  · simp [updV, upd, hq]
theorem mj_w_bast (C : mj_Cx D M p R s m meth c n0 s0 Lx Sx) {f : Nat → Int32} {x : Int32} (hd : decode (mj_bt M) pc = .ok (.bastore, 1)) (hc : mj_nth h.1 a = some (.inl (2, n, .inl f))) (hin : ¬ (i < 0 ∨ n ≤ i.toNatClampNeg)) (k : mj_P D M p l e R s m args below meth c Q n0 s0 Lx Sx (pc + 1) lv r (h.1.set a (.inl (2, n, .inl (upd f i.toNatClampNeg (vp_nar .byte x)))), h.2)) : mj_P D M p l e R s m args below meth c Q n0 s0 Lx Sx pc lv (.int x :: .int i :: .ref a :: r) h := by
  obtain ⟨hx, hb, hml, hown, hnm, hSt, hRc, hRs, hLx, -⟩ := id C
  have hk1 : h.1.length ≤ Lx := by have := k.1; simpa using this
  refine ⟨hk1, k.2.1, fun H locs ls a1 a2 a3 a4 a5 => ?_⟩
  have ha : mj_ad D a = mj_b D + a := mj_ad_l (Nat.lt_of_lt_of_le (mj_nth_lt hc) (Nat.le_trans hk1 hLx))
  show W p l e R s m args below meth c H locs _ _ Q (F0 m pc ls (.int x :: .int i :: .ref (mj_ad D a) :: r.map (mj_cv D)))
  rw [ha]
  refine W.bast hx hb (a1.2.2 a _ hc rfl) ((hSt.2.2.1 2 .byte rfl).1 n (fun j => .int (f j))) (fun q => by cases q) (by show ¬ (i < 0 ∨ (arrV _ _ _).slots.size ≤ _); rw [arrV_size]; exact hin) rfl rfl hd fun H1 e1 z oq => ?_
  have w := k.2.2 H1 (locs ++ [⟨mj_b D + a, i.toNatClampNeg⟩]) ls (mj_hp.set a1 hc z oq ?_) (mj_S_put a2 z oq) a3 (by simpa using a4) a5
  · rw [List.length_set] at w
    exact w
  show H1[mj_b D + a]? = some (vp_cell _ (n, .inl (upd f i.toNatClampNeg (vp_nar .byte x))))
  rw [e1]
  show some ((vp_cell (mj_dA D 2) (n, .inl f)).setSlot _ _) = _
  rw [vp_cell_i, vp_cell_i, arrV_store]
  congr 2
  funext q
  by_cases hq : q = i.toNatClampNeg
  · subst hq
    simp [updV, upd, vp_nar]
    try rfl
  · simp [updV, upd, hq]
theorem mj_w_last (C : mj_Cx D M p R s m meth c n0 s0 Lx Sx) {f : Nat → Int64} {x : Int64} (hd : decode (mj_bt M) pc = .ok (.lastore, 1)) (hc : mj_nth h.1 a = some (.inl (1, n, .inr (.inl f)))) (hin : ¬ (i < 0 ∨ n ≤ i.toNatClampNeg)) (k : mj_P D M p l e R s m args below meth c Q n0 s0 Lx Sx (pc + 1) lv r (h.1.set a (.inl (1, n, .inr (.inl (vp_updL f i.toNatClampNeg x)))), h.2)) : mj_P D M p l e R s m args below meth c Q n0 s0 Lx Sx pc lv (.long x :: .int i :: .ref a :: r) h := by
  obtain ⟨hx, hb, hml, hown, hnm, hSt, hRc, hRs, hLx, -⟩ := id C
  have hk1 : h.1.length ≤ Lx := by have := k.1; simpa using this
  refine ⟨hk1, k.2.1, fun H locs ls a1 a2 a3 a4 a5 => ?_⟩
  have ha : mj_ad D a = mj_b D + a := mj_ad_l (Nat.lt_of_lt_of_le (mj_nth_lt hc) (Nat.le_trans hk1 hLx))
  show W p l e R s m args below meth c H locs _ _ Q (F0 m pc ls (.long x :: .int i :: .ref (mj_ad D a) :: r.map (mj_cv D)))
  rw [ha]
  refine W.last hx hb (a1.2.2 a _ hc rfl) ((hSt.2.2.1 1 .long rfl).1 n (fun j => .long (f j))) (fun q => by cases q) (by show ¬ (i < 0 ∨ (arrV _ _ _).slots.size ≤ _); rw [arrV_size]; exact hin) rfl rfl hd fun H1 e1 z oq => ?_
  have w := k.2.2 H1 (locs ++ [⟨mj_b D + a, i.toNatClampNeg⟩]) ls (mj_hp.set a1 hc z oq ?_) (mj_S_put a2 z oq) a3 (by simpa using a4) a5
  · rw [List.length_set] at w
    exact w
  show H1[mj_b D + a]? = some (vp_cell _ (n, .inr (.inl (vp_updL f i.toNatClampNeg x))))
  rw [e1]
  show some ((vp_cell (mj_dA D 1) (n, .inr (.inl f))).setSlot _ _) = _
  rw [vp_cell_l, vp_cell_l, arrV_store]
  congr 2
  funext q
  by_cases hq : q = i.toNatClampNeg
  · subst hq
    simp [updV, vp_updL]
  · simp [updV, vp_updL, hq]
theorem mj_w_aast (C : mj_Cx D M p R s m meth c n0 s0 Lx Sx) {f : Nat → Option Nat} {v : Nat} {vs : List Value} (hd : decode (mj_bt M) pc = .ok (.aastore, 1)) (hc : mj_nth h.1 a = some (.inl (3, n, .inr (.inr (.inr (.inr f)))))) (hv : mj_nth h.1 v = some (.inr (5, vs))) (hin : ¬ (i < 0 ∨ n ≤ i.toNatClampNeg)) (k : mj_P D M p l e R s m args below meth c Q n0 s0 Lx Sx (pc + 1) lv r (h.1.set a (.inl (3, n, .inr (.inr (.inr (.inr (va_up f i.toNatClampNeg (some v))))))), h.2)) : mj_P D M p l e R s m args below meth c Q n0 s0 Lx Sx pc lv (.ref v :: .int i :: .ref a :: r) h := by
  obtain ⟨hx, hb, hml, hown, hnm, hSt, hRc, hRs, hLx, -⟩ := id C
  have hk1 : h.1.length ≤ Lx := by have := k.1; simpa using this
  refine ⟨hk1, k.2.1, fun H locs ls a1 a2 a3 a4 a5 => ?_⟩
  have ha : mj_ad D a = mj_b D + a := mj_ad_l (Nat.lt_of_lt_of_le (mj_nth_lt hc) (Nat.le_trans hk1 hLx))
  have hva : mj_ad D v = mj_b D + v := mj_ad_l (Nat.lt_of_lt_of_le (mj_nth_lt hv) (Nat.le_trans hk1 hLx))
  show W p l e R s m args below meth c H locs _ _ Q (F0 m pc ls (.ref (mj_ad D v) :: .int i :: .ref (mj_ad D a) :: r.map (mj_cv D)))
  rw [ha]
  have h0 : ¬ i < 0 := fun q => hin (Or.inl q)
  obtain ⟨r', hr', cellV, g1, g2, g3, -⟩ := a1.2.2 v _ hv rfl
  have hcls := (hSt.2.1 5 (RX5, TX5, 8) rfl).2
  obtain ⟨kA, comp, k1, k2, k3, -⟩ := (hSt.2.2.1 3 (.object "LowNumber$Now") rfl).2
  have hcomp : comp = (mj_G D).1 5 := Option.some.inj (k3.symm.trans hcls.1)
  subst hcomp
  obtain ⟨kC, hkC, -⟩ := hcls.2
  rw [hva]
  refine W.aast hx hb (a1.2.2 a _ hc rfl) (fun q h => by cases h) (fun h => by cases h) k1 k2 rfl hkC ⟨h0, by show _ < (arrV _ _ _).slots.size; rw [arrV_size]; exact mj_inI hin⟩ g1 (fun q h => by rw [g3] at h; cases h) (by rw [g2]; exact hkC) (by rw [g2]; exact va_assign hcls) rfl rfl hd fun H1 e1 z oq => ?_
  have w := k.2.2 H1 (locs ++ [⟨mj_b D + a, i.toNatClampNeg⟩]) ls (mj_hp.set a1 hc z oq ?_) (mj_S_put a2 z oq) a3 (by simpa using a4) a5
  · rw [List.length_set] at w
    exact w
  show H1[mj_b D + a]? = some (vp_cell _ (n, .inr (.inr (.inr (.inr (fun j => (va_up f i.toNatClampNeg (some v) j).map (mj_ad D)))))))
  rw [e1]
  show some ((vp_cell (mj_dA D 3) (n, .inr (.inr (.inr (.inr (fun j => (f j).map (mj_ad D))))))).setSlot _ _) = _
  rw [vp_cell_q, vp_cell_q, arrV_store]
  congr 2
  funext q
  by_cases hq : q = i.toNatClampNeg
  · subst hq
    simp [updV, va_up, va_rf, hva]
  · simp [updV, va_up, hq]
/-- static rows -/
theorem mj_w_sald (C : mj_Cx D M p R s m meth c n0 s0 Lx Sx) {f : Nat → Int32} (hd : decode (mj_bt M) pc = .ok (.iaload, 1)) (hc : mj_sta D a = some (n, f)) (hin : ¬ (i < 0 ∨ n ≤ i.toNatClampNeg)) (k : mj_P D M p l e R s m args below meth c Q n0 s0 Lx Sx (pc + 1) lv (.int (f i.toNatClampNeg) :: r) h) : mj_P D M p l e R s m args below meth c Q n0 s0 Lx Sx pc lv (.int i :: .ref a :: r) h := by
  obtain ⟨hx, hb, hml, hown, hnm, hSt, hRc, hRs, hLx, -⟩ := id C
  refine ⟨k.1, k.2.1, fun H locs ls a1 a2 a3 a4 a5 => ?_⟩
  obtain ⟨g1, ⟨scr, g2, g3, g4, g5, g6⟩, g7⟩ := hSt.2.2.2.1 a n f hc
  have ha : mj_ad D a = mj_sK D (a - mj_SB) := if_neg (Nat.not_lt.mpr g1)
  have w := k.2.2 H locs ls a1 a2 a3 a4 a5
  show W p l e R s m args below meth c H locs _ _ Q (F0 m pc ls (.int i :: .ref (mj_ad D a) :: r.map (mj_cv D)))
  rw [ha]
  exact W.iald (v := .int (f i.toNatClampNeg)) hx hb (by rw [a1.2.1 _ g7]; exact g2) g3 g4 (by rw [g5]; exact hin) (g6 _ (mj_inI hin)) rfl rfl hd w
theorem mj_w_slen (C : mj_Cx D M p R s m meth c n0 s0 Lx Sx) {f : Nat → Int32} (hd : decode (mj_bt M) pc = .ok (.arraylength, 1)) (hc : mj_sta D a = some (n, f)) (k : mj_P D M p l e R s m args below meth c Q n0 s0 Lx Sx (pc + 1) lv (.int (Int32.ofNat n) :: r) h) : mj_P D M p l e R s m args below meth c Q n0 s0 Lx Sx pc lv (.ref a :: r) h := by
  obtain ⟨hx, hb, hml, hown, hnm, hSt, hRc, hRs, hLx, -⟩ := id C
  refine ⟨k.1, k.2.1, fun H locs ls a1 a2 a3 a4 a5 => ?_⟩
  obtain ⟨g1, ⟨scr, g2, g3, g4, g5, g6⟩, g7⟩ := hSt.2.2.2.1 a n f hc
  have ha : mj_ad D a = mj_sK D (a - mj_SB) := if_neg (Nat.not_lt.mpr g1)
  have w := k.2.2 H locs ls a1 a2 a3 a4 a5
  show W p l e R s m args below meth c H locs _ _ Q (F0 m pc ls (.ref (mj_ad D a) :: r.map (mj_cv D)))
  rw [ha]
  exact W.alen (n := Int32.ofNat n) hx hb (by rw [a1.2.1 _ g7]; exact g2) g3 (by rw [g5] <;> rfl) rfl rfl hd w
theorem mj_w_alen (C : mj_Cx D M p R s m meth c n0 s0 Lx Sx) {f : Nat → Int32} (hd : decode (mj_bt M) pc = .ok (.arraylength, 1)) (hc : mj_nth h.1 a = some (.inl (0, n, .inl f))) (k : mj_P D M p l e R s m args below meth c Q n0 s0 Lx Sx (pc + 1) lv (.int (Int32.ofNat n) :: r) h) : mj_P D M p l e R s m args below meth c Q n0 s0 Lx Sx pc lv (.ref a :: r) h := by
  obtain ⟨hx, hb, hml, hown, hnm, hSt, hRc, hRs, hLx, -⟩ := id C
  refine ⟨k.1, k.2.1, fun H locs ls a1 a2 a3 a4 a5 => ?_⟩
  have ha : mj_ad D a = mj_b D + a := mj_ad_l (Nat.lt_of_lt_of_le (mj_nth_lt hc) (Nat.le_trans k.1 hLx))
  have w := k.2.2 H locs ls a1 a2 a3 a4 a5
  show W p l e R s m args below meth c H locs _ _ Q (F0 m pc ls (.ref (mj_ad D a) :: r.map (mj_cv D)))
  rw [ha]
  exact W.alen (n := Int32.ofNat n) hx hb (a1.2.2 a _ hc rfl) ((hSt.2.2.1 0 .int rfl).1 n (fun j => .int (f j))) (by show (vp_cell (mj_dA D 0) (n, .inl f)).slots.size.toInt32 = _; rw [vp_cell_i, arrV_size] <;> rfl) rfl rfl hd w
theorem mj_w_gets (C : mj_Cx D M p R s m meth c n0 s0 Lx Sx) {j wp : Nat} (hd : decode (mj_bt M) pc = .ok (.getstatic j, 3)) (hF : mj_isF (mj_nth lw_tbl wp) (mj_nm M).cls j ("LowNumber", "FACTORIALS", "[I", true) = true) (k : mj_P D M p l e R s m args below meth c Q n0 s0 Lx Sx (pc + 3) lv (.ref (mj_SB + 100) :: r) h) : mj_P D M p l e R s m args below meth c Q n0 s0 Lx Sx pc lv r h := by
  obtain ⟨hx, hb, hml, hown, hnm, hSt, hRc, hRs, hLx, hb1, hb2⟩ := id C
  refine ⟨k.1, k.2.1, fun H locs ls a1 a2 a3 a4 a5 => ?_⟩
  have w := k.2.2 H locs ls a1 a2 a3 a4 a5
  have ha : mj_ad D (mj_SB + 100) = mj_sK D 100 := mj_ad_s D 100
  have hZ : va_Z "LowNumber" "FACTORIALS" "[I" (.ref (mj_sK D 100)) (fun q => mj_b D ≤ q) s s.heap := hSt.2.2.2.2.2.2.2.1.kept (fun a h1 h2 => hb2 a (Nat.not_le.mp h2))
  rw [List.map_cons, show mj_cv D (.ref (mj_SB + 100)) = .ref (mj_ad D (mj_SB + 100)) from rfl, ha] at w
  cases hw : mj_nth lw_tbl wp with
  | none => rw [hw] at hF; cases hF
  | some w0 =>
    rw [hw] at hF
    cases w0 <;> simp only [mj_isF, Bool.false_eq_true] at hF
    · obtain ⟨e1, e2, e3, e4, e5⟩ := of_decide_eq_true hF
      subst e1; subst e2; subst e3; subst e4; subst e5
      exact va_gets hx hb hZ a2 hown (hSt.use (mj_nth_mem hw) rfl rfl) (fun _ h => h) hd w
    · obtain ⟨e1, e2, e3, e4, e5⟩ := of_decide_eq_true hF
      subst e1; subst e2; subst e3; subst e4; subst e5
      exact va_getsN hx hb hZ a2 hown (hSt.use (mj_nth_mem hw) rfl rfl) (fun _ h => h) hd w
end MJA
end
section
/-! new cells -/
theorem mj_nth_1 {α : Type} {a b : α} {j : Nat} (h : mj_nth [a] j = some b) : j = 0 ∧ b = a := by
  match j, h with
  | 0, h => exact ⟨rfl, (Option.some.inj h).symm⟩
  | n + 1, h => simp [mj_nth] at h
section MJN
variable {D : mj_D} {M : mj_M} {p : Program} {l : Launch} {e : Env} {R : Room} {s : State} {m : MethodId} {args : Array Value} {below : List Frame} {meth : Method} {c : Code} {Q : State → Prop} {n0 s0 Lx Sx : Nat}
variable {pc : Nat} {lv : mj_L} {st r : List Value} {h : mj_H} {a : Nat} {n : Int32}
theorem mj_St.useA (hS : mj_St D s) {ty : FieldType} (hw : Cond.arrayClass ty ∈ lw_tbl) : (Cond.arrayClass ty).before args s = true := word_at (State.WarmedH.refl s) (Or.inr ⟨ty, rfl⟩) (hS.1 _ hw rfl)
theorem mj_w_new (C : mj_Cx D M p R s m meth c n0 s0 Lx Sx) {ci j wp : Nat} {q : vw_C} (hd : decode (mj_bt M) pc = .ok (.new j, 3)) (hq : mj_nth vwCl ci = some q) (hw : mj_nth lw_tbl wp = some (.classLink (mj_nm M).cls j q.1)) (hi1 : Cond.instantiable q.1 q.2.2 ∈ lw_tbl) (hi2 : Cond.initialized q.1 ∈ lw_tbl)
    (k : mj_P D M p l e R s m args below meth c Q n0 s0 Lx Sx (pc + 3) lv (.ref h.1.length :: r) (h.1 ++ [.inr (ci, mj_new ci)], h.2 + mj_sz ci)) : mj_P D M p l e R s m args below meth c Q n0 s0 Lx Sx pc lv r h := by
  obtain ⟨hx, hb, hml, hown, hnm, hSt, hRc, hRs, hLx, -⟩ := id C
  obtain ⟨c1, c2, c3, c4, c5⟩ := mj_cls hq
  have hk1 : h.1.length + 1 ≤ Lx := by have := k.1; simpa using this
  have hk2 : h.2 + q.2.2 ≤ Sx := by have := k.2.1; rw [c5] at this; exact this
  refine ⟨by omega, by omega, fun H locs ls a1 a2 a3 a4 a5 => ?_⟩
  have hq' : vwCl[ci]? = some q := by rw [← mj_nth_eq]; exact hq
  have hKn := hSt.2.1 ci _ hq'
  have ha : mj_ad D h.1.length = mj_b D + h.1.length := mj_ad_l (by omega)
  refine W.newcK hx hb hown (hSt.use (mj_nth_mem hw) rfl rfl) (hSt.use hi1 rfl rfl) (hSt.use hi2 rfl rfl) rfl hd (by rw [hRc]; omega) (by rw [hRs]; omega) hKn.2.1 rfl fun H1 kC hkC e1 z1 o1 => ?_
  have w := k.2.2 H1 locs ls (mj_hp.push a1 (by simpa using z1) o1 ?_) (mj_S_push a2 (by omega) o1) a3 (by simp; omega) (by show s0 ≤ h.2 + mj_sz ci; omega)
  · have e2 : (h.1 ++ [Sum.inr (ci, mj_new ci)] : List va_E).length - n0 = h.1.length - n0 + 1 := by simp; omega
    have e3 : h.2 + mj_sz ci - s0 = h.2 - s0 + q.2.2 := by rw [c5]; omega
    dsimp only at w
    rw [e2, e3, List.map_cons, show mj_cv D (.ref h.1.length) = .ref (mj_ad D h.1.length) from rfl, ha, ← a1.1] at w
    exact w
  intro j' e' hj' hg
  obtain ⟨rfl, rfl⟩ := mj_nth_1 hj'
  refine ⟨q, hq', (u_born (args := #[]) (mj_tyc ci) (mj_lays hSt hq) (fun _ h => h) hKn hkC (by show H1[mj_b D + h.1.length]? = _; rw [← a1.1]; exact e1) c2).to (fun x hx => ?_)⟩
  have hv : mj_nth (mj_new ci) x = some (defaultValue (mj_tyc ci x)) := by
    rw [mj_nth_eq]
    simp [mj_new, c5, hx]
  rw [mj_V hv, mj_cv_def]
theorem mj_w_newa (C : mj_Cx D M p R s m meth c n0 s0 Lx Sx) {t : Nat} {aty : ArrayType} {x : (Nat → Int32) ⊕ (Nat → Int64) ⊕ (Nat → UInt32) ⊕ (Nat → UInt64) ⊕ (Nat → Option Nat)} (hd : decode (mj_bt M) pc = .ok (.newarray aty, 2)) (hty : mj_tys[t]? = some (newarray.typeOf aty)) (hA : Cond.arrayClass (newarray.typeOf aty) ∈ lw_tbl)
    (hnm0 : ∀ cA, va_RA s (mj_dA D t) (newarray.typeOf aty) → s.vm.findClass ("[" ++ (newarray.typeOf aty).toString) = some cA → cA = mj_dA D t) (hx0 : ∀ cA, vp_cell cA (n.toNatClampNeg, mj_cx D x) = arrV cA n.toNatClampNeg (fun _ => defaultValue (newarray.typeOf aty))) (hby : componentBytes (newarray.typeOf aty) ≤ 8) (hn : ¬ (n < 0 ∨ 65536 < n.toNatClampNeg))
    (k : mj_P D M p l e R s m args below meth c Q n0 s0 Lx Sx (pc + 2) lv (.ref h.1.length :: r) (h.1 ++ [.inl (t, n.toNatClampNeg, x)], h.2 + n.toNatClampNeg)) : mj_P D M p l e R s m args below meth c Q n0 s0 Lx Sx pc lv (.int n :: r) h := by
  obtain ⟨hx, hb, hml, hown, hnm, hSt, hRc, hRs, hLx, -⟩ := id C
  have hk1 : h.1.length + 1 ≤ Lx := by have := k.1; simpa using this
  have hk2 : h.2 + n.toNatClampNeg ≤ Sx := k.2.1
  refine ⟨by omega, by omega, fun H locs ls a1 a2 a3 a4 a5 => ?_⟩
  have ha : mj_ad D h.1.length = mj_b D + h.1.length := mj_ad_l (by omega)
  have h64 : n.toNatClampNeg ≤ 65536 := Nat.not_lt.mp fun q => hn (Or.inr q)
  refine va_newaK hx hb (hSt.useA hA) rfl hd rfl (fun q => hn (Or.inl q)) rfl (Nat.le_trans (Nat.mul_le_mul h64 hby) (by decide)) (by rw [hRc]; omega) (by rw [hRs]; omega) rfl fun H1 cA e1 z1 o1 hAr hNm => ?_
  have hcA := hnm0 cA (hSt.2.2.1 t _ hty).2 hNm
  subst hcA
  have w := k.2.2 H1 locs ls (mj_hp.push a1 (by simpa using z1) o1 ?_) (mj_S_push a2 (by omega) o1) a3 (by simp; omega) (by show s0 ≤ h.2 + n.toNatClampNeg; omega)
  · have e2 : (h.1 ++ [Sum.inl (t, n.toNatClampNeg, x)] : List va_E).length - n0 = h.1.length - n0 + 1 := by simp; omega
    have e3 : h.2 + n.toNatClampNeg - s0 = h.2 - s0 + n.toNatClampNeg := by omega
    dsimp only at w
    rw [e2, e3, List.map_cons, show mj_cv D (.ref h.1.length) = .ref (mj_ad D h.1.length) from rfl, ha, ← a1.1] at w
    exact w
  intro j' e' hj' hg
  obtain ⟨rfl, rfl⟩ := mj_nth_1 hj'
  show H1[mj_b D + h.1.length]? = some (vp_cell (mj_dA D t) (n.toNatClampNeg, mj_cx D x))
  rw [hx0, ← a1.1]
  exact e1
theorem mj_w_anew (C : mj_Cx D M p R s m meth c n0 s0 Lx Sx) {j wp : Nat} (hd : decode (mj_bt M) pc = .ok (.anewarray j, 3)) (hw : mj_nth lw_tbl wp = some (.classLink (mj_nm M).cls j "LowNumber$Now")) (hn : ¬ (n < 0 ∨ 65536 < n.toNatClampNeg))
    (k : mj_P D M p l e R s m args below meth c Q n0 s0 Lx Sx (pc + 3) lv (.ref h.1.length :: r) (h.1 ++ [.inl (3, n.toNatClampNeg, .inr (.inr (.inr (.inr (fun _ => none)))))], h.2 + n.toNatClampNeg)) : mj_P D M p l e R s m args below meth c Q n0 s0 Lx Sx pc lv (.int n :: r) h := by
  obtain ⟨hx, hb, hml, hown, hnm, hSt, hRc, hRs, hLx, -⟩ := id C
  have hk1 : h.1.length + 1 ≤ Lx := by have := k.1; simpa using this
  have hk2 : h.2 + n.toNatClampNeg ≤ Sx := k.2.1
  refine ⟨by omega, by omega, fun H locs ls a1 a2 a3 a4 a5 => ?_⟩
  have ha : mj_ad D h.1.length = mj_b D + h.1.length := mj_ad_l (by omega)
  have h64 : n.toNatClampNeg ≤ 65536 := Nat.not_lt.mp fun q => hn (Or.inr q)
  refine W.anew hx hb hown (hSt.use (mj_nth_mem hw) rfl rfl) (va_AO.use hSt.2.2.2.2.2.1) rfl hd rfl (fun q => hn (Or.inl q)) (Nat.le_trans (Nat.mul_le_mul_right 4 h64) (by decide)) (by rw [hRc]; omega) (by rw [hRs]; omega) fun cA kA comp f1 f2 f3 f4 => ?_
  generalize hH1 : H.push ({ cls := cA, slots := Array.replicate n.toNatClampNeg .null, vm := .none } : Cell) = H1
  have z1 : H1.size = H.size + 1 := by rw [← hH1, Array.size_push]
  have e1 : H1[H.size]? = some (arrV cA n.toNatClampNeg (fun _ => .null)) := by rw [← hH1, Array.getElem?_push_size, ← arrV_new]
  have o1 : ∀ q : Nat, q < H.size → H1[q]? = H[q]? := fun q hq => by rw [← hH1, Array.getElem?_push, if_neg (Nat.ne_of_lt hq)]
  obtain ⟨kA', comp', k1, k2, k3, k4⟩ := (hSt.2.2.1 3 (.object "LowNumber$Now") rfl).2
  have hcA : cA = mj_dA D 3 := Option.some.inj (f1.symm.trans k4)
  subst hcA
  have w := k.2.2 H1 locs ls (mj_hp.push a1 (by simpa using z1) o1 ?_) (mj_S_push a2 (by omega) o1) a3 (by simp; omega) (by show s0 ≤ h.2 + n.toNatClampNeg; omega)
  · have e2 : (h.1 ++ [Sum.inl (3, n.toNatClampNeg, Sum.inr (Sum.inr (Sum.inr (Sum.inr (fun _ => none)))))] : List va_E).length - n0 = h.1.length - n0 + 1 := by simp; omega
    have e3 : h.2 + n.toNatClampNeg - s0 = h.2 - s0 + n.toNatClampNeg := by omega
    dsimp only at w
    rw [e2, e3, List.map_cons, show mj_cv D (.ref h.1.length) = .ref (mj_ad D h.1.length) from rfl, ha, ← a1.1] at w
    exact w
  intro j' e' hj' hg
  obtain ⟨rfl, rfl⟩ := mj_nth_1 hj'
  show H1[mj_b D + h.1.length]? = some (vp_cell (mj_dA D 3) (n.toNatClampNeg, .inr (.inr (.inr (.inr (fun j => Option.map (mj_ad D) none))))))
  rw [vp_cell_q, ← a1.1]
  exact e1
theorem mj_outer (c : ClassId) (N h0 : Nat) : ∀ i : Nat, Jvm.Free.Multi.outerC c N h0 i = arrV c N (fun j => va_rf (if j < i then some (h0 + 1 + j) else none))
  | 0 => by
    show ({ cls := c, slots := Array.replicate N .null, vm := .none } : Cell) = _
    rw [arrV_new]
    refine congrArg (arrV c N) (funext fun j => ?_)
    simp [va_rf]
  | i + 1 => by
    show (Jvm.Free.Multi.outerC c N h0 i).setSlot i (.ref (h0 + 1 + i)) = _
    rw [mj_outer c N h0 i, arrV_store]
    refine congrArg (arrV c N) (funext fun j => ?_)
    by_cases e : j = i
    · subst e
      simp [updV, va_rf]
    · by_cases h : j < i
      · simp [updV, e, h, Nat.lt_succ_of_lt h]
      · simp [updV, e, h, show ¬ j < i + 1 by omega]
theorem mj_w_mna (C : mj_Cx D M p R s m meth c n0 s0 Lx Sx) {j wp : Nat} (hd : decode (mj_bt M) pc = .ok (.multianewarray j 2, 4)) (hw : mj_nth lw_tbl wp = some (.classLink (mj_nm M).cls j "[[I")) (hA : Cond.arrayClass .int ∈ lw_tbl)
    (k : mj_P D M p l e R s m args below meth c Q n0 s0 Lx Sx (pc + 4) lv (.ref h.1.length :: r) (h.1 ++ [.inl (4, 3, .inr (.inr (.inr (.inr (fun i => if i < 3 then some (h.1.length + 1 + i) else none))))), .inl (0, 6, .inl (fun _ => 0)), .inl (0, 6, .inl (fun _ => 0)), .inl (0, 6, .inl (fun _ => 0))], h.2 + 21)) : mj_P D M p l e R s m args below meth c Q n0 s0 Lx Sx pc lv (.int 6 :: .int 3 :: r) h := by
  obtain ⟨hx, hb, hml, hown, hnm, hSt, hRc, hRs, hLx, -⟩ := id C
  have hk1 : h.1.length + 4 ≤ Lx := by have := k.1; simpa using this
  have hk2 : h.2 + 21 ≤ Sx := k.2.1
  refine ⟨by omega, by omega, fun H locs ls a1 a2 a3 a4 a5 => ?_⟩
  have ha : ∀ z, z < 4 → mj_ad D (h.1.length + z) = mj_b D + h.1.length + z := fun z hz => (mj_ad_l (by omega)).trans (by omega)
  intro T hT X
  obtain ⟨vm₁, cA, comp, -, fA, fC, hO, -, X', step⟩ := X.multianewarray2F hx (ty := .int) hown (hSt.use (mj_nth_mem hw) rfl rfl) hSt.2.2.2.2.2.2.1 (hSt.useA hA) (g := F0 m pc ls (.int 6 :: .int 3 :: r.map (mj_cv D))) rfl (by rw [hb]; exact hd) rfl (by decide) (by decide) (by decide) (by decide) (by decide) (by decide) (by decide) (by rw [hRc]; show h.1.length - n0 + (1 + 3) ≤ _; omega) (by rw [hRs]; show h.2 - s0 + (3 + 3 * 6) ≤ _; omega)
  rw [show (3 : Int32).toNatClampNeg = 3 from rfl, show (6 : Int32).toNatClampNeg = 6 from rfl] at X' step
  have ec : comp = mj_dA D 0 := Option.some.inj (fC.symm.trans (va_nm_int (hSt.2.2.1 0 .int rfl).2))
  have ea : cA = mj_dA D 4 := Option.some.inj (fA.symm.trans (hSt.2.2.1 4 (.array .int) rfl).2)
  subst ec; subst ea
  generalize hF : Jvm.Free.Multi.fill (T.setVm vm₁) (mj_dA D 4) (mj_dA D 0) 3 6 (defaultValue .int) 3 = F at X' step
  have hTh : (T.setVm vm₁).heap = H := hT
  obtain ⟨f1, f2, -, -⟩ := Jvm.Free.Multi.fill_facts (T.setVm vm₁) (mj_dA D 4) (mj_dA D 0) 3 6 (defaultValue .int) 3
  rw [hF, hTh] at f1 f2
  have hold : ∀ x : Nat, x < H.size → F.heap[x]? = H[x]? := fun x hx => by
    have := Jvm.Free.Multi.fill_old (T.setVm vm₁) (mj_dA D 4) (mj_dA D 0) 3 6 (defaultValue .int) (a := x) (by rw [hTh]; exact hx) 3
    rw [hF, hTh] at this
    exact this
  have hrow : ∀ j : Nat, j < 3 → F.heap[H.size + 1 + j]? = some (vp_cell (mj_dA D 0) (6, .inl (fun _ => 0))) := fun j hj => by
    have := Jvm.Free.Multi.fill_inner (T.setVm vm₁) (mj_dA D 4) (mj_dA D 0) 3 6 (defaultValue .int) 3 j hj
    rw [hF, hTh] at this
    rw [this, vp_cell_i, ← arrV_new]
    rfl
  rw [mj_outer] at f2
  have hz : F.heap.size = H.size + 4 := by rw [f1]
  have hs := a1.1
  have w := k.2.2 F.heap locs ls (mj_hp.push a1 (by simpa using hz) hold ?_) (mj_S_push a2 (by omega) hold) a3 (by simp; omega) (by show s0 ≤ h.2 + 21; omega)
  · have e2 : (h.1 ++ [Sum.inl (4, 3, Sum.inr (Sum.inr (Sum.inr (Sum.inr (fun i => if i < 3 then some (h.1.length + 1 + i) else none))))), Sum.inl (0, 6, Sum.inl (fun _ => 0)), Sum.inl (0, 6, Sum.inl (fun _ => 0)), Sum.inl (0, 6, Sum.inl (fun _ => 0))] : List va_E).length - n0 = h.1.length - n0 + 1 + 3 := by simp; omega
    have e3 : h.2 + 21 - s0 = h.2 - s0 + 3 + 3 * 6 := by omega
    have e4 : mj_ad D h.1.length = H.size := (mj_ad_l (by omega)).trans hs.symm
    dsimp only at w
    rw [e2, e3, List.map_cons, show mj_cv D (.ref h.1.length) = .ref (mj_ad D h.1.length) from rfl, e4] at w
    obtain ⟨t, b1, b2⟩ := w F rfl X'
    rw [hT] at step
    exact ⟨t, step t b1, b2⟩
  intro j' e' hj' hg
  match j', hj' with
  | 0, hj' =>
    cases hj'
    show F.heap[mj_b D + (h.1.length + 0)]? = some (vp_cell (mj_dA D 4) (3, .inr (.inr (.inr (.inr (fun i => (if i < 3 then some (h.1.length + 1 + i) else none).map (mj_ad D)))))))
    rw [Nat.add_zero, ← hs, f2, vp_cell_q]
    refine congrArg (fun f => some (arrV (mj_dA D 4) 3 f)) (funext fun j => ?_)
    by_cases hj : j < 3
    · rw [if_pos hj, if_pos hj]
      show Value.ref _ = Value.ref (mj_ad D (h.1.length + 1 + j))
      rw [mj_ad_l (by omega)]
      have hTs : (T.setVm vm₁).heap.size = H.size := by rw [hTh]
      refine congrArg Value.ref ?_
      have hz2 : ∀ x y z w : Nat, x = y + z → x + 1 + w = y + (z + 1 + w) := fun x y z w h => by omega
      exact hz2 _ _ _ _ hs
    · rw [if_neg hj, if_neg hj]
      rfl
  | 1, hj' =>
    cases hj'
    have := hrow 0 (by omega)
    rw [hs] at this
    exact this
  | 2, hj' =>
    cases hj'
    have := hrow 1 (by omega)
    rw [hs] at this
    exact this
  | 3, hj' =>
    cases hj'
    have := hrow 2 (by omega)
    rw [hs] at this
    exact this
  | z + 4, hj' => simp [mj_nth] at hj'
end MJN
end
section
/-! every instruction that isn't a call -/
section MJX
variable {D : mj_D} {M : mj_M} {p : Program} {l : Launch} {e : Env} {R : Room} {s : State} {m : MethodId} {args : Array Value} {below : List Frame} {meth : Method} {c : Code} {Q : State → Prop} {n0 s0 Lx Sx : Nat}
variable {pc : Nat} {lv : mj_L} {st : List Value} {h : mj_H}
theorem mj_acI : Cond.arrayClass .int ∈ lw_tbl := by decide +kernel
theorem mj_acJ : Cond.arrayClass .long ∈ lw_tbl := by decide +kernel
theorem mj_acB : Cond.arrayClass .byte ∈ lw_tbl := by decide +kernel
set_option maxHeartbeats 4000000 in
theorem mj_snx (hM : mj_okM M = true) (C : mj_Cx D M p R s m meth c n0 s0 Lx Sx) {x : mj_I} {pc' : Nat} {lv' : mj_L} {st' : List Value} {h' : mj_H} (he : mj_ent (mj_cd M) pc = some x) (hn : mj_nx (mj_sta D) x.2.1 x.2.2.1 pc lv st h = some (pc', lv', st', h'))
    (k : mj_P D M p l e R s m args below meth c Q n0 s0 Lx Sx pc' lv' st' h') : mj_P D M p l e R s m args below meth c Q n0 s0 Lx Sx pc lv st h := by
  obtain ⟨rfl, hok⟩ := mj_ent_ok hM he
  clear he
  unfold mj_okE at hok
  simp only [Bool.and_eq_true] at hok
  obtain ⟨⟨hl, ht⟩, hd0, hok⟩ := hok
  have hd := of_decide_eq_true hd0
  clear hd0
  obtain ⟨pc, i, len, raw, wp⟩ := x
  dsimp only at hl ht hd hok hn ⊢
  cases i
  case getfield j =>
    cases raw <;> simp only [mj_ok, Bool.false_eq_true] at hok
    have e2 : len = 3 := Nat.eq_of_beq_eq_true hl; subst e2
    cases hq : mj_nth vwCl (j / 64) with
    | none => rw [hq] at hok; cases hok
    | some q =>
      rw [hq] at hok
      simp only [Bool.and_eq_true, decide_eq_true_eq] at hok
      unfold mj_nx at hn
      dsimp only at hn
      split at hn
      case h_2 => cases hn
      split at hn
      case h_2 => cases hn
      rename_i ci fs hc
      cases hb : Nat.beq ci (j / 64) with
      | false => rw [hb] at hn; cases hn
      | true =>
        rw [hb] at hn
        have e3 := Nat.eq_of_beq_eq_true hb; subst e3
        dsimp only [cond_true] at hn
        split at hn
        case h_2 => cases hn
        rename_i v hv
        cases hn
        exact mj_w_get C hd hq hok.1 hok.2 hc hv k
  case putfield j =>
    cases raw <;> simp only [mj_ok, Bool.false_eq_true] at hok
    have e2 : len = 3 := Nat.eq_of_beq_eq_true hl; subst e2
    cases hq : mj_nth vwCl (j / 64) with
    | none => rw [hq] at hok; cases hok
    | some q =>
      rw [hq] at hok
      rw [Bool.and_eq_true, Bool.and_eq_true] at hok
      obtain ⟨o1, o2, o3⟩ := hok
      unfold mj_nx at hn
      dsimp only at hn
      split at hn
      case h_2 => cases hn
      split at hn
      case h_2 => cases hn
      rename_i ci fs hc
      cases hb : Nat.beq ci (j / 64) with
      | false => rw [hb] at hn; cases hn
      | true =>
        rw [hb] at hn
        have e3 := Nat.eq_of_beq_eq_true hb; subst e3
        dsimp only [cond_true] at hn
        split at hn
        case isFalse => cases hn
        rename_i z
        cases hn
        exact mj_w_put C hd hq (of_decide_eq_true o1) o2 o3 hc z.1 z.2.1 z.2.2 k
  case getstatic j =>
    cases raw <;> simp only [mj_ok, Bool.false_eq_true] at hok
    have e2 : len = 3 := Nat.eq_of_beq_eq_true hl; subst e2
    simp only [Bool.and_eq_true, decide_eq_true_eq] at hok
    obtain ⟨o1, o2⟩ := hok
    subst o1
    cases hn
    exact mj_w_gets C hd o2 k
  case iaload =>
    have e1 : raw = _ := of_decide_eq_true (by simpa only [mj_ok] using hok); subst e1
    have e2 : len = 1 := Nat.eq_of_beq_eq_true hl; subst e2
    unfold mj_nx at hn
    dsimp only at hn
    split at hn
    case h_2 => cases hn
    split at hn
    case h_2 => cases hn
    rename_i n f hc
    split at hn
    case isTrue => cases hn
    rename_i hin
    cases hn
    unfold mj_ints at hc
    split at hc
    · rename_i hc2; cases hc; exact mj_w_iald C hd hc2 hin k
    · cases hc
    · exact mj_w_sald C hd hc hin k
  case arraylength =>
    have e1 : raw = _ := of_decide_eq_true (by simpa only [mj_ok] using hok); subst e1
    have e2 : len = 1 := Nat.eq_of_beq_eq_true hl; subst e2
    unfold mj_nx at hn
    dsimp only at hn
    split at hn
    case h_2 => cases hn
    split at hn
    case h_2 => cases hn
    rename_i n f hc
    cases hn
    unfold mj_ints at hc
    split at hc
    · rename_i hc2; cases hc; exact mj_w_alen C hd hc2 k
    · cases hc
    · exact mj_w_slen C hd hc k
  case baload =>
    have e1 : raw = _ := of_decide_eq_true (by simpa only [mj_ok] using hok); subst e1
    have e2 : len = 1 := Nat.eq_of_beq_eq_true hl; subst e2
    unfold mj_nx at hn
    dsimp only at hn
    split at hn
    case h_2 => cases hn
    split at hn
    case h_2 => cases hn
    rename_i n f hc
    split at hn
    case isTrue => cases hn
    rename_i hin
    cases hn
    exact mj_w_bald C hd hc hin k
  case laload =>
    have e1 : raw = _ := of_decide_eq_true (by simpa only [mj_ok] using hok); subst e1
    have e2 : len = 1 := Nat.eq_of_beq_eq_true hl; subst e2
    unfold mj_nx at hn
    dsimp only at hn
    split at hn
    case h_2 => cases hn
    split at hn
    case h_2 => cases hn
    rename_i n f hc
    split at hn
    case isTrue => cases hn
    rename_i hin
    cases hn
    exact mj_w_lald C hd hc hin k
  case aaload =>
    have e1 : raw = _ := of_decide_eq_true (by simpa only [mj_ok] using hok); subst e1
    have e2 : len = 1 := Nat.eq_of_beq_eq_true hl; subst e2
    unfold mj_nx at hn
    dsimp only at hn
    split at hn
    case h_2 => cases hn
    split at hn
    case h_3 => cases hn
    · rename_i n f hc
      split at hn
      case isTrue => cases hn
      rename_i hin
      cases hn
      exact mj_w_aald C (t := 3) rfl rfl hd hc hin k
    · rename_i n f hc
      split at hn
      case isTrue => cases hn
      rename_i hin
      cases hn
      exact mj_w_aald C (t := 4) rfl rfl hd hc hin k
  case iastore =>
    have e1 : raw = _ := of_decide_eq_true (by simpa only [mj_ok] using hok); subst e1
    have e2 : len = 1 := Nat.eq_of_beq_eq_true hl; subst e2
    unfold mj_nx at hn
    dsimp only at hn
    split at hn
    case h_2 => cases hn
    split at hn
    case h_2 => cases hn
    rename_i n f hc
    split at hn
    case isTrue => cases hn
    rename_i hin
    cases hn
    exact mj_w_iast C hd hc hin k
  case bastore =>
    have e1 : raw = _ := of_decide_eq_true (by simpa only [mj_ok] using hok); subst e1
    have e2 : len = 1 := Nat.eq_of_beq_eq_true hl; subst e2
    unfold mj_nx at hn
    dsimp only at hn
    split at hn
    case h_2 => cases hn
    split at hn
    case h_2 => cases hn
    rename_i n f hc
    split at hn
    case isTrue => cases hn
    rename_i hin
    cases hn
    exact mj_w_bast C hd hc hin k
  case lastore =>
    have e1 : raw = _ := of_decide_eq_true (by simpa only [mj_ok] using hok); subst e1
    have e2 : len = 1 := Nat.eq_of_beq_eq_true hl; subst e2
    unfold mj_nx at hn
    dsimp only at hn
    split at hn
    case h_2 => cases hn
    split at hn
    case h_2 => cases hn
    rename_i n f hc
    split at hn
    case isTrue => cases hn
    rename_i hin
    cases hn
    exact mj_w_last C hd hc hin k
  case aastore =>
    have e1 : raw = _ := of_decide_eq_true (by simpa only [mj_ok] using hok); subst e1
    have e2 : len = 1 := Nat.eq_of_beq_eq_true hl; subst e2
    unfold mj_nx at hn
    dsimp only at hn
    split at hn
    case h_2 => cases hn
    split at hn
    case h_2 => cases hn
    rename_i n f fs hc hv
    split at hn
    case isTrue => cases hn
    rename_i hin
    cases hn
    exact mj_w_aast C hd hc hv hin k
  case new ci =>
    cases raw <;> simp only [mj_ok, Bool.false_eq_true] at hok
    have e2 : len = 3 := Nat.eq_of_beq_eq_true hl; subst e2
    cases hn
    split at hok
    case h_2 => cases hok
    rename_i a j C' q hw hq
    simp only [Bool.and_eq_true, decide_eq_true_eq] at hok
    obtain ⟨⟨e1, e2, e3⟩, o1, o2⟩ := hok
    subst e1; subst e2; subst e3
    exact mj_w_new C hd hq hw o1 o2 k
  case newarray ty =>
    have e1 : raw = _ := of_decide_eq_true (by simpa only [mj_ok] using hok); subst e1
    have e2 : len = 2 := Nat.eq_of_beq_eq_true hl; subst e2
    unfold mj_nx at hn
    dsimp only at hn
    split at hn
    case h_2 => cases hn
    split at hn
    case isTrue => cases hn
    rename_i n r hin
    split at hn
    · cases hn
      exact mj_w_newa C (t := 0) (x := .inl (fun _ => 0)) hd rfl mj_acI (fun cA h1 h2 => Option.some.inj (h2.symm.trans h1)) (fun cA => rfl) (by decide) hin k
    · cases hn
      exact mj_w_newa C (t := 1) (x := .inr (.inl (fun _ => 0))) hd rfl mj_acJ (fun cA h1 h2 => Option.some.inj (h2.symm.trans h1)) (fun cA => rfl) (by decide) hin k
    · cases hn
      exact mj_w_newa C (t := 2) (x := .inl (fun _ => 0)) hd rfl mj_acB (fun cA h1 h2 => Option.some.inj (h2.symm.trans h1)) (fun cA => rfl) (by decide) hin k
    · cases hn
  case anewarray z =>
    cases raw <;> simp only [mj_ok, Bool.false_eq_true] at hok
    have e2 : len = 3 := Nat.eq_of_beq_eq_true hl; subst e2
    split at hok
    case h_2 => cases hok
    rename_i a j C' hw
    obtain ⟨e0, e1, e2, e3⟩ := of_decide_eq_true hok
    subst e0; subst e1; subst e2; subst e3
    cases st with
    | nil => simp [mj_nx] at hn
    | cons v r =>
      cases v
      case int n =>
        by_cases hin : (n < 0 ∨ 65536 < n.toNatClampNeg)
        · simp [mj_nx, hin] at hn
        · simp only [mj_nx, hin, if_false] at hn
          cases hn
          exact mj_w_anew C hd hw hin k
      all_goals simp [mj_nx] at hn
  case multianewarray z1 z2 =>
    cases raw <;> simp only [mj_ok, Bool.false_eq_true] at hok
    have e2 : len = 4 := Nat.eq_of_beq_eq_true hl; subst e2
    split at hok
    case h_2 => cases hok
    rename_i a j C' hw
    obtain ⟨e0, e00, e01, e1, e2, e3⟩ := of_decide_eq_true hok
    subst e0; subst e00; subst e01; subst e1; subst e2; subst e3
    unfold mj_nx at hn
    simp only at hn
    split at hn
    case h_2 => cases hn
    cases hn
    exact mj_w_mna C hd hw mj_acI k
  all_goals exact mj_pure C hd hl ht hok trivial hn k
end MJX
end
section
/-! calls -/
/-- the calls that are taken apart: Object.<init>, String.length, String.charAt, the law's led -/
def mj_bi (sta : mj_S) (Cl : mj_R) (mid : Nat) (as : List Value) (h : mj_H) (v : Option Value) (h' : mj_H) : Prop :=
  (mid = 0 ∧ ∃ k : Nat, as = [.ref k] ∧ v = none ∧ h' = h) ∨
  (mid = 1 ∧ ∃ (j : Nat) (r : String × Nat × String), as = [.ref (mj_SB + j)] ∧ mj_nth mj_str j = some r ∧ v = some (.int (Int32.ofNat r.2.2.toList.length)) ∧ h' = h) ∨
  (mid = 2 ∧ ∃ (j : Nat) (r : String × Nat × String) (k : Nat) (ch : Char), as = [.ref (mj_SB + j), .int (Int32.ofNat k)] ∧ mj_nth mj_str j = some r ∧ mj_nth r.2.2.toList k = some ch ∧ v = some (.int (Int32.ofNat ch.toNat)) ∧ h' = h) ∨
  (mid = 3 ∧ ∃ (x o : Nat) (i : Int32), as = [.ref x, .int i, .ref o] ∧
    ((∃ (y : Int32) (h1 : mj_H) (n : Nat) (f : Nat → Int64), Cl 128 [.ref x, .int i] h (some (.int y)) h1 ∧ mj_nth h1.1 o = some (.inl (1, n + 1, .inr (.inl f))) ∧ v = some (.int 0) ∧ h' = (h1.1.set o (.inl (1, n + 1, .inr (.inl (vp_updL f 0 y.toInt64)))), h1.2)) ∨
     (∃ h1 : mj_H, mj_go sta Cl m_X8_led (fun pc _ st h => pc = 68 ∧ st = [] ∧ h = h1) 0 (mj_e0 (mj_mx m_X8_led) [.ref x, .int i]) [] h ∧ v = some (.int 1) ∧ h' = (h1.1 ++ [.inr (99, [])], h1.2 + 6))))
def mj_Cl (sta : mj_S) : Nat → mj_R
  | 0 => fun _ _ _ _ _ => False
  | d + 1 => fun mid as h v h' => mj_bi sta (mj_Cl sta d) mid as h v h' ∨ ∃ M, 4 ≤ mid ∧ mj_nth mj_ms mid = some M ∧ (mj_el as).length ≤ mj_mx M ∧ mj_go sta (mj_Cl sta d) M (mj_ret M v h') 0 (mj_e0 (mj_mx M) as) [] h
theorem mj_led_no : mj_nth mj_ms 128 = some m_X8_led := by rfl
theorem mj_nx_le {sta : mj_S} {i : Instr} {len pc pc' : Nat} {lv lv' : mj_L} {st st' : List Value} {h h' : mj_H} (hn : mj_nx sta i len pc lv st h = some (pc', lv', st', h')) : h.1.length ≤ h'.1.length ∧ h.2 ≤ h'.2 := by
  unfold mj_nx at hn
  repeat' split at hn
  all_goals first
    | (cases hn; done)
    | (cases hn; exact ⟨Nat.le_refl _, Nat.le_refl _⟩)
    | (cases hn; constructor <;> simp)
    | skip
  all_goals
    generalize Nat.beq _ _ = bb at hn
    cases bb <;> first
      | (cases hn; done)
      | (cases hn; exact ⟨Nat.le_refl _, Nat.le_refl _⟩)
      | (cases hn; constructor <;> simp)
theorem mj_go_le {sta : mj_S} {Cl : mj_R} (hC : ∀ mid as h v h', Cl mid as h v h' → h.1.length ≤ h'.1.length ∧ h.2 ≤ h'.2) {M : mj_M} {T : Nat → mj_L → List Value → mj_H → Prop} {n z : Nat} (hT : ∀ pc lv st h, T pc lv st h → h.1.length ≤ n ∧ h.2 ≤ z) {pc : Nat} {lv : mj_L} {st : List Value} {h : mj_H} (hg : mj_go sta Cl M T pc lv st h) : h.1.length ≤ n ∧ h.2 ≤ z := by
  refine hg (fun _ _ _ h => h.1.length ≤ n ∧ h.2 ≤ z) hT (fun pc lv st h e pc' lv' st' h' _ hn hP => ?_) (fun pc lv st h e c v h' _ _ _ _ _ hc hP => ?_)
  · have := mj_nx_le hn
    exact ⟨Nat.le_trans this.1 hP.1, Nat.le_trans this.2 hP.2⟩
  · have := hC _ _ _ _ _ hc
    exact ⟨Nat.le_trans this.1 hP.1, Nat.le_trans this.2 hP.2⟩
theorem mj_Cl_le {sta : mj_S} : ∀ (d mid : Nat) (as : List Value) (h : mj_H) (v : Option Value) (h' : mj_H), mj_Cl sta d mid as h v h' → h.1.length ≤ h'.1.length ∧ h.2 ≤ h'.2
  | 0, _, _, _, _, _, hc => hc.elim
  | d + 1, mid, as, h, v, h', hc => by
    rcases hc with hb | ⟨M, -, -, -, hg⟩
    · rcases hb with ⟨-, k, -, -, rfl⟩ | ⟨-, j, r, -, -, -, rfl⟩ | ⟨-, j, r, k, ch, -, -, -, -, rfl⟩ | ⟨-, x, o, i, -, hb⟩
      · exact ⟨Nat.le_refl _, Nat.le_refl _⟩
      · exact ⟨Nat.le_refl _, Nat.le_refl _⟩
      · exact ⟨Nat.le_refl _, Nat.le_refl _⟩
      · rcases hb with ⟨y, h1, n, f, h2, -, -, rfl⟩ | ⟨h1, hg, -, rfl⟩
        · have := mj_Cl_le d _ _ _ _ _ h2
          simpa using this
        · have := mj_go_le (mj_Cl_le d) (n := h1.1.length) (z := h1.2) (fun pc lv st h ht => by rw [ht.2.2]; exact ⟨Nat.le_refl _, Nat.le_refl _⟩) hg
          exact ⟨by simp; omega, by show h.2 ≤ h1.2 + 6; omega⟩
    · exact mj_go_le (mj_Cl_le d) (fun pc lv st h ht => by rw [ht.1]; exact ⟨Nat.le_refl _, Nat.le_refl _⟩) hg
/-- what a call asks of a method's head -/
def mj_hd (M : mj_M) : Prop := Cond.code (mj_nm M) (mj_bt M) (mj_mx M) (mj_rt M) ∈ lw_tbl ∧ Cond.initialized (mj_nm M).cls ∈ lw_tbl ∧ ((mj_nm M).cls ≠ "java/lang/invoke/MethodHandle" ∧ (mj_nm M).cls ≠ "java/lang/invoke/VarHandle") ∧ plainName (mj_nm M).cls = true ∧ mj_mx M ≤ 19
def mj_rm (d : Nat) (h h' : mj_H) : Room := { frames := d, cells := h'.1.length - h.1.length, slots := h'.2 - h.2, locals := 38 * d }
def mj_Pc (D : mj_D) (as : List Value) (h : mj_H) : Array Value → State → Prop := va_Pc (as.map (mj_cv D)) (fun U => mj_St D U ∧ mj_hp D h U.heap)
def mj_Qc (D : mj_D) (v : Option Value) (h' : mj_H) : Array Value → State → Outcome → State → Prop := fun _ _ o t => o = .returned (v.map (mj_cv D)) ∧ mj_hp D h' t.heap
def mj_wd (M : mj_M) : List Cond := [Cond.code (mj_nm M) (mj_bt M) (mj_mx M) (mj_rt M)]
abbrev mj_A (D : mj_D) : Addr → Prop := fun q => mj_b D ≤ q
/-- a method's contract, at depth d -/
def mj_Met (D : mj_D) (l : Launch) (d : Nat) : Prop := ∀ (mid : Nat) (M : mj_M) (as : List Value) (h : mj_H) (v : Option Value) (h' : mj_H), 4 ≤ mid → mj_nth mj_ms mid = some M → (mj_el as).length ≤ mj_mx M → mj_go (mj_sta D) (mj_Cl (mj_sta D) d) M (mj_ret M v h') 0 (mj_e0 (mj_mx M) as) [] h → h'.1.length ≤ mj_SB →
  Met l (mj_nm M) (mj_wd M) (mj_rm d h h') (mj_Pc D as h) (mj_Qc D v h') (h'.1.length - h.1.length) (h'.2 - h.2) (mj_A D)
section MJR
variable {D : mj_D} {M : mj_M} {p : Program} {l : Launch} {e : Env} {R : Room} {s : State} {m : MethodId} {args : Array Value} {below : List Frame} {meth : Method} {c : Code} {Q : State → Prop} {n0 s0 Lx Sx : Nat}
variable {pc : Nat} {lv : mj_L} {st : List Value} {h : mj_H}
theorem mj_ofRun {H : Heap} {locs : List Loc} {cells slots mc ms : Nat} {ls : Array Slot} {st0 rest : List Value} {Qa : State → Outcome → State → Prop} {free : Addr → Prop} (hr : va_Run p l e R s m args below meth c H locs cells slots mc ms (F0 m pc ls st0) rest Qa free)
    (kk : ∀ (v : Option Value) (st₀ t : State) (H1 : Heap) (L : List Loc), st₀.heap = H → t.heap = H1 → Qa st₀ (.returned v) t → (∀ q ∈ L, free q.base) → W p l e R s m args below meth c H1 (locs ++ L) (cells + mc) (slots + ms) Q (F0 m (pc + 3) ls (v.toList ++ rest))) : W p l e R s m args below meth c H locs cells slots Q (F0 m pc ls st0) := by
  intro T hT X
  obtain ⟨v, st₀, t, T', L, h0, X', hL, e1, e2, hq, st⟩ := hr T hT X
  obtain ⟨t2, b1, b2⟩ := kk v st₀ t T'.heap L h0 e1.symm hq hL T' rfl X'
  exact ⟨t2, st t2 b1, b2⟩
theorem mj_blind (as : List Value) : FrameBlind (mj_Pc D as h) := fun a U g mk q => ⟨q.1, q.2.1.warm (U := U.calling g mk a) (State.WarmedH.refl U), q.2.2⟩
/-- behind a call -/
theorem mj_behind (C : mj_Cx D M p R s m meth c n0 s0 Lx Sx) {v : Option Value} {h1 : mj_H} {r : List Value} (hle : h.1.length ≤ h1.1.length ∧ h.2 ≤ h1.2) {H : Heap} {locs : List Loc} {ls : Array Slot} (a1 : mj_hp D h H) (a2 : va_S (fun q => mj_b D ≤ q) s.heap H locs) (a3 : lv_has ls (mj_mx M) (mj_pr D lv)) (a4 : n0 ≤ h.1.length) (a5 : s0 ≤ h.2)
    (k : mj_P D M p l e R s m args below meth c Q n0 s0 Lx Sx (pc + 3) lv (v.toList ++ r) h1) (w : Option Value) (H1 : Heap) (L : List Loc) (hw : Outcome.returned w = .returned (v.map (mj_cv D))) (hp1 : mj_hp D h1 H1) (hL : ∀ q ∈ L, mj_A D q.base) :
    W p l e R s m args below meth c H1 (locs ++ L) (h.1.length - n0 + (h1.1.length - h.1.length)) (h.2 - s0 + (h1.2 - h.2)) Q (F0 m (pc + 3) ls (w.toList ++ r.map (mj_cv D))) := by
  cases hw
  obtain ⟨hx, hb, hml, hown, hnm, hSt, hRc, hRs, hLx, hb1, hb2⟩ := id C
  have hz := a1.1
  have hz1 := hp1.1
  have h0 := a2.1
  have w := k.2.2 H1 (locs ++ L) ls hp1 ⟨by omega, fun q q1 q2 => by rw [hp1.2.1 q (Nat.not_le.mp q2), hb2 q (Nat.not_le.mp q2)], fun q hq => (List.mem_append.mp hq).elim (a2.2.2 q) (hL q)⟩ a3 (by omega) (by omega)
  rw [show h.1.length - n0 + (h1.1.length - h.1.length) = h1.1.length - n0 by omega, show h.2 - s0 + (h1.2 - h.2) = h1.2 - s0 by omega]
  have e1 : (v.toList ++ r).map (mj_cv D) = (v.map (mj_cv D)).toList ++ r.map (mj_cv D) := by cases v <;> simp
  rw [e1] at w
  exact w
end MJR
end
section
/-! the small machine's answers are the Jvm's -/
/-- the builtins but Object.<init>, as a body at depth d + 1 calls them -/
def mj_HB (D : mj_D) (l : Launch) (d : Nat) : Prop := ∀ (M : mj_M) (p : Program) (e : Env) (R : Room) (s : State) (m : MethodId) (args : Array Value) (below : List Frame) (meth : Method) (c : Code) (Q : State → Prop) (n0 s0 Lx Sx pc : Nat) (lv : mj_L) (as r : List Value) (h h1 : mj_H) (v : Option Value) (mid i : Nat),
  mj_Cx D M p R s m meth c n0 s0 Lx Sx → R.frames = d + 1 → R.locals = 38 * (d + 1) → 1 ≤ mid → mid ≤ 3 → decode (mj_bt M) pc = .ok (if mid = 3 then .invokestatic i else .invokevirtual i, 3) → Cond.methodLink (mj_nm M).cls i (mj_bn mid) ∈ lw_tbl → mj_bi (mj_sta D) (mj_Cl (mj_sta D) d) mid as h v h1 → (r.map Value.category).sum ≤ 8 →
  mj_P D M p l e R s m args below meth c Q n0 s0 Lx Sx (pc + 3) lv (v.toList ++ r) h1 → mj_P D M p l e R s m args below meth c Q n0 s0 Lx Sx pc lv (as.reverse ++ r) h
theorem mj_oiI : Cond.instanceMethod objectInit ∈ lw_tbl := by decide +kernel
theorem mj_oiC : Cond.code objectInit ⟨#[0xb1]⟩ 1 none ∈ lw_tbl := by decide +kernel
theorem mj_catsum (D : mj_D) (r : List Value) : ((r.map (mj_cv D)).map Value.category).sum = (r.map Value.category).sum := by
  induction r with
  | nil => rfl
  | cons v t ih => simp only [List.map_cons, List.sum_cons, mj_cat]; rw [ih]
theorem mj_np_len {M : mj_M} {n : Nat} (h : mj_np M n = true) : ∀ sig, parseMethodDescriptor (mj_nm M).desc = some sig → n = sig.parameters.length := by
  intro sig hs
  have := of_decide_eq_true h
  rw [hs] at this
  exact (Option.some.inj this).symm
section MJC
variable {D : mj_D} {M : mj_M} {p : Program} {l : Launch} {e : Env} {R : Room} {s : State} {m : MethodId} {args : Array Value} {below : List Frame} {meth : Method} {c : Code} {Q : State → Prop} {n0 s0 Lx Sx : Nat}
variable {pc : Nat} {lv : mj_L} {st : List Value} {h : mj_H}
/-- the words of a call -/
theorem mj_callB (hSt : mj_St D s) {M' : mj_M} {rt : Option FieldType} (hrt : mj_rt M' = rt) (hH : mj_hd M') {d : Nat} {h1 : mj_H} {n : Nat} (hRf : R.frames = d + 1) (hRl : R.locals = 38 * (d + 1)) (hn : mj_np M' n = true) :
    (mj_rm d h h1).cells = h1.1.length - h.1.length ∧ (mj_rm d h h1).slots = h1.2 - h.2 ∧ (mj_rm d h h1).frames + 1 ≤ R.frames ∧ 8 + (mj_mx M' + 11) + (mj_rm d h h1).locals ≤ R.locals ∧ (∀ w ∈ mj_wd M', ∀ (a' : Array Value) (U : State), s.WarmedH U.vm → w.before a' U = true) ∧ Cond.code (mj_nm M') (mj_bt M') (mj_mx M') rt ∈ mj_wd M' ∧
    (Cond.code (mj_nm M') (mj_bt M') (mj_mx M') rt).before args s = true ∧ (Cond.initialized (mj_nm M').cls).before args s = true ∧ ((mj_nm M').cls ≠ "java/lang/invoke/MethodHandle" ∧ (mj_nm M').cls ≠ "java/lang/invoke/VarHandle") ∧ (∀ sig, parseMethodDescriptor (mj_nm M').desc = some sig → n = sig.parameters.length) := by
  subst hrt
  obtain ⟨w1, w2, w3, w4, w5⟩ := hH
  refine ⟨rfl, rfl, by rw [hRf]; exact Nat.le_refl _, by rw [hRl]; show 8 + (mj_mx M' + 11) + 38 * d ≤ _; omega, fun w hw a' U hW => ?_, List.mem_singleton.mpr rfl, hSt.use w1 rfl rfl, hSt.use w2 rfl rfl, w3, mj_np_len hn⟩
  rw [List.mem_singleton.mp hw]
  exact (hSt.warm hW).use w1 rfl rfl
theorem mj_split {D : mj_D} {st as : List Value} {n : Nat} (hA : (st.take n).reverse = as) : st.map (mj_cv D) = (as.map (mj_cv D)).reverse ++ (st.drop n).map (mj_cv D) := by
  subst hA
  rw [List.map_reverse, List.reverse_reverse, ← List.map_append, List.take_append_drop]
set_option maxHeartbeats 4000000 in
theorem mj_scall (hM : mj_okM M = true) (hH : ∀ mid M, 4 ≤ mid → mj_nth mj_ms mid = some M → mid ≠ 285 → mj_hd M) {d : Nat} (IH : mj_Met D l d) (HB : mj_HB D l d) (C : mj_Cx D M p R s m meth c n0 s0 Lx Sx) (hRf : R.frames = d + 1) (hRl : R.locals = 38 * (d + 1)) {x : mj_I} {cn : Nat} {v : Option Value} {h1 : mj_H} (he : mj_ent (mj_cd M) pc = some x) (hc : mj_isCall x.2.1 = some cn) (hlen : cn / 16 % 16 ≤ st.length)
    (hrv : mj_recv x.2.1 (st.take (cn / 16 % 16)).reverse h) (hs : ((st.drop (cn / 16 % 16)).map Value.category).sum ≤ 8) (hC : mj_Cl (mj_sta D) (d + 1) (cn / 256) (st.take (cn / 16 % 16)).reverse h v h1) (k : mj_P D M p l e R s m args below meth c Q n0 s0 Lx Sx (pc + 3) lv (v.toList ++ st.drop (cn / 16 % 16)) h1) :
    mj_P D M p l e R s m args below meth c Q n0 s0 Lx Sx pc lv st h := by
  have hle := mj_Cl_le _ _ _ _ _ _ hC
  obtain ⟨rfl, hok⟩ := mj_ent_ok hM he
  clear he
  unfold mj_okE at hok
  simp only [Bool.and_eq_true] at hok
  obtain ⟨⟨hl, ht⟩, hd0, hok⟩ := hok
  have hd := of_decide_eq_true hd0
  clear hd0
  obtain ⟨pc, i, len, raw, wp⟩ := x
  dsimp only at hl ht hd hok hc hrv k ⊢
  have hst : st = (st.take (cn / 16 % 16)).reverse.reverse ++ st.drop (cn / 16 % 16) := by rw [List.reverse_reverse, List.take_append_drop]
  have hAl : (st.take (cn / 16 % 16)).reverse.length = cn / 16 % 16 := by simp; omega
  generalize hA : (st.take (cn / 16 % 16)).reverse = as at hC hrv hst hAl
  -- a builtin's call
  have bui : ∀ j, 1 ≤ cn / 256 → cn / 256 ≤ 3 → raw = (if cn / 256 = 3 then .invokestatic j else .invokevirtual j) → len = 3 → mj_isB (mj_nth lw_tbl wp) (mj_nm M).cls j (cn / 256) = true → mj_P D M p l e R s m args below meth c Q n0 s0 Lx Sx pc lv st h := by
    intro j z1 z2 z3 z4 z5
    subst z4
    rw [z3] at hd
    rcases hC with hb | ⟨M', h4, -⟩
    · rw [hst]
      cases hw : mj_nth lw_tbl wp with
      | none => rw [hw] at z5; cases z5
      | some w0 =>
        rw [hw] at z5
        cases w0 <;> simp only [mj_isB, Bool.false_eq_true] at z5
        obtain ⟨e1, e2, e3⟩ := of_decide_eq_true z5
        subst e1; subst e2; subst e3
        exact HB M p e R s m args below meth c Q n0 s0 Lx Sx pc lv as (st.drop (cn / 16 % 16)) h h1 v (cn / 256) _ C hRf hRl z1 z2 hd (mj_nth_mem hw) hb hs k
    · omega
  obtain ⟨hx, hb, hml, hown, hnm, hSt, hRc, hRs, hLx, hb1, hb2⟩ := id C
  -- a regular one
  have reg : 4 ≤ cn / 256 → ∃ M', mj_nth mj_ms (cn / 256) = some M' ∧ (cn / 256 ≠ 285 → mj_hd M') ∧ Met l (mj_nm M') (mj_wd M') (mj_rm d h h1) (mj_Pc D as h) (mj_Qc D v h1) (h1.1.length - h.1.length) (h1.2 - h.2) (mj_A D) := by
    intro h4
    rcases hC with hb | ⟨M', -, hM', hel, hgo⟩
    · rcases hb with ⟨z, -⟩ | ⟨z, -⟩ | ⟨z, -⟩ | ⟨z, -⟩ <;> omega
    · exact ⟨M', hM', hH _ _ h4 hM', IH _ M' as h v h1 h4 hM' hel hgo (Nat.le_trans k.1 hLx)⟩
  have hcs : ∀ (g : JFrame), g = F0 m pc g.locals g.stack → 2 * g.monitorRoom + (((st.drop (cn / 16 % 16)).map (mj_cv D)).map fun v => v.category).sum ≤ 8 := by
    intro g hg
    have := lv_room (m := m) (pc := pc) (ls := g.locals) (rest := g.stack) (st := (st.drop (cn / 16 % 16)).map (mj_cv D)) (by rw [mj_catsum]; exact hs)
    rw [hg]
    exact this
  have hfc : ∀ H locs ls, mj_hp D h H → va_S (fun q => mj_b D ≤ q) s.heap H locs → lv_has ls (mj_mx M) (mj_pr D lv) → n0 ≤ h.1.length → s0 ≤ h.2 → h.1.length - n0 + (h1.1.length - h.1.length) ≤ R.cells ∧ h.2 - s0 + (h1.2 - h.2) ≤ R.slots := by
    intro H locs ls _ _ _ a4 a5
    have q1 := k.1
    have q2 := k.2.1
    rw [hRc, hRs]
    omega
  cases i <;> simp only [mj_isCall, reduceCtorEq, Option.some.injEq] at hc
  case invokevirtual cc =>
    subst hc
    cases raw <;> simp only [mj_ok, Bool.false_eq_true] at hok
    rename_i j
    have e2 : len = 3 := Nat.eq_of_beq_eq_true hl
    by_cases h4 : cc / 256 < 4
    · rw [if_pos h4] at hok
      simp only [Bool.and_eq_true, decide_eq_true_eq] at hok
      exact bui j (by omega) (by omega) (by rw [if_neg (by omega)]) e2 hok.2
    · rw [if_neg h4] at hok
      subst e2
      obtain ⟨M', hM', hh', hMet⟩ := reg (by omega)
      simp only [hM', Bool.and_eq_true, decide_eq_true_eq, mj_isM] at hok
      obtain ⟨o1, o2⟩ := hok
      split at o2
      case h_2 => cases o2
      rename_i M2 q e1 hq
      cases e1
      simp only [Bool.and_eq_true, decide_eq_true_eq] at o2
      obtain ⟨p1, p2, p3, p4, p5⟩ := o2
      have hne : cc / 256 ≠ 285 := by
        intro e
        rw [e] at hM'
        cases hM'
        exact absurd p4 (by decide +kernel)
      rcases hrv with z | ⟨k0, r, fs, hr, hc0⟩
      · omega
      subst hr
      refine ⟨Nat.le_trans hle.1 k.1, Nat.le_trans hle.2 k.2.1, fun H locs ls a1 a2 a3 a4 a5 => ?_⟩
      obtain ⟨r', g0, cell, g1, g2, g3, -⟩ := a1.2.2 k0 _ hc0 (mj_gbI (mj_cls hq).2.2.2.1)
      have hq' : vwCl[cc % 16]? = some q := by rw [← mj_nth_eq]; exact hq
      have ha : mj_ad D k0 = mj_b D + k0 := mj_ad_l (Nat.lt_of_lt_of_le (mj_nth_lt hc0) (Nat.le_trans (Nat.le_trans hle.1 k.1) hLx))
      have hpre : PreV s H q.1 (mj_ad D k0) (mj_Pc D (.ref k0 :: r) h) (r.map (mj_cv D)) := ⟨mj_blind _, ⟨cell, by rw [ha]; exact g1, by rw [g3]; rfl, by rw [g2]; exact (hSt.2.1 _ _ hq').2.1⟩, fun U hU hW => ⟨rfl, hSt.warm hW, by rw [hU]; exact a1⟩⟩
      have cw := mj_callB (args := args) (h := h) (h1 := h1) hSt rfl (hh' hne) hRf hRl p3
      have hstk : st.map (mj_cv D) = (r.map (mj_cv D)).reverse ++ .ref (mj_ad D k0) :: (st.drop (cc / 16 % 16)).map (mj_cv D) := by
        rw [mj_split hA]
        simp [mj_cv]
      have hrl : (r.map (mj_cv D)).length = cc / 16 % 16 - 1 := by
        simp only [List.length_cons] at hAl
        simp; omega
      refine mj_ofRun (rest := (st.drop (cc / 16 % 16)).map (mj_cv D)) (Qa := mj_Qc D v h1 (Value.ref (mj_ad D k0) :: r.map (mj_cv D)).toArray) (free := mj_A D) ?_ (fun w st₀ t H1 L q0 q1 q2 q3 => mj_behind C hle a1 a2 a3 a4 a5 k w H1 L q2.1 (by rw [← q1]; exact q2.2) q3)
      cases hw : mj_nth lw_tbl wp with
      | none => rw [hw] at o1; cases o1
      | some w0 =>
        rw [hw] at o1
        cases w0 <;> simp only [Bool.false_eq_true] at o1
        · obtain ⟨e1, e2, e3⟩ := of_decide_eq_true o1
          subst e1; subst e2; subst e3
          exact va_runV (Ts := []) (C := q.1) (own := (mj_nm M).cls) (n := cc / 16 % 16 - 1) ⟨hx, hb, hml, hown, fun _ h => by cases h⟩ hMet ⟨⟨cw.1, cw.2.1, cw.2.2.1, cw.2.2.2.1, cw.2.2.2.2.1, cw.2.2.2.2.2.1, cw.2.2.2.2.2.2.1, cw.2.2.2.2.2.2.2.1, cw.2.2.2.2.2.2.2.2.1, cw.2.2.2.2.2.2.2.2.2, hSt.use (mj_nth_mem hw) rfl rfl⟩, hSt.use p4 rfl rfl, hSt.use p5 rfl rfl⟩ hpre rfl hrl a3.1 hstk (hcs _ rfl) hd (hfc H locs ls a1 a2 a3 a4 a5)
        · obtain ⟨e1, e2, e3⟩ := of_decide_eq_true o1
          subst e1; subst e2; subst e3
          exact va_runVN (Ts := []) (C := q.1) (own := (mj_nm M).cls) (n := cc / 16 % 16 - 1) ⟨hx, hb, hml, hown, fun _ h => by cases h⟩ hMet ⟨⟨⟨cw.1, cw.2.1, cw.2.2.1, cw.2.2.2.1, cw.2.2.2.2.1, cw.2.2.2.2.2.1⟩, cw.2.2.2.2.2.2.1, cw.2.2.2.2.2.2.2.1, cw.2.2.2.2.2.2.2.2.1, cw.2.2.2.2.2.2.2.2.2, hSt.use (mj_nth_mem hw) rfl rfl⟩, hSt.use p4 rfl rfl, hSt.use p5 rfl rfl⟩ hpre rfl hrl a3.1 hstk (hcs _ rfl) hd (hfc H locs ls a1 a2 a3 a4 a5)
  case invokestatic cc =>
    subst hc
    cases raw <;> simp only [mj_ok, Bool.false_eq_true] at hok
    rename_i j
    have e2 : len = 3 := Nat.eq_of_beq_eq_true hl
    by_cases h4 : cc / 256 < 4
    · rw [if_pos h4] at hok
      simp only [Bool.and_eq_true, decide_eq_true_eq] at hok
      exact bui j (by omega) (by omega) (by rw [if_pos hok.1.1]) e2 (by rw [hok.1.1]; exact hok.2)
    · rw [if_neg h4] at hok
      subst e2
      obtain ⟨M', hM', hh', hMet⟩ := reg (by omega)
      simp only [hM', Bool.and_eq_true, decide_eq_true_eq, mj_isM] at hok
      obtain ⟨o1, p3, p4⟩ := hok
      have hne : cc / 256 ≠ 285 := by
        intro e
        rw [e] at hM'
        cases hM'
        exact absurd p4 (by decide +kernel)
      refine ⟨Nat.le_trans hle.1 k.1, Nat.le_trans hle.2 k.2.1, fun H locs ls a1 a2 a3 a4 a5 => ?_⟩
      have hpre : PreS s H (mj_Pc D as h) (as.map (mj_cv D)) := ⟨mj_blind _, fun U hU hW => ⟨rfl, hSt.warm hW, by rw [hU]; exact a1⟩⟩
      have cw := mj_callB (args := args) (h := h) (h1 := h1) hSt rfl (hh' hne) hRf hRl p3
      refine mj_ofRun (rest := (st.drop (cc / 16 % 16)).map (mj_cv D)) (Qa := mj_Qc D v h1 (as.map (mj_cv D)).toArray) (free := mj_A D) ?_ (fun w st₀ t H1 L q0 q1 q2 q3 => mj_behind C hle a1 a2 a3 a4 a5 k w H1 L q2.1 (by rw [← q1]; exact q2.2) q3)
      cases hw : mj_nth lw_tbl wp with
      | none => rw [hw] at o1; cases o1
      | some w0 =>
        rw [hw] at o1
        cases w0 <;> simp only [Bool.false_eq_true] at o1
        · obtain ⟨e1, e2, e3⟩ := of_decide_eq_true o1
          subst e1; subst e2; subst e3
          exact va_runS (Ts := []) (own := (mj_nm M).cls) (n := cc / 16 % 16) ⟨hx, hb, hml, hown, fun _ h => by cases h⟩ hMet ⟨⟨cw.1, cw.2.1, cw.2.2.1, cw.2.2.2.1, cw.2.2.2.2.1, cw.2.2.2.2.2.1, cw.2.2.2.2.2.2.1, cw.2.2.2.2.2.2.2.1, cw.2.2.2.2.2.2.2.2.1, cw.2.2.2.2.2.2.2.2.2, hSt.use (mj_nth_mem hw) rfl rfl⟩, hSt.use p4 rfl rfl⟩ hpre rfl (by simpa using hAl) a3.1 (mj_split hA) (hcs _ rfl) hd (hfc H locs ls a1 a2 a3 a4 a5)
        · obtain ⟨e1, e2, e3⟩ := of_decide_eq_true o1
          subst e1; subst e2; subst e3
          exact va_runSN (Ts := []) (own := (mj_nm M).cls) (n := cc / 16 % 16) ⟨hx, hb, hml, hown, fun _ h => by cases h⟩ hMet ⟨⟨⟨cw.1, cw.2.1, cw.2.2.1, cw.2.2.2.1, cw.2.2.2.2.1, cw.2.2.2.2.2.1⟩, cw.2.2.2.2.2.2.1, cw.2.2.2.2.2.2.2.1, cw.2.2.2.2.2.2.2.2.1, cw.2.2.2.2.2.2.2.2.2, hSt.use (mj_nth_mem hw) rfl rfl⟩, hSt.use p4 rfl rfl, trivial⟩ hpre rfl (by simpa using hAl) a3.1 (mj_split hA) (hcs _ rfl) hd (hfc H locs ls a1 a2 a3 a4 a5)
  case invokespecial cc =>
    subst hc
    cases raw <;> simp only [mj_ok, Bool.false_eq_true] at hok
    rename_i j
    have e2 : len = 3 := Nat.eq_of_beq_eq_true hl
    by_cases h4 : cc / 256 < 4
    · rw [if_pos h4] at hok
      simp only [Bool.and_eq_true, decide_eq_true_eq] at hok
      obtain ⟨⟨o0, on⟩, o1⟩ := hok
      subst e2
      rcases hC with hb3 | ⟨M', h5, -⟩
      · rcases hb3 with ⟨-, k0, r1, r2, r3⟩ | ⟨z, -⟩ | ⟨z, -⟩ | ⟨z, -⟩
        · subst r1; subst r2; subst r3
          refine ⟨k.1, k.2.1, fun H locs ls a1 a2 a3 a4 a5 => ?_⟩
          have w := k.2.2 H locs ls a1 a2 a3 a4 a5
          cases hw : mj_nth lw_tbl wp with
          | none => rw [hw] at o1; cases o1
          | some w0 =>
            rw [hw] at o1
            cases w0 <;> simp only [mj_isB, Bool.false_eq_true] at o1
            obtain ⟨e1, e2, e3⟩ := of_decide_eq_true o1
            subst e1; subst e2; subst e3
            have hstk : st.map (mj_cv D) = .ref (mj_ad D k0) :: (st.drop (cc / 16 % 16)).map (mj_cv D) := by
              rw [mj_split hA]
              simp [mj_cv]
            rw [hstk]
            refine W.objInit hx hb hown (hSt.use (mj_nth_mem hw) rfl rfl) (hSt.use mj_oiI rfl rfl) (hSt.use mj_oiC rfl rfl) rfl (a3.1.trans hml.symm) rfl hd (by rw [hRf]; omega) ?_ w
            have := hcs (F0 m pc ls (.ref (mj_ad D k0) :: (st.drop (cc / 16 % 16)).map (mj_cv D))) rfl
            rw [hRl]
            omega
        · omega
        · omega
        · omega
      · omega
    · rw [if_neg h4] at hok
      subst e2
      obtain ⟨M', hM', hh', hMet⟩ := reg (by omega)
      simp only [hM', Bool.and_eq_true, decide_eq_true_eq, mj_isM] at hok
      obtain ⟨o1, ⟨p1, p2, pr⟩, p3, p4⟩ := hok
      have hne : cc / 256 ≠ 285 := by
        intro e
        rw [e] at hM'
        cases hM'
        exact absurd p4 (by decide +kernel)
      obtain ⟨k0, r, hr⟩ := hrv
      subst hr
      refine ⟨Nat.le_trans hle.1 k.1, Nat.le_trans hle.2 k.2.1, fun H locs ls a1 a2 a3 a4 a5 => ?_⟩
      have hpre : PreS s H (mj_Pc D (.ref k0 :: r) h) (.ref (mj_ad D k0) :: r.map (mj_cv D)) := ⟨mj_blind _, fun U hU hW => ⟨rfl, hSt.warm hW, by rw [hU]; exact a1⟩⟩
      have cw := mj_callB (args := args) (h := h) (h1 := h1) hSt pr (hh' hne) hRf hRl p3
      have hstk : st.map (mj_cv D) = (r.map (mj_cv D)).reverse ++ .ref (mj_ad D k0) :: (st.drop (cc / 16 % 16)).map (mj_cv D) := by
        rw [mj_split hA]
        simp [mj_cv]
      have hrl : (r.map (mj_cv D)).length = cc / 16 % 16 - 1 := by
        simp only [List.length_cons] at hAl
        simp; omega
      refine mj_ofRun (rest := (st.drop (cc / 16 % 16)).map (mj_cv D)) (Qa := mj_Qc D v h1 (Value.ref (mj_ad D k0) :: r.map (mj_cv D)).toArray) (free := mj_A D) ?_ (fun w st₀ t H1 L q0 q1 q2 q3 => mj_behind C hle a1 a2 a3 a4 a5 k w H1 L q2.1 (by rw [← q1]; exact q2.2) q3)
      cases hw : mj_nth lw_tbl wp with
      | none => rw [hw] at o1; cases o1
      | some w0 =>
        rw [hw] at o1
        cases w0 <;> simp only [Bool.false_eq_true] at o1
        · obtain ⟨e1, e2, e3⟩ := of_decide_eq_true o1
          subst e1; subst e2; subst e3
          exact va_runI (Ts := []) (own := (mj_nm M).cls) (n := cc / 16 % 16 - 1) ⟨hx, hb, hml, hown, fun _ h => by cases h⟩ hMet ⟨⟨cw.1, cw.2.1, cw.2.2.1, cw.2.2.2.1, cw.2.2.2.2.1, cw.2.2.2.2.2.1, cw.2.2.2.2.2.2.1, cw.2.2.2.2.2.2.2.1, cw.2.2.2.2.2.2.2.2.1, cw.2.2.2.2.2.2.2.2.2, hSt.use (mj_nth_mem hw) rfl rfl⟩, p2, hSt.use p4 rfl rfl⟩ hpre rfl hrl a3.1 hstk (hcs _ rfl) hd (hfc H locs ls a1 a2 a3 a4 a5)
        · obtain ⟨e1, e2, e3⟩ := of_decide_eq_true o1
          subst e1; subst e2; subst e3
          exact va_runIN (Ts := []) (own := (mj_nm M).cls) (n := cc / 16 % 16 - 1) ⟨hx, hb, hml, hown, fun _ h => by cases h⟩ hMet ⟨⟨⟨cw.1, cw.2.1, cw.2.2.1, cw.2.2.2.1, cw.2.2.2.2.1, cw.2.2.2.2.2.1⟩, cw.2.2.2.2.2.2.1, cw.2.2.2.2.2.2.2.1, cw.2.2.2.2.2.2.2.2.1, cw.2.2.2.2.2.2.2.2.2, hSt.use (mj_nth_mem hw) rfl rfl⟩, p2, hSt.use p4 rfl rfl⟩ hpre rfl hrl a3.1 hstk (hcs _ rfl) hd (hfc H locs ls a1 a2 a3 a4 a5)
end MJC
end
section
/-! a body, by its depth; every method's contract -/
section MJB
variable {D : mj_D} {M : mj_M} {p : Program} {l : Launch} {e : Env} {R : Room} {s : State} {m : MethodId} {args : Array Value} {below : List Frame} {meth : Method} {c : Code} {Q : State → Prop} {n0 s0 Lx Sx : Nat}
variable {pc : Nat} {lv : mj_L} {st : List Value} {h : mj_H}
theorem mj_body (hM : mj_okM M = true) (hH : ∀ mid M, 4 ≤ mid → mj_nth mj_ms mid = some M → mid ≠ 285 → mj_hd M) {d : Nat} (IH : ∀ d', d = d' + 1 → mj_Met D l d' ∧ mj_HB D l d') (C : mj_Cx D M p R s m meth c n0 s0 Lx Sx) (hRf : R.frames = d) (hRl : R.locals = 38 * d) {T : Nat → mj_L → List Value → mj_H → Prop}
    (hT : ∀ pc lv st h, T pc lv st h → mj_P D M p l e R s m args below meth c Q n0 s0 Lx Sx pc lv st h) (hg : mj_go (mj_sta D) (mj_Cl (mj_sta D) d) M T pc lv st h) : mj_P D M p l e R s m args below meth c Q n0 s0 Lx Sx pc lv st h := by
  refine hg _ hT (fun pc lv st h x pc' lv' st' h' he hn k => mj_snx hM C he hn k) (fun pc lv st h x cn v h1 he hc hl hr hs hC k => ?_)
  cases d with
  | zero => exact hC.elim
  | succ d' => exact mj_scall hM hH (IH d' rfl).1 (IH d' rfl).2 C hRf hRl he hc hl hr hs hC k
theorem mj_met1 (hok : ∀ mid M, 4 ≤ mid → mj_nth mj_ms mid = some M → mj_okM M = true) (hH : ∀ mid M, 4 ≤ mid → mj_nth mj_ms mid = some M → mid ≠ 285 → mj_hd M) (hpl : ∀ mid M, 4 ≤ mid → mj_nth mj_ms mid = some M → plainName (mj_nm M).cls = true) {d : Nat} (IH : ∀ d', d = d' + 1 → mj_Met D l d' ∧ mj_HB D l d') : mj_Met D l d := by
  intro mid M as h v h' h4 hm hel hg hSB
  refine Met.ofW (cc := mj_bt M) (maxL := mj_mx M) (ret := mj_rt M) (hpl mid M h4 hm) rfl ?_
  intro p e s m args below meth c s₁ B hml hv
  obtain ⟨rfl, hSt, hhp⟩ := hv
  have hown : s.vm.findClass (mj_nm M).cls = some m.cls := findClass_of_methodNamed B.named
  have hnm : meth.name = (mj_nm M).name := (name_of_methodNamed B.named B.method).1
  have hlocks := B.notSynchronized
  have hr := B.returns
  have hle : h.1.length ≤ h'.1.length ∧ h.2 ≤ h'.2 := mj_go_le (mj_Cl_le d) (fun pc lv st h ht => by rw [ht.1]; exact ⟨Nat.le_refl _, Nat.le_refl _⟩) hg
  have C : mj_Cx D M p (headSpec (mj_wd M) (mj_rm d h h')).room s m meth c h.1.length h.2 h'.1.length h'.2 := ⟨B.exec, B.bytes, hml, hown, hnm, hSt, rfl, rfl, hSB, by rw [hhp.1]; exact Nat.le_add_right _ _, hhp.2.1⟩
  have key := mj_body (e := e) (args := (as.map (mj_cv D)).toArray) (below := below) (Q := MQ below (mj_Qc D v h') (as.map (mj_cv D)).toArray s (h'.1.length - h.1.length) (h'.2 - h.2) (mj_A D)) (hok mid M h4 hm) hH IH C rfl rfl (T := mj_ret M v h') (fun pc lv st hh ht => ?_) hg
  · have w := key.2.2 s.heap [] _ hhp va_S.rf (mj_entry as hel) (Nat.le_refl _) (Nat.le_refl _)
    rw [Nat.sub_self, Nat.sub_self] at w
    rw [lg_entry_eq]
    exact w
  · obtain ⟨rfl, x, hx, hi⟩ := ht
    obtain ⟨rfl, hkk⟩ := mj_ent_ok (hok mid M h4 hm) hx
    unfold mj_okE at hkk
    simp only [Bool.and_eq_true] at hkk
    obtain ⟨⟨hl, -⟩, hd0, hko⟩ := hkk
    have hd := of_decide_eq_true hd0
    clear hd0
    obtain ⟨pc, i, len, raw, wp⟩ := x
    dsimp only at hl hd hko hi ⊢
    refine ⟨Nat.le_refl _, Nat.le_refl _, fun H locs ls a1 a2 a3 a4 a5 => ?_⟩
    cases i <;> simp only at hi
    case return_ =>
      have e1 : raw = _ := of_decide_eq_true (by simpa only [mj_ok] using hko); subst e1
      have e2 : len = 1 := Nat.eq_of_beq_eq_true hl; subst e2
      obtain ⟨r1, r2, r3⟩ := hi
      subst r1; subst r2
      exact W.vret B.exec B.bytes (hr.trans r3) (fun t ht _ => ⟨rfl, by rw [ht]; exact a1⟩) a2.2.2 hd
    case ireturn =>
      have e1 : raw = _ := of_decide_eq_true (by simpa only [mj_ok] using hko); subst e1
      have e2 : len = 1 := Nat.eq_of_beq_eq_true hl; subst e2
      obtain ⟨z, ty, r1, r2, r3, r4⟩ := hi
      subst r1; subst r2
      exact W.zret B.exec B.bytes (hr.trans r3) r4 (fun t ht _ => ⟨rfl, by rw [ht]; exact a1⟩) a2.2.2 hd
    case lreturn =>
      have e1 : raw = _ := of_decide_eq_true (by simpa only [mj_ok] using hko); subst e1
      have e2 : len = 1 := Nat.eq_of_beq_eq_true hl; subst e2
      obtain ⟨z, r1, r2, r3⟩ := hi
      subst r1; subst r2
      exact W.lret B.exec B.bytes (hr.trans r3) (fun t ht _ => ⟨rfl, by rw [ht]; exact a1⟩) a2.2.2 hd
    case areturn =>
      have e1 : raw = _ := of_decide_eq_true (by simpa only [mj_ok] using hko); subst e1
      have e2 : len = 1 := Nat.eq_of_beq_eq_true hl; subst e2
      obtain ⟨a, C', r1, r2, r3⟩ := hi
      subst r1; subst r2
      exact W.aret B.exec B.bytes (hr.trans r3) (Or.inl ⟨C', rfl⟩) (Or.inr ⟨_, rfl⟩) (fun t ht _ => ⟨rfl, by rw [ht]; exact a1⟩) a2.2.2 hd
theorem mj_met (hok : ∀ mid M, 4 ≤ mid → mj_nth mj_ms mid = some M → mj_okM M = true) (hH : ∀ mid M, 4 ≤ mid → mj_nth mj_ms mid = some M → mid ≠ 285 → mj_hd M) (hpl : ∀ mid M, 4 ≤ mid → mj_nth mj_ms mid = some M → plainName (mj_nm M).cls = true) (hB : ∀ d, mj_Met D l d → (∀ d', d = d' + 1 → mj_HB D l d') → mj_HB D l d) : ∀ d, mj_Met D l d ∧ mj_HB D l d
  | 0 => by
    have h := mj_met1 (D := D) (l := l) hok hH hpl (d := 0) (fun d' e => by cases e)
    exact ⟨h, hB 0 h (fun d' e => by cases e)⟩
  | d + 1 => by
    have ih := mj_met hok hH hpl hB d
    have h := mj_met1 (D := D) (l := l) hok hH hpl (d := d + 1) (fun d' e => by cases e; exact ih)
    exact ⟨h, hB (d + 1) h (fun d' e => by cases e; exact ih.2)⟩
end MJB
end
section
/-! plain facts on numbers and arrays, to paste: each family by itself; over the kit's rows on nI and upd -/
/-! ===== order of ints, in all its forms, and through longs ===== -/
theorem fa_lt (a b : Int32) : a < b ↔ a.toInt < b.toInt := Int32.lt_iff_toInt_lt
theorem fa_le (a b : Int32) : a ≤ b ↔ a.toInt ≤ b.toInt := Int32.le_iff_toInt_le
theorem fa_eq (a b : Int32) : a = b ↔ a.toInt = b.toInt := Int32.toInt_inj.symm
theorem fa_lt64 (a b : Int64) : a < b ↔ a.toInt < b.toInt := Int64.lt_iff_toInt_lt
theorem fa_le64 (a b : Int64) : a ≤ b ↔ a.toInt ≤ b.toInt := Int64.le_iff_toInt_le
theorem fa_eq64 (a b : Int64) : a = b ↔ a.toInt = b.toInt := Int64.toInt_inj.symm
/-- a comparison of two ints taken as longs -/
theorem fa_wide_lt (a b : Int32) : a.toInt64 < b.toInt64 ↔ a < b := by rw [fa_lt64, fa_lt, Int32.toInt_toInt64, Int32.toInt_toInt64]
theorem fa_wide_le (a b : Int32) : a.toInt64 ≤ b.toInt64 ↔ a ≤ b := by rw [fa_le64, fa_le, Int32.toInt_toInt64, Int32.toInt_toInt64]
theorem fa_wide_eq (a b : Int32) : a.toInt64 = b.toInt64 ↔ a = b := by rw [fa_eq64, fa_eq, Int32.toInt_toInt64, Int32.toInt_toInt64]
/-- one strict comparison gives all the others -/
theorem fa_of_lt {a b : Int32} (h : a < b) : a ≤ b ∧ ¬ b ≤ a ∧ ¬ b < a ∧ a ≠ b ∧ b ≠ a := by
  rw [fa_lt] at h
  refine ⟨?_, ?_, ?_, ?_, ?_⟩
  · rw [fa_le]; omega
  · rw [fa_le]; omega
  · rw [fa_lt]; omega
  · intro e; rw [fa_eq] at e; omega
  · intro e; rw [fa_eq] at e; omega
theorem fa_of_nlt {a b : Int32} (h : ¬ a < b) : b ≤ a := by
  rw [fa_lt] at h
  rw [fa_le]
  omega
theorem fa_of_nle {a b : Int32} (h : ¬ a ≤ b) : b < a := by
  rw [fa_le] at h
  rw [fa_lt]
  omega
theorem fa_le_ne {a b : Int32} (h : a ≤ b) (h2 : a ≠ b) : a < b := by
  rw [fa_le] at h
  rw [fa_lt]
  have h3 : a.toInt ≠ b.toInt := fun e => h2 ((fa_eq a b).mpr e)
  omega
theorem fa_three (a b : Int32) : a < b ∨ a = b ∨ b < a := by
  rw [fa_lt, fa_lt, fa_eq]
  omega
theorem fa_trans {a b c : Int32} (h : a < b) (h2 : b ≤ c) : a < c := by
  rw [fa_lt] at *
  rw [fa_le] at h2
  omega
/-! ===== small literals as numbers ===== -/
theorem fa_lit (n : Nat) : (OfNat.ofNat n : Int32) = nI n := rfl
theorem fa_litL (n : Nat) : (OfNat.ofNat n : Int64) = lN n := rfl
/-! ===== bits of a number: 'or', masks, one bit ===== -/
theorem fa_and (a b : Nat) : nI a &&& nI b = nI (a &&& b) := by
  apply Int32.toBitVec_inj.1
  show BitVec.ofNat 32 a &&& BitVec.ofNat 32 b = BitVec.ofNat 32 (a &&& b)
  apply BitVec.eq_of_getLsbD_eq
  intro i hi
  simp [hi]
theorem fa_or (a b : Nat) : nI a ||| nI b = nI (a ||| b) := by
  apply Int32.toBitVec_inj.1
  show BitVec.ofNat 32 a ||| BitVec.ofNat 32 b = BitVec.ofNat 32 (a ||| b)
  apply BitVec.eq_of_getLsbD_eq
  intro i hi
  simp [hi]
/-- a remainder by a power of two, as a mask -/
theorem fa_mask (n k : Nat) : nI n &&& nI (2 ^ k - 1) = nI (n % 2 ^ k) := by rw [fa_and, Nat.and_two_pow_sub_one_eq_mod]
/-- 'or' of a high part and a low one that don't meet is their sum -/
theorem fa_or_sum {a k : Nat} (b : Nat) (h : a < 2 ^ k) : nI (2 ^ k * b) ||| nI a = nI (2 ^ k * b + a) := by rw [fa_or, Nat.two_pow_add_eq_or_of_lt h]
/-- one bit, by 'and' with a power of two -/
theorem fa_bit {n j : Nat} (hj : j < 31) : nI n &&& nI (2 ^ j) = 0 ↔ n.testBit j = false := by
  have h2 : (2 : Nat) ^ j < 2 ^ 31 := Nat.pow_lt_pow_right (by decide) hj
  have hle : n &&& 2 ^ j ≤ 2 ^ j := Nat.and_le_right
  have e : n &&& 2 ^ j = 0 ↔ n.testBit j = false := by
    constructor
    · intro h
      have h1 : (n &&& 2 ^ j).testBit j = false := by rw [h]; simp
      rw [Nat.testBit_and] at h1
      first | simpa using h1 | simpa [Nat.testBit_two_pow_self] using h1 | simpa [Nat.testBit_two_pow] using h1
    · intro h
      apply Nat.eq_of_testBit_eq
      intro i
      rw [Nat.testBit_and]
      by_cases hi : j = i
      · subst hi; simp [h]
      · first | (simp [Nat.testBit_two_pow, hi]; done) | (simp [Nat.testBit_two_pow_of_ne hi]; done)
  rw [fa_and]
  constructor
  · intro h
    apply e.mp
    rcases Nat.eq_zero_or_pos (n &&& 2 ^ j) with z | z
    · exact z
    · exact absurd h (nI_ne0 z (Nat.lt_of_le_of_lt hle h2))
  · intro h
    rw [e.mpr h]; exact nI_0
/-- a remainder by a power of two of a number that isn't negative, as Java divides -/
theorem fa_rem {a k : Nat} (ha : a < 2 ^ 31) (hk : k < 31) : nI a - nI a / nI (2 ^ k) * nI (2 ^ k) = nI (a % 2 ^ k) := pk_rem ha (Nat.two_pow_pos k) (Nat.pow_lt_pow_right (by decide) hk)
/-! ===== cuts to a byte, a short ===== -/
theorem fa_byte_xor (x y : Int32) : (x ^^^ y).toInt8 = x.toInt8 ^^^ y.toInt8 := by
  apply Int8.toBitVec_inj.1
  apply BitVec.eq_of_getLsbD_eq
  intro i hi
  first | (simp [hi]; done) | (simp [hi, BitVec.getLsbD_setWidth, BitVec.getLsbD_signExtend]; done)
theorem fa_short_xor (x y : Int32) : (x ^^^ y).toInt16 = x.toInt16 ^^^ y.toInt16 := by
  apply Int16.toBitVec_inj.1
  apply BitVec.eq_of_getLsbD_eq
  intro i hi
  first | (simp [hi]; done) | (simp [hi, BitVec.getLsbD_setWidth, BitVec.getLsbD_signExtend]; done)
/-- the cut to a byte sees the low byte alone -/
theorem fa_byte_low (x : Int32) : (x &&& 255).toInt8 = x.toInt8 := by
  apply Int8.toBitVec_inj.1
  apply BitVec.eq_of_getLsbD_eq
  intro i hi
  have h2 : (255 : Int32).toBitVec.getLsbD i = true := by
    have : ∀ j : Fin 8, (255 : Int32).toBitVec.getLsbD j.val = true := by decide +kernel
    exact this ⟨i, hi⟩
  have h4 : (x &&& 255).toBitVec.getLsbD i = x.toBitVec.getLsbD i := by
    show (x.toBitVec &&& (255 : Int32).toBitVec).getLsbD i = _
    rw [BitVec.getLsbD_and, h2, Bool.and_true]
  have h3 : i < 32 := by omega
  first
    | (show (((x &&& 255).toBitVec).signExtend 8).getLsbD i = (x.toBitVec.signExtend 8).getLsbD i; rw [BitVec.getLsbD_signExtend, BitVec.getLsbD_signExtend, if_pos h3, if_pos h3, h4])
    | (show (((x &&& 255).toBitVec).setWidth 8).getLsbD i = (x.toBitVec.setWidth 8).getLsbD i; rw [BitVec.getLsbD_setWidth, BitVec.getLsbD_setWidth, h4])
    | (simp [hi, h3, h4]; done)
theorem fa_short_low (x : Int32) : (x &&& 65535).toInt16 = x.toInt16 := by
  apply Int16.toBitVec_inj.1
  apply BitVec.eq_of_getLsbD_eq
  intro i hi
  have h2 : (65535 : Int32).toBitVec.getLsbD i = true := by
    have : ∀ j : Fin 16, (65535 : Int32).toBitVec.getLsbD j.val = true := by decide +kernel
    exact this ⟨i, hi⟩
  have h4 : (x &&& 65535).toBitVec.getLsbD i = x.toBitVec.getLsbD i := by
    show (x.toBitVec &&& (65535 : Int32).toBitVec).getLsbD i = _
    rw [BitVec.getLsbD_and, h2, Bool.and_true]
  have h3 : i < 32 := by omega
  first
    | (show (((x &&& 65535).toBitVec).signExtend 16).getLsbD i = (x.toBitVec.signExtend 16).getLsbD i; rw [BitVec.getLsbD_signExtend, BitVec.getLsbD_signExtend, if_pos h3, if_pos h3, h4])
    | (show (((x &&& 65535).toBitVec).setWidth 16).getLsbD i = (x.toBitVec.setWidth 16).getLsbD i; rw [BitVec.getLsbD_setWidth, BitVec.getLsbD_setWidth, h4])
    | (simp [hi, h3, h4]; done)
/-- a small number is its own byte, its own short -/
theorem fa_byte_small {n : Nat} (h : n < 128) : (nI n).toInt8.toInt32 = nI n := by
  have : ∀ j : Fin 128, (nI j.val).toInt8.toInt32 = nI j.val := by decide +kernel
  exact this ⟨n, h⟩
/-! ===== absolute difference ===== -/
theorem fa_absdiff {a b : Nat} (ha : a < 2 ^ 31) (hb : b < 2 ^ 31) : (if nI a < nI b then nI b - nI a else nI a - nI b) = nI (if a < b then b - a else a - b) := by
  by_cases h : a < b
  · rw [if_pos (nI_lt h hb), if_pos h]
    exact pk_sub (Nat.le_of_lt h)
  · rw [if_neg (nI_nlt (Nat.le_of_not_lt h) ha), if_neg h]
    exact pk_sub (Nat.le_of_not_lt h)
/-! ===== an array behind i stores, a conditional store, a row copied ===== -/
/-- f where k < i, what stood there else -/
def fa_fill {α : Type} (f g : Nat → α) (i : Nat) : Nat → α := fun k => if k < i then f k else g k
theorem fa_fill_0 {α : Type} (f g : Nat → α) : fa_fill f g 0 = g := funext fun k => if_neg (Nat.not_lt_zero k)
theorem fa_fill_in {α : Type} {f g : Nat → α} {i k : Nat} (h : k < i) : fa_fill f g i k = f k := if_pos h
theorem fa_fill_out {α : Type} {f g : Nat → α} {i k : Nat} (h : i ≤ k) : fa_fill f g i k = g k := if_neg (Nat.not_lt.mpr h)
theorem fa_fill_succ (f g : Nat → Int32) (i : Nat) : upd (fa_fill f g i) i (f i) = fa_fill f g (i + 1) := by
  funext k
  by_cases e : k = i
  · subst e
    rw [pk_us]
    exact (if_pos (Nat.lt_succ_self k)).symm
  · rw [pk_un e]
    by_cases h : k < i
    · rw [fa_fill_in h, fa_fill_in (Nat.lt_succ_of_lt h)]
    · rw [fa_fill_out (Nat.le_of_not_lt h), fa_fill_out (by omega)]
/-- a store that changes nothing -/
theorem fa_upd_same {f : Nat → Int32} {i : Nat} {x : Int32} (h : f i = x) : upd f i x = f := by
  funext k
  by_cases e : k = i
  · subst e
    rw [pk_us, h]
  · rw [pk_un e]
/-- a store under a condition, told as one -/
theorem fa_upd_if (c : Prop) [Decidable c] (f : Nat → Int32) (i : Nat) (x : Int32) : (if c then upd f i x else f) = upd f i (if c then x else f i) := by
  by_cases h : c
  · rw [if_pos h, if_pos h]
  · rw [if_neg h, if_neg h, fa_upd_same rfl]
/-- two stores at one place, at two -/
theorem fa_upd_twice (f : Nat → Int32) (i : Nat) (x y : Int32) : upd (upd f i x) i y = upd f i y := by
  funext k
  by_cases e : k = i
  · subst e
    rw [pk_us, pk_us]
  · rw [pk_un e, pk_un e, pk_un e]
theorem fa_upd_swap (f : Nat → Int32) {i j : Nat} (h : i ≠ j) (x y : Int32) : upd (upd f i x) j y = upd (upd f j y) i x := by
  funext k
  by_cases e : k = i
  · subst e
    rw [pk_un h, pk_us, pk_us]
  · by_cases e2 : k = j
    · subst e2
      rw [pk_us, pk_un e, pk_us]
    · rw [pk_un e2, pk_un e, pk_un e, pk_un e2]
/-! ===== the first index with a property; a count ===== -/
/-- the first k < n with p k, n if there is none -/
def fa_first (p : Nat → Bool) : Nat → Nat
  | 0 => 0
  | n + 1 => if fa_first p n < n then fa_first p n else if p n then n else n + 1
theorem fa_first_le (p : Nat → Bool) : ∀ n, fa_first p n ≤ n
  | 0 => Nat.le_refl 0
  | n + 1 => by
    have ih := fa_first_le p n
    unfold fa_first
    split
    · omega
    · split
      · omega
      · omega
theorem fa_first_no (p : Nat → Bool) : ∀ n k, k < fa_first p n → p k = false
  | 0, k, h => absurd h (Nat.not_lt_zero k)
  | n + 1, k, h => by
    have ih := fa_first_no p n
    have hl := fa_first_le p n
    unfold fa_first at h
    split at h
    · exact ih k h
    · rename_i h1
      split at h
      · exact ih k (by omega)
      · rename_i h2
        by_cases e : k = n
        · subst e
          exact Bool.eq_false_iff.mpr h2
        · exact ih k (by omega)
theorem fa_first_yes (p : Nat → Bool) : ∀ n, fa_first p n < n → p (fa_first p n) = true
  | 0, h => absurd h (Nat.not_lt_zero _)
  | n + 1, h => by
    have ih := fa_first_yes p n
    have hl := fa_first_le p n
    unfold fa_first at h ⊢
    split at h
    · rename_i h1
      rw [if_pos h1]
      exact ih h1
    · rename_i h1
      rw [if_neg h1]
      split at h
      · rename_i h2
        rw [if_pos h2]
        exact h2
      · omega
/-- how many k < n have p k -/
def fa_cnt (p : Nat → Bool) : Nat → Nat
  | 0 => 0
  | n + 1 => fa_cnt p n + if p n then 1 else 0
theorem fa_cnt_le (p : Nat → Bool) : ∀ n, fa_cnt p n ≤ n
  | 0 => Nat.le_refl 0
  | n + 1 => by
    have ih := fa_cnt_le p n
    unfold fa_cnt
    split
    · omega
    · omega
theorem fa_cnt_yes {p : Nat → Bool} {n : Nat} (h : p n = true) : fa_cnt p (n + 1) = fa_cnt p n + 1 := by rw [fa_cnt, if_pos h]
theorem fa_cnt_no {p : Nat → Bool} {n : Nat} (h : p n = false) : fa_cnt p (n + 1) = fa_cnt p n := by rw [fa_cnt, if_neg (by rw [h]; decide)]; rfl
theorem fa_cnt_cong {p q : Nat → Bool} : ∀ {n : Nat}, (∀ k, k < n → p k = q k) → fa_cnt p n = fa_cnt q n
  | 0, _ => rfl
  | n + 1, h => by rw [fa_cnt, fa_cnt, fa_cnt_cong (fun k hk => h k (Nat.lt_succ_of_lt hk)), h n (Nat.lt_succ_self n)]
/-! ===== an answer carried into a post; a branch on a boolean answer ===== -/
theorem fa_post {α : Type} {P : α → Prop} {x y : α} (h : x = y) (hp : P y) : P x := h ▸ hp
theorem fa_post2 {α β : Type} {P : α → β → Prop} {x y : α} {u v : β} (h : x = y) (h2 : u = v) (hp : P y v) : P x u := h ▸ h2 ▸ hp
theorem fa_bool {r : Int32} {b : Bool} (h : r = if b then 1 else 0) : (r = 0 ↔ b = false) ∧ (¬ r = 0 ↔ b = true) := by
  subst h
  cases b
  · exact ⟨⟨fun _ => rfl, fun _ => rfl⟩, ⟨fun h => absurd rfl h, fun h => absurd h (by decide)⟩⟩
  · exact ⟨⟨fun h => absurd h (by decide), fun h => absurd h (by decide)⟩, ⟨fun _ => rfl, fun _ => by decide⟩⟩
/-- a boolean's narrowing changes nothing -/
theorem fa_bool_and {r : Int32} (h : r = 0 ∨ r = 1) : r &&& 1 = r := by
  rcases h with rfl | rfl
  · decide
  · decide
theorem fa_bool_prop {c : Prop} [Decidable c] {r : Int32} (h : r = if c then 1 else 0) : (r = 0 ↔ ¬ c) ∧ (¬ r = 0 ↔ c) := by
  subst h
  by_cases hc : c
  · rw [if_pos hc]
    exact ⟨⟨fun h => absurd h (by decide), fun h => absurd hc h⟩, ⟨fun _ => hc, fun _ => by decide⟩⟩
  · rw [if_neg hc]
    exact ⟨⟨fun _ => hc, fun _ => rfl⟩, ⟨fun h => absurd rfl h, fun h => absurd h hc⟩⟩
/-! plain facts to paste, each family by itself; over the kit's nI, lN and upd -/
/-! ===== drawers: more things than places ===== -/
theorem fb_holes : ∀ (m n : Nat) (f : Nat → Nat), (∀ i, i < n → f i < m) → (∀ i j, i < j → j < n → f i ≠ f j) → n ≤ m := by
  intro m
  induction m with
  | zero =>
    intro n f h1 _
    rcases Nat.eq_zero_or_pos n with h | h
    · omega
    · exact absurd (h1 0 h) (Nat.not_lt_zero _)
  | succ m ih =>
    intro n f h1 h2
    by_cases hx : ∃ i, i < n ∧ f i = m
    · obtain ⟨a, ha, hfa⟩ := hx
      have hg := ih (n - 1) (fun i => if i < a then f i else f (i + 1)) (by
        intro i hi
        by_cases q : i < a
        · simp only [if_pos q]
          have b1 := h1 i (by omega)
          have b2 := h2 i a q ha
          omega
        · simp only [if_neg q]
          have b1 := h1 (i + 1) (by omega)
          have b2 := h2 a (i + 1) (by omega) (by omega)
          omega) (by
        intro i j hij hj
        by_cases q : i < a
        · by_cases r : j < a
          · simp only [if_pos q, if_pos r]
            exact h2 i j hij (by omega)
          · simp only [if_pos q, if_neg r]
            exact h2 i (j + 1) (by omega) (by omega)
        · have r : ¬ j < a := by omega
          simp only [if_neg q, if_neg r]
          exact h2 (i + 1) (j + 1) (by omega) (by omega))
      omega
    · have hg := ih n f (fun i hi => by
        have b1 := h1 i hi
        have b2 : f i ≠ m := fun e => hx ⟨i, hi, e⟩
        omega) h2
      omega
/-- two of them in one place -/
theorem fb_twice {m n : Nat} {f : Nat → Nat} (h : ∀ i, i < n → f i < m) (hm : m < n) : ∃ i j, i < j ∧ j < n ∧ f i = f j := by
  refine Classical.byContradiction fun hx => ?_
  have := fb_holes m n f h (fun i j hij hj e => hx ⟨i, j, hij, hj, e⟩)
  omega
/-- as many as places, none twice: each place is taken -/
theorem fb_onto {n : Nat} {f : Nat → Nat} (h : ∀ i, i < n → f i < n) (h2 : ∀ i j, i < j → j < n → f i ≠ f j) {y : Nat} (hy : y < n) : ∃ i, i < n ∧ f i = y := by
  refine Classical.byContradiction fun hx => ?_
  have hne : ∀ i, i < n → f i ≠ y := fun i hi e => hx ⟨i, hi, e⟩
  have := fb_holes (n - 1) n (fun i => if f i < y then f i else f i - 1) (by
    intro i hi
    have b1 := h i hi
    have b2 := hne i hi
    by_cases q : f i < y
    · simp only [if_pos q]; omega
    · simp only [if_neg q]; omega) (by
    intro i j hij hj
    have b1 := hne i (by omega)
    have b2 := hne j hj
    have b3 := h2 i j hij hj
    by_cases q : f i < y
    · by_cases r : f j < y
      · simp only [if_pos q, if_pos r]; exact b3
      · simp only [if_pos q, if_neg r]; omega
    · by_cases r : f j < y
      · simp only [if_neg q, if_pos r]; omega
      · simp only [if_neg q, if_neg r]; omega)
  omega
/-! ===== how many places have a property ===== -/
def fb_ct (p : Nat → Bool) : Nat → Nat
  | 0 => 0
  | n + 1 => fb_ct p n + (if p n then 1 else 0)
theorem fb_ct_succ (p : Nat → Bool) (n : Nat) : fb_ct p (n + 1) = fb_ct p n + (if p n then 1 else 0) := rfl
theorem fb_ct_le (p : Nat → Bool) : ∀ n, fb_ct p n ≤ n
  | 0 => Nat.le_refl _
  | n + 1 => by
    have h := fb_ct_le p n
    rw [fb_ct_succ]
    split <;> omega
theorem fb_ct_step (p : Nat → Bool) (m : Nat) : ∀ n, fb_ct p m ≤ fb_ct p (m + n)
  | 0 => Nat.le_refl _
  | n + 1 => by
    have h := fb_ct_step p m n
    show fb_ct p m ≤ fb_ct p (m + n + 1)
    rw [fb_ct_succ]
    omega
theorem fb_ct_mono (p : Nat → Bool) {m n : Nat} (h : m ≤ n) : fb_ct p m ≤ fb_ct p n := by
  have := fb_ct_step p m (n - m)
  rwa [Nat.add_sub_cancel' h] at this
theorem fb_ct_cong {p q : Nat → Bool} : ∀ {n : Nat}, (∀ k, k < n → p k = q k) → fb_ct p n = fb_ct q n
  | 0, _ => rfl
  | n + 1, h => by
    rw [fb_ct_succ, fb_ct_succ, fb_ct_cong (fun k hk => h k (by omega)), h n (by omega)]
/-- one place changed -/
theorem fb_ct_out (p : Nat → Bool) (b : Bool) {i n : Nat} (h : n ≤ i) : fb_ct (fun k => if k = i then b else p k) n = fb_ct p n :=
  fb_ct_cong fun k hk => if_neg (by omega)
theorem fb_ct_upd (p : Nat → Bool) (b : Bool) {i : Nat} : ∀ {n : Nat}, i < n → fb_ct (fun k => if k = i then b else p k) n + (if p i then 1 else 0) = fb_ct p n + (if b then 1 else 0)
  | 0, h => absurd h (Nat.not_lt_zero i)
  | n + 1, h => by
    rw [fb_ct_succ, fb_ct_succ]
    rcases Nat.lt_or_ge i n with q | q
    · have := fb_ct_upd p b q
      have e : (if n = i then b else p n) = p n := if_neg (by omega)
      rw [e]
      omega
    · have e : i = n := by omega
      subst e
      rw [fb_ct_out p b (Nat.le_refl _)]
      simp only [if_true]
      omega
theorem fb_ct_sub {p q : Nat → Bool} : ∀ {n : Nat}, (∀ k, k < n → p k = true → q k = true) → fb_ct p n ≤ fb_ct q n
  | 0, _ => Nat.le_refl _
  | n + 1, h => by
    have h1 := fb_ct_sub (n := n) (p := p) (q := q) (fun k hk => h k (by omega))
    have h2 := h n (by omega)
    rw [fb_ct_succ, fb_ct_succ]
    cases hp : p n <;> cases hq : q n <;> simp_all <;> omega
theorem fb_ct_or {p q : Nat → Bool} : ∀ {n : Nat}, (∀ k, k < n → ¬ (p k = true ∧ q k = true)) → fb_ct (fun k => p k || q k) n = fb_ct p n + fb_ct q n
  | 0, _ => rfl
  | n + 1, h => by
    have h1 := fb_ct_or (n := n) (p := p) (q := q) (fun k hk => h k (by omega))
    have h2 := h n (by omega)
    rw [fb_ct_succ, fb_ct_succ, fb_ct_succ, h1]
    cases hp : p n <;> cases hq : q n <;> simp_all <;> omega
theorem fb_ct_not (p : Nat → Bool) : ∀ n, fb_ct p n + fb_ct (fun k => !p k) n = n
  | 0 => rfl
  | n + 1 => by
    have h := fb_ct_not p n
    rw [fb_ct_succ, fb_ct_succ]
    cases p n <;> simp <;> omega
theorem fb_ct_split (p : Nat → Bool) (m : Nat) : ∀ n, fb_ct p (m + n) = fb_ct p m + fb_ct (fun k => p (m + k)) n
  | 0 => rfl
  | n + 1 => by
    have h := fb_ct_split p m n
    show fb_ct p (m + n + 1) = _
    rw [fb_ct_succ, fb_ct_succ, h, Nat.add_assoc]
theorem fb_ct_zero {p : Nat → Bool} : ∀ {n : Nat}, fb_ct p n = 0 ↔ ∀ k, k < n → p k = false
  | 0 => ⟨fun _ k hk => absurd hk (Nat.not_lt_zero k), fun _ => rfl⟩
  | n + 1 => by
    have h := fb_ct_zero (p := p) (n := n)
    rw [fb_ct_succ]
    constructor
    · intro e k hk
      have e1 : fb_ct p n = 0 := by omega
      rcases Nat.lt_or_ge k n with q | q
      · exact h.mp e1 k q
      · have ek : k = n := by omega
        subst ek
        cases hp : p k
        · rfl
        · simp [hp] at e
    · intro a
      rw [h.mpr (fun k hk => a k (by omega)), a n (by omega)]
      rfl
theorem fb_ct_pos {p : Nat → Bool} {n : Nat} : 0 < fb_ct p n ↔ ∃ k, k < n ∧ p k = true := by
  constructor
  · intro h
    refine Classical.byContradiction fun hx => ?_
    have := fb_ct_zero.mpr (fun k hk => by
      cases hp : p k
      · rfl
      · exact absurd ⟨k, hk, hp⟩ hx : ∀ k, k < n → p k = false)
    omega
  · rintro ⟨k, hk, hp⟩
    rcases Nat.eq_zero_or_pos (fb_ct p n) with e | e
    · have := fb_ct_zero.mp e k hk
      rw [this] at hp
      cases hp
    · exact e
theorem fb_ct_all {p : Nat → Bool} {n : Nat} : fb_ct p n = n ↔ ∀ k, k < n → p k = true := by
  have h := fb_ct_not p n
  constructor
  · intro e k hk
    have z : fb_ct (fun k => !p k) n = 0 := by omega
    have := fb_ct_zero.mp z k hk
    cases hp : p k
    · simp [hp] at this
    · rfl
  · intro a
    have z : fb_ct (fun k => !p k) n = 0 := fb_ct_zero.mpr (fun k hk => by simp [a k hk])
    omega
/-- the k-th place with the property -/
theorem fb_ct_kth {p : Nat → Bool} {k : Nat} : ∀ {n : Nat}, k < fb_ct p n → ∃ i, i < n ∧ p i = true ∧ fb_ct p i = k
  | 0, h => absurd h (Nat.not_lt_zero k)
  | n + 1, h => by
    rcases Nat.lt_or_ge k (fb_ct p n) with q | q
    · obtain ⟨i, h1, h2⟩ := fb_ct_kth q
      exact ⟨i, by omega, h2⟩
    · rw [fb_ct_succ] at h
      cases hp : p n
      · simp [hp] at h; omega
      · simp [hp] at h
        exact ⟨n, by omega, hp, by omega⟩
theorem fb_ct_kth_one {p : Nat → Bool} {i j : Nat} (hi : p i = true) (hj : p j = true) (e : fb_ct p i = fb_ct p j) : i = j := by
  have key : ∀ a b : Nat, a < b → p a = true → fb_ct p a < fb_ct p b := by
    intro a b hab ha
    have h := fb_ct_mono p (show a + 1 ≤ b from hab)
    rw [fb_ct_succ, ha] at h
    simp at h
    omega
  rcases Nat.lt_trichotomy i j with q | q | q
  · have := key i j q hi; omega
  · exact q
  · have := key j i q hj; omega
/-! ===== sums over a range: one place changed, parts, bounds ===== -/
def fb_sm (f : Nat → Nat) : Nat → Nat
  | 0 => 0
  | n + 1 => fb_sm f n + f n
theorem fb_sm_succ (f : Nat → Nat) (n : Nat) : fb_sm f (n + 1) = fb_sm f n + f n := rfl
theorem fb_sm_cong {f g : Nat → Nat} : ∀ {n : Nat}, (∀ k, k < n → f k = g k) → fb_sm f n = fb_sm g n
  | 0, _ => rfl
  | n + 1, h => by rw [fb_sm_succ, fb_sm_succ, fb_sm_cong (fun k hk => h k (by omega)), h n (by omega)]
theorem fb_sm_out (f : Nat → Nat) (v : Nat) {i n : Nat} (h : n ≤ i) : fb_sm (fun k => if k = i then v else f k) n = fb_sm f n :=
  fb_sm_cong fun k hk => if_neg (by omega)
theorem fb_sm_upd (f : Nat → Nat) (v : Nat) {i : Nat} : ∀ {n : Nat}, i < n → fb_sm (fun k => if k = i then v else f k) n + f i = fb_sm f n + v
  | 0, h => absurd h (Nat.not_lt_zero i)
  | n + 1, h => by
    rw [fb_sm_succ, fb_sm_succ]
    rcases Nat.lt_or_ge i n with q | q
    · have := fb_sm_upd f v q
      have e : (if n = i then v else f n) = f n := if_neg (by omega)
      rw [e]
      omega
    · have e : i = n := by omega
      subst e
      rw [fb_sm_out f v (Nat.le_refl _)]
      simp only [if_true]
      omega
theorem fb_sm_add (f g : Nat → Nat) : ∀ n, fb_sm (fun k => f k + g k) n = fb_sm f n + fb_sm g n
  | 0 => rfl
  | n + 1 => by
    have h := fb_sm_add f g n
    rw [fb_sm_succ, fb_sm_succ, fb_sm_succ, h]
    omega
theorem fb_sm_le {f g : Nat → Nat} : ∀ {n : Nat}, (∀ k, k < n → f k ≤ g k) → fb_sm f n ≤ fb_sm g n
  | 0, _ => Nat.le_refl _
  | n + 1, h => by
    have h1 := fb_sm_le (n := n) (f := f) (g := g) (fun k hk => h k (by omega))
    have h2 := h n (by omega)
    rw [fb_sm_succ, fb_sm_succ]
    omega
theorem fb_sm_const (c : Nat) : ∀ n, fb_sm (fun _ => c) n = n * c
  | 0 => by rw [Nat.zero_mul]; rfl
  | n + 1 => by rw [fb_sm_succ, fb_sm_const c n, Nat.succ_mul]
theorem fb_sm_bound {f : Nat → Nat} {c n : Nat} (h : ∀ k, k < n → f k ≤ c) : fb_sm f n ≤ n * c := by
  rw [← fb_sm_const c n]
  exact fb_sm_le h
theorem fb_sm_mono (f : Nat → Nat) (m : Nat) : ∀ n, fb_sm f m ≤ fb_sm f (m + n)
  | 0 => Nat.le_refl _
  | n + 1 => by
    have h := fb_sm_mono f m n
    show fb_sm f m ≤ fb_sm f (m + n + 1)
    rw [fb_sm_succ]
    omega
theorem fb_sm_part (f : Nat → Nat) {i n : Nat} (h : i < n) : fb_sm f i + f i ≤ fb_sm f n := by
  have := fb_sm_mono f (i + 1) (n - (i + 1))
  rw [fb_sm_succ, show i + 1 + (n - (i + 1)) = n by omega] at this
  exact this
theorem fb_sm_split (f : Nat → Nat) (m : Nat) : ∀ n, fb_sm f (m + n) = fb_sm f m + fb_sm (fun k => f (m + k)) n
  | 0 => rfl
  | n + 1 => by
    have h := fb_sm_split f m n
    show fb_sm f (m + n + 1) = _
    rw [fb_sm_succ, fb_sm_succ, h, Nat.add_assoc]
theorem fb_sm_zero {f : Nat → Nat} {n : Nat} (h : fb_sm f n = 0) : ∀ k, k < n → f k = 0 := fun k hk => by
  have := fb_sm_part f hk
  omega
/-- the same over whole numbers -/
def fb_si (f : Nat → Int) : Nat → Int
  | 0 => 0
  | n + 1 => fb_si f n + f n
theorem fb_si_succ (f : Nat → Int) (n : Nat) : fb_si f (n + 1) = fb_si f n + f n := rfl
theorem fb_si_cong {f g : Nat → Int} : ∀ {n : Nat}, (∀ k, k < n → f k = g k) → fb_si f n = fb_si g n
  | 0, _ => rfl
  | n + 1, h => by rw [fb_si_succ, fb_si_succ, fb_si_cong (fun k hk => h k (by omega)), h n (by omega)]
theorem fb_si_out (f : Nat → Int) (v : Int) {i n : Nat} (h : n ≤ i) : fb_si (fun k => if k = i then v else f k) n = fb_si f n :=
  fb_si_cong fun k hk => if_neg (by omega)
theorem fb_si_upd (f : Nat → Int) (v : Int) {i : Nat} : ∀ {n : Nat}, i < n → fb_si (fun k => if k = i then v else f k) n = fb_si f n - f i + v
  | 0, h => absurd h (Nat.not_lt_zero i)
  | n + 1, h => by
    rw [fb_si_succ, fb_si_succ]
    rcases Nat.lt_or_ge i n with q | q
    · have := fb_si_upd f v q
      have e : (if n = i then v else f n) = f n := if_neg (by omega)
      rw [e]
      omega
    · have e : i = n := by omega
      subst e
      rw [fb_si_out f v (Nat.le_refl _)]
      simp only [if_true]
      omega
theorem fb_si_add (f g : Nat → Int) : ∀ n, fb_si (fun k => f k + g k) n = fb_si f n + fb_si g n
  | 0 => rfl
  | n + 1 => by
    have h := fb_si_add f g n
    rw [fb_si_succ, fb_si_succ, fb_si_succ, h]
    omega
theorem fb_si_sub (f g : Nat → Int) : ∀ n, fb_si (fun k => f k - g k) n = fb_si f n - fb_si g n
  | 0 => rfl
  | n + 1 => by
    have h := fb_si_sub f g n
    rw [fb_si_succ, fb_si_succ, fb_si_succ, h]
    omega
theorem fb_si_mul (c : Int) (f : Nat → Int) : ∀ n, fb_si (fun k => c * f k) n = c * fb_si f n
  | 0 => (Int.mul_zero c).symm
  | n + 1 => by
    have h := fb_si_mul c f n
    rw [fb_si_succ, fb_si_succ, h, Int.mul_add]
theorem fb_si_split (f : Nat → Int) (m : Nat) : ∀ n, fb_si f (m + n) = fb_si f m + fb_si (fun k => f (m + k)) n
  | 0 => (Int.add_zero _).symm
  | n + 1 => by
    have h := fb_si_split f m n
    show fb_si f (m + n + 1) = _
    rw [fb_si_succ, fb_si_succ, h, Int.add_assoc]
theorem fb_si_nat (f : Nat → Nat) : ∀ n, fb_si (fun k => (f k : Int)) n = (fb_sm f n : Int)
  | 0 => rfl
  | n + 1 => by
    have h := fb_si_nat f n
    rw [fb_si_succ, fb_sm_succ, h]
    omega
theorem fb_si_bound {f : Nat → Int} {c : Int} (hc : 0 ≤ c) : ∀ {n : Nat}, (∀ k, k < n → -c ≤ f k ∧ f k ≤ c) → -(n * c) ≤ fb_si f n ∧ fb_si f n ≤ n * c
  | 0, _ => by simp [fb_si]
  | n + 1, h => by
    have h1 := fb_si_bound (n := n) (f := f) hc (fun k hk => h k (by omega))
    have h2 := h n (by omega)
    have e : ((n + 1 : Nat) : Int) * c = n * c + c := by rw [Int.natCast_add, Int.add_mul]; simp
    rw [fb_si_succ, e]
    omega
/-! ===== bits of a long that isn't negative ===== -/
theorem fb_andL (a b : Nat) : lN a &&& lN b = lN (a &&& b) := by
  apply Int64.toBitVec_inj.1
  show BitVec.ofNat 64 a &&& BitVec.ofNat 64 b = BitVec.ofNat 64 (a &&& b)
  apply BitVec.eq_of_getLsbD_eq
  intro i hi
  simp [hi]
theorem fb_orL (a b : Nat) : lN a ||| lN b = lN (a ||| b) := by
  apply Int64.toBitVec_inj.1
  show BitVec.ofNat 64 a ||| BitVec.ofNat 64 b = BitVec.ofNat 64 (a ||| b)
  apply BitVec.eq_of_getLsbD_eq
  intro i hi
  simp [hi]
theorem fb_xorL (a b : Nat) : lN a ^^^ lN b = lN (a ^^^ b) := by
  apply Int64.toBitVec_inj.1
  show BitVec.ofNat 64 a ^^^ BitVec.ofNat 64 b = BitVec.ofNat 64 (a ^^^ b)
  apply BitVec.eq_of_getLsbD_eq
  intro i hi
  simp [hi]
theorem fb_xorI (a b : Nat) : nI a ^^^ nI b = nI (a ^^^ b) := by
  apply Int32.toBitVec_inj.1
  show BitVec.ofNat 32 a ^^^ BitVec.ofNat 32 b = BitVec.ofNat 32 (a ^^^ b)
  apply BitVec.eq_of_getLsbD_eq
  intro i hi
  simp [hi]
theorem fb_maskL (n k : Nat) : lN n &&& lN (2 ^ k - 1) = lN (n % 2 ^ k) := by rw [fb_andL, Nat.and_two_pow_sub_one_eq_mod]
theorem fb_or_sumL {a k : Nat} (b : Nat) (h : a < 2 ^ k) : lN (2 ^ k * b) ||| lN a = lN (2 ^ k * b + a) := by rw [fb_orL, Nat.two_pow_add_eq_or_of_lt h]
theorem fb_lN_inj {a b : Nat} (ha : a < 2 ^ 63) (hb : b < 2 ^ 63) : lN a = lN b ↔ a = b := by
  constructor
  · intro h
    have h1 : (BitVec.ofNat 64 a).toNat = (BitVec.ofNat 64 b).toNat := congrArg (fun x : Int64 => x.toBitVec.toNat) h
    rw [BitVec.toNat_ofNat, BitVec.toNat_ofNat, Nat.mod_eq_of_lt (by omega), Nat.mod_eq_of_lt (by omega)] at h1
    exact h1
  · rintro rfl; rfl
theorem fb_bit_nat (n j : Nat) : n &&& 2 ^ j = 0 ↔ n.testBit j = false := by
  constructor
  · intro h
    have h1 : (n &&& 2 ^ j).testBit j = false := by rw [h]; simp
    rw [Nat.testBit_and] at h1
    simpa using h1
  · intro h
    apply Nat.eq_of_testBit_eq
    intro i
    rw [Nat.testBit_and]
    by_cases hi : j = i
    · subst hi; simp [h]
    · first | (simp [Nat.testBit_two_pow, hi]; done) | (simp [Nat.testBit_two_pow_of_ne hi]; done)
/-- one bit of a long -/
theorem fb_bitL {n j : Nat} (hj : j < 63) : lN n &&& lN (2 ^ j) = 0 ↔ n.testBit j = false := by
  have h2 : (2 : Nat) ^ j < 2 ^ 63 := Nat.pow_lt_pow_right (by decide) hj
  have hle : n &&& 2 ^ j ≤ 2 ^ j := Nat.and_le_right
  rw [fb_andL, ← fb_bit_nat, show (0 : Int64) = lN 0 from rfl]
  exact fb_lN_inj (by omega) (by decide)
/-- a bit set, a bit taken off -/
theorem fb_bit_set (n j i : Nat) : (n ||| 2 ^ j).testBit i = (n.testBit i || decide (i = j)) := by
  rw [Nat.testBit_or]
  by_cases h : j = i
  · subst h; simp
  · have h2 : ¬ i = j := fun e => h e.symm
    first | (simp [Nat.testBit_two_pow, h, h2]; done) | (simp [Nat.testBit_two_pow_of_ne h, h2]; done)
theorem fb_bit_flip (n j i : Nat) : (n ^^^ 2 ^ j).testBit i = (n.testBit i ^^ decide (i = j)) := by
  rw [Nat.testBit_xor]
  by_cases h : j = i
  · subst h; simp
  · have h2 : ¬ i = j := fun e => h e.symm
    first | (simp [Nat.testBit_two_pow, h, h2]; done) | (simp [Nat.testBit_two_pow_of_ne h, h2]; done)
/-! ===== a stretch of an array written over by a function ===== -/
def fb_put {α : Type} (f g : Nat → α) (a n : Nat) : Nat → α := fun k => if a ≤ k ∧ k < a + n then g (k - a) else f k
theorem fb_put_0 {α : Type} (f g : Nat → α) (a : Nat) : fb_put f g a 0 = f := funext fun k => if_neg (by omega)
theorem fb_put_in {α : Type} {f g : Nat → α} {a n k : Nat} (h1 : a ≤ k) (h2 : k < a + n) : fb_put f g a n k = g (k - a) := if_pos ⟨h1, h2⟩
theorem fb_put_out {α : Type} {f g : Nat → α} {a n k : Nat} (h : k < a ∨ a + n ≤ k) : fb_put f g a n k = f k := if_neg (by omega)
theorem fb_put_succ (f g : Nat → Int32) (a n : Nat) : upd (fb_put f g a n) (a + n) (g n) = fb_put f g a (n + 1) := by
  funext k
  by_cases h : k = a + n
  · subst h
    simp [upd, fb_put]
  · by_cases h1 : a ≤ k ∧ k < a + n
    · have h2 : a ≤ k ∧ k < a + (n + 1) := by omega
      simp only [upd, fb_put, if_neg h, if_pos h1, if_pos h2]
    · have h2 : ¬ (a ≤ k ∧ k < a + (n + 1)) := by omega
      simp only [upd, fb_put, if_neg h, if_neg h1, if_neg h2]
/-- .. from the far end down -/
theorem fb_put_down (f g : Nat → Int32) {a n m : Nat} (h : m < n) : upd (fb_put f (fun k => g (k + (m + 1))) (a + (m + 1)) (n - (m + 1))) (a + m) (g m) = fb_put f (fun k => g (k + m)) (a + m) (n - m) := by
  funext k
  by_cases h0 : k = a + m
  · subst h0
    simp only [upd, if_true]
    rw [fb_put_in (by omega) (by omega)]
    exact congrArg g (by omega)
  · simp only [upd, if_neg h0]
    by_cases h1 : a + (m + 1) ≤ k ∧ k < a + (m + 1) + (n - (m + 1))
    · rw [fb_put_in h1.1 h1.2, fb_put_in (by omega) (by omega)]
      exact congrArg g (by omega)
    · rw [fb_put_out (by omega), fb_put_out (by omega)]
theorem fb_put_cong {α : Type} {f f2 g g2 : Nat → α} {a n : Nat} (hf : ∀ k, (k < a ∨ a + n ≤ k) → f k = f2 k) (hg : ∀ k, k < n → g k = g2 k) : fb_put f g a n = fb_put f2 g2 a n := by
  funext k
  by_cases h : a ≤ k ∧ k < a + n
  · rw [fb_put_in h.1 h.2, fb_put_in h.1 h.2, hg _ (by omega)]
  · rw [fb_put_out (by omega), fb_put_out (by omega), hf _ (by omega)]
/-! ===== the least, the first, the best so far; that there is one alone ===== -/
theorem fb_first {p : Nat → Prop} [DecidablePred p] : ∀ {n : Nat}, (∃ i, i < n ∧ p i) → ∃ i, i < n ∧ p i ∧ ∀ j, j < i → ¬ p j
  | 0, h => by obtain ⟨i, hi, -⟩ := h; exact absurd hi (Nat.not_lt_zero i)
  | n + 1, h => by
    by_cases q : ∃ i, i < n ∧ p i
    · obtain ⟨i, h1, h2⟩ := fb_first q
      exact ⟨i, by omega, h2⟩
    · obtain ⟨i, h1, h2⟩ := h
      have e : i = n := by
        rcases Nat.lt_or_ge i n with r | r
        · exact absurd ⟨i, r, h2⟩ q
        · omega
      subst e
      exact ⟨i, by omega, h2, fun j hj hp => q ⟨j, hj, hp⟩⟩
theorem fb_first_one {p : Nat → Prop} {i j : Nat} (hi : p i) (hi2 : ∀ k, k < i → ¬ p k) (hj : p j) (hj2 : ∀ k, k < j → ¬ p k) : i = j := by
  rcases Nat.lt_trichotomy i j with q | q | q
  · exact absurd hi (hj2 i q)
  · exact q
  · exact absurd hj (hi2 j q)
theorem fb_last {p : Nat → Prop} [DecidablePred p] : ∀ {n : Nat}, (∃ i, i < n ∧ p i) → ∃ i, i < n ∧ p i ∧ ∀ j, i < j → j < n → ¬ p j
  | 0, h => by obtain ⟨i, hi, -⟩ := h; exact absurd hi (Nat.not_lt_zero i)
  | n + 1, h => by
    by_cases q : p n
    · exact ⟨n, by omega, q, fun j h1 h2 => by omega⟩
    · obtain ⟨i, h1, h2⟩ := h
      have hi : i < n := by
        rcases Nat.lt_or_ge i n with r | r
        · exact r
        · have e : i = n := by omega
          subst e
          exact absurd h2 q
      obtain ⟨i2, a1, a2, a3⟩ := fb_last (n := n) ⟨i, hi, h2⟩
      refine ⟨i2, by omega, a2, fun j b1 b2 => ?_⟩
      rcases Nat.lt_or_ge j n with r | r
      · exact a3 j b1 r
      · have e : j = n := by omega
        subst e
        exact q
/-- the first greatest -/
theorem fb_best (f : Nat → Int) : ∀ {n : Nat}, 0 < n → ∃ i, i < n ∧ (∀ j, j < n → f j ≤ f i) ∧ ∀ j, j < i → f j < f i
  | 0, h => absurd h (Nat.lt_irrefl 0)
  | 1, _ => ⟨0, by omega, fun j hj => by have e : j = 0 := by omega
                                         subst e; exact Int.le_refl _, fun j hj => absurd hj (Nat.not_lt_zero j)⟩
  | n + 2, _ => by
    obtain ⟨i, h1, h2, h3⟩ := fb_best f (n := n + 1) (by omega)
    by_cases q : f i < f (n + 1)
    · refine ⟨n + 1, by omega, fun j hj => ?_, fun j hj => ?_⟩
      · rcases Nat.lt_or_ge j (n + 1) with r | r
        · have := h2 j r; omega
        · have e : j = n + 1 := by omega
          subst e; exact Int.le_refl _
      · have := h2 j hj; omega
    · refine ⟨i, by omega, fun j hj => ?_, h3⟩
      rcases Nat.lt_or_ge j (n + 1) with r | r
      · exact h2 j r
      · have e : j = n + 1 := by omega
        subst e; omega
theorem fb_best_one {f : Nat → Int} {n i j : Nat} (hi : i < n) (hi2 : ∀ k, k < n → f k ≤ f i) (hi3 : ∀ k, k < i → f k < f i) (hj : j < n) (hj2 : ∀ k, k < n → f k ≤ f j) (hj3 : ∀ k, k < j → f k < f j) : i = j := by
  rcases Nat.lt_trichotomy i j with q | q | q
  · have a := hj3 i q
    have b := hi2 j hj
    omega
  · exact q
  · have a := hi3 j q
    have b := hj2 i hi
    omega
/-- the first least -/
theorem fb_low (f : Nat → Int) {n : Nat} (h : 0 < n) : ∃ i, i < n ∧ (∀ j, j < n → f i ≤ f j) ∧ ∀ j, j < i → f i < f j := by
  obtain ⟨i, h1, h2, h3⟩ := fb_best (fun k => -f k) h
  exact ⟨i, h1, fun j hj => by have := h2 j hj; omega, fun j hj => by have := h3 j hj; omega⟩
/-! ===== signed ints as whole numbers, within bounds ===== -/
theorem fb_rng (x : Int32) : -2147483648 ≤ x.toInt ∧ x.toInt < 2147483648 := by
  have h1 := Int32.le_toInt x
  have h2 := Int32.toInt_lt x
  omega
theorem fb_bmod {z : Int} (h1 : -2147483648 ≤ z) (h2 : z < 2147483648) : z.bmod (2 ^ 32) = z := by
  rw [Int.bmod_eq_of_le (by omega) (by omega)]
theorem fb_addI {x y : Int32} (h1 : -2147483648 ≤ x.toInt + y.toInt) (h2 : x.toInt + y.toInt < 2147483648) : (x + y).toInt = x.toInt + y.toInt := by
  rw [Int32.toInt_add, fb_bmod h1 h2]
theorem fb_subI {x y : Int32} (h1 : -2147483648 ≤ x.toInt - y.toInt) (h2 : x.toInt - y.toInt < 2147483648) : (x - y).toInt = x.toInt - y.toInt := by
  rw [Int32.toInt_sub, fb_bmod h1 h2]
theorem fb_mulI {x y : Int32} (h1 : -2147483648 ≤ x.toInt * y.toInt) (h2 : x.toInt * y.toInt < 2147483648) : (x * y).toInt = x.toInt * y.toInt := by
  rw [Int32.toInt_mul, fb_bmod h1 h2]
theorem fb_negI {x : Int32} (h : x.toInt ≠ -2147483648) : (-x).toInt = -x.toInt := by
  have := fb_rng x
  rw [Int32.toInt_neg, fb_bmod (by omega) (by omega)]
theorem fb_ofI {z : Int} (h1 : -2147483648 ≤ z) (h2 : z < 2147483648) : (Int32.ofInt z).toInt = z := by
  rw [Int32.toInt_ofInt, fb_bmod h1 h2]
theorem fb_asI (x : Int32) : Int32.ofInt x.toInt = x := Int32.ofInt_toInt x
theorem fb_rngL (x : Int64) : -9223372036854775808 ≤ x.toInt ∧ x.toInt < 9223372036854775808 := by
  have h1 := Int64.le_toInt x
  have h2 := Int64.toInt_lt x
  omega
theorem fb_bmodL {z : Int} (h1 : -9223372036854775808 ≤ z) (h2 : z < 9223372036854775808) : z.bmod (2 ^ 64) = z := by
  rw [Int.bmod_eq_of_le (by omega) (by omega)]
theorem fb_addL {x y : Int64} (h1 : -9223372036854775808 ≤ x.toInt + y.toInt) (h2 : x.toInt + y.toInt < 9223372036854775808) : (x + y).toInt = x.toInt + y.toInt := by
  rw [Int64.toInt_add, fb_bmodL h1 h2]
theorem fb_subL {x y : Int64} (h1 : -9223372036854775808 ≤ x.toInt - y.toInt) (h2 : x.toInt - y.toInt < 9223372036854775808) : (x - y).toInt = x.toInt - y.toInt := by
  rw [Int64.toInt_sub, fb_bmodL h1 h2]
theorem fb_mulL {x y : Int64} (h1 : -9223372036854775808 ≤ x.toInt * y.toInt) (h2 : x.toInt * y.toInt < 9223372036854775808) : (x * y).toInt = x.toInt * y.toInt := by
  rw [Int64.toInt_mul, fb_bmodL h1 h2]
/-! ===== cuts of what is narrow already ===== -/
theorem fb_byte {x : Int32} (h1 : -128 ≤ x.toInt) (h2 : x.toInt < 128) : x.toInt8.toInt32 = x := by
  apply Int32.toInt_inj.1
  rw [Int8.toInt_toInt32, Int32.toInt_toInt8, Int.bmod_eq_of_le (by omega) (by omega)]
theorem fb_short {x : Int32} (h1 : -32768 ≤ x.toInt) (h2 : x.toInt < 32768) : x.toInt16.toInt32 = x := by
  apply Int32.toInt_inj.1
  rw [Int16.toInt_toInt32, Int32.toInt_toInt16, Int.bmod_eq_of_le (by omega) (by omega)]
theorem fb_byte_rng (x : Int32) : -128 ≤ x.toInt8.toInt32.toInt ∧ x.toInt8.toInt32.toInt < 128 := by
  rw [Int8.toInt_toInt32]
  have h1 := Int8.le_toInt x.toInt8
  have h2 := Int8.toInt_lt x.toInt8
  omega
theorem fb_short_rng (x : Int32) : -32768 ≤ x.toInt16.toInt32.toInt ∧ x.toInt16.toInt32.toInt < 32768 := by
  rw [Int16.toInt_toInt32]
  have h1 := Int16.le_toInt x.toInt16
  have h2 := Int16.toInt_lt x.toInt16
  omega
theorem fb_byte_twice (x : Int32) : x.toInt8.toInt32.toInt8.toInt32 = x.toInt8.toInt32 := fb_byte (fb_byte_rng x).1 (fb_byte_rng x).2
theorem fb_short_twice (x : Int32) : x.toInt16.toInt32.toInt16.toInt32 = x.toInt16.toInt32 := fb_short (fb_short_rng x).1 (fb_short_rng x).2
theorem fb_char {n : Nat} (h : n < 65536) : (nI n).toUInt32.toUInt16.toUInt32.toInt32 = nI n := by
  apply Int32.toBitVec_inj.1
  apply BitVec.eq_of_toNat_eq
  have e1 : (nI n).toBitVec.toNat = n := by
    show (BitVec.ofNat 32 n).toNat = n
    rw [BitVec.toNat_ofNat, Nat.mod_eq_of_lt (by omega)]
  have e2 : ((nI n).toUInt32.toUInt16.toUInt32).toNat = n := by
    rw [UInt16.toNat_toUInt32, UInt32.toNat_toUInt16]
    show (nI n).toBitVec.toNat % 2 ^ 16 = n
    rw [e1, Nat.mod_eq_of_lt (by omega)]
  rw [e1]
  exact e2
end
section
/-! walking the small machine: views of the heap, rules a line -/
/-- cells that are known, by place -/
abbrev mj_W : Type := List (Nat × va_E)
abbrev mj_ks (w : mj_W) : List Nat := w.map Prod.fst
def mj_vw (w : mj_W) (h : mj_H) : Prop := ((mj_ks w).Nodup ∧ h.1.length ≤ mj_SB) ∧ ∀ (j a : Nat) (e : va_E), mj_nth w j = some (a, e) → mj_nth h.1 a = some e
def mj_eq (ks : List Nat) (h0 h : mj_H) : Prop := h.1.length = h0.1.length ∧ h.2 = h0.2 ∧ ∀ j : Nat, j ∉ ks → mj_nth h.1 j = mj_nth h0.1 j
/-- the view now, and what is behind it is as at the start -/
def mj_Vw (h0 : mj_H) (w : mj_W) (h : mj_H) : Prop := mj_vw w h ∧ mj_eq (mj_ks w) h0 h
theorem mj_eq.rf {ks : List Nat} {h : mj_H} : mj_eq ks h h := ⟨rfl, rfl, fun _ _ => rfl⟩
theorem mj_vw.V {w : mj_W} {h : mj_H} (hv : mj_vw w h) : mj_Vw h w h := ⟨hv, mj_eq.rf⟩
theorem mj_ks_at {w : mj_W} {j a : Nat} {e : va_E} (hj : mj_nth w j = some (a, e)) : mj_nth (mj_ks w) j = some a := by
  rw [mj_nth_map, hj]; rfl
theorem mj_ks_in {w : mj_W} {j a : Nat} {e : va_E} (hj : mj_nth w j = some (a, e)) : a ∈ mj_ks w := mj_nth_mem (mj_ks_at hj)
theorem mj_nodup {l : List Nat} (hl : l.Nodup) {i j a : Nat} (hi : mj_nth l i = some a) (hj : mj_nth l j = some a) : i = j := by
  rw [mj_nth_eq] at hi hj
  exact (List.getElem?_inj (List.getElem?_eq_some_iff.mp hi).1 hl).mp (hi.trans hj.symm)
theorem mj_ks_set {w : mj_W} {j a : Nat} {e e' : va_E} (hj : mj_nth w j = some (a, e)) : mj_ks (w.set j (a, e')) = mj_ks w := by
  have h1 := mj_ks_at hj
  rw [mj_nth_eq] at h1
  show (w.set j (a, e')).map Prod.fst = w.map Prod.fst
  rw [List.map_set]
  apply List.ext_getElem?
  intro i
  by_cases hi : j = i
  · subst hi
    rw [List.getElem?_set_self (List.getElem?_eq_some_iff.mp h1).1, h1]
  · rw [List.getElem?_set_ne hi]
/-- a cell is written -/
theorem mj_Vw.set {h0 h : mj_H} {w : mj_W} {j a : Nat} {e e' : va_E} (hv : mj_Vw h0 w h) (hj : mj_nth w j = some (a, e)) : mj_Vw h0 (w.set j (a, e')) (h.1.set a e', h.2) := by
  obtain ⟨⟨h1, h2⟩, h3, h4, h5⟩ := hv
  have hk := mj_ks_set (e' := e') hj
  refine ⟨⟨⟨by rw [hk]; exact h1.1, by simpa using h1.2⟩, fun i b f hi => ?_⟩, ?_⟩
  rotate_left
  · rw [hk]
    refine ⟨by simpa using h3, h4, fun i hi => ?_⟩
    have hne : i ≠ a := fun q => hi (by rw [q]; exact mj_ks_in hj)
    show mj_nth (h.1.set a e') i = _
    rw [mj_nth_ne hne]
    exact h5 i hi
  · by_cases hij : i = j
    · subst hij
      have := (mj_nth_set (b := (a, e')) hj).symm.trans hi
      cases this
      exact mj_nth_set (h2 i a e hj)
    · rw [mj_nth_ne hij] at hi
      have hne : b ≠ a := fun q => hij (mj_nodup h1.1 (mj_ks_at hi) (by rw [q]; exact mj_ks_at hj))
      rw [mj_nth_ne hne]
      exact h2 i b f hi
/-- a contract: from a view to an answer and a view -/
def mj_Sx (sta : mj_S) (d mid : Nat) (as : List Value) (w : mj_W) (Post : Option Value → mj_W → Prop) : Prop :=
  ∀ h, mj_vw w h → ∃ v w' h', Post v w' ∧ mj_ks w' = mj_ks w ∧ mj_Vw h w' h' ∧ mj_Cl sta d mid as h v h'
/-- at a return -/
def mj_rx (M : mj_M) (h0 : mj_H) (ks : List Nat) (Post : Option Value → mj_W → Prop) (pc : Nat) (lv : mj_L) (st : List Value) (h : mj_H) : Prop :=
  ∃ v w, Post v w ∧ mj_ks w = ks ∧ mj_Vw h0 w h ∧ mj_ret M v h pc lv st h
theorem mj_Sx.mk {sta : mj_S} {d mid : Nat} {as : List Value} {w : mj_W} {Post : Option Value → mj_W → Prop} (M : mj_M) (h4 : 4 ≤ mid) (hM : mj_nth mj_ms mid = some M) (hl : Nat.ble (mj_el as).length (mj_mx M) = true)
    (hg : ∀ h, mj_Vw h w h → mj_go sta (mj_Cl sta d) M (mj_rx M h (mj_ks w) Post) 0 (mj_e0 (mj_mx M) as) [] h) : mj_Sx sta (d + 1) mid as w Post := by
  intro h0 hv
  have key : ∃ v w' h', Post v w' ∧ mj_ks w' = mj_ks w ∧ mj_Vw h0 w' h' ∧ mj_go sta (mj_Cl sta d) M (mj_ret M v h') 0 (mj_e0 (mj_mx M) as) [] h0 := by
    refine hg h0 hv.V (fun pc lv st h => ∃ v w' h', Post v w' ∧ mj_ks w' = mj_ks w ∧ mj_Vw h0 w' h' ∧ mj_go sta (mj_Cl sta d) M (mj_ret M v h') pc lv st h) ?_ ?_ ?_
    · rintro pc lv st h ⟨v, w', h1, h2, h3, h5⟩
      exact ⟨v, w', h, h1, h2, h3, mj_go.here h5⟩
    · rintro pc lv st h e pc' lv' st' h' he hn ⟨v, w', h'', h1, h2, h3, h5⟩
      exact ⟨v, w', h'', h1, h2, h3, mj_go.nx he hn h5⟩
    · rintro pc lv st h e c v h' he hc hl hr hs hC ⟨v', w', h'', h1, h2, h3, h5⟩
      exact ⟨v', w', h'', h1, h2, h3, mj_go.call he hc hl hr hs hC h5⟩
  obtain ⟨v, w', h', h1, h2, h3, h5⟩ := key
  exact ⟨v, w', h', h1, h2, h3, Or.inr ⟨M, h4, hM, Nat.le_of_ble_eq_true hl, h5⟩⟩
/-- a part of a view, by places; and put back -/
def mj_pk (w : mj_W) : List Nat → mj_W
  | [] => []
  | j :: t => match mj_nth w j with
    | some x => x :: mj_pk w t
    | none => mj_pk w t
def mj_pbx : List Nat → mj_W → mj_W → mj_W
  | [] => fun w _ => w
  | j :: t => fun w v => match v with
    | [] => w
    | x :: v' => mj_pbx t (w.set j x) v'
abbrev mj_pb (w : mj_W) (is : List Nat) (v : mj_W) : mj_W := mj_pbx is w v
theorem mj_pk_le (w : mj_W) : ∀ is : List Nat, (mj_pk w is).length ≤ is.length
  | [] => Nat.le_refl _
  | j :: t => by
    have := mj_pk_le w t
    unfold mj_pk
    split <;> simp <;> omega
theorem mj_pk_at {w : mj_W} : ∀ {is : List Nat}, (mj_pk w is).length = is.length → ∀ {t j : Nat}, mj_nth is t = some j → ∃ x, mj_nth w j = some x ∧ mj_nth (mj_pk w is) t = some x
  | [], _, _, _, h => by simp [mj_nth] at h
  | i :: s, hl, t, j, h => by
    unfold mj_pk at hl ⊢
    split at hl
    · rename_i x hx
      match t, h with
      | 0, h => cases h; exact ⟨x, hx, rfl⟩
      | t + 1, h => exact mj_pk_at (is := s) (by simpa using hl) h
    · have := mj_pk_le w s
      simp at hl; omega
theorem mj_pb_at : ∀ {is : List Nat} {v : mj_W} {w : mj_W}, is.Nodup → ∀ {i : Nat} {x : Nat × va_E}, mj_nth (mj_pb w is v) i = some x → (∃ t, mj_nth is t = some i ∧ mj_nth v t = some x) ∨ (mj_nth w i = some x ∧ ∀ t, t < v.length → mj_nth is t ≠ some i)
  | [], v, w, _, i, x, h => Or.inr ⟨h, fun t _ q => by simp [mj_nth] at q⟩
  | j :: s, [], w, _, i, x, h => Or.inr ⟨h, fun t ht => by simp at ht⟩
  | j :: s, y :: v, w, hn, i, x, h => by
    have hn' := List.nodup_cons.mp hn
    rcases mj_pb_at (is := s) (v := v) (w := w.set j y) hn'.2 h with ⟨t, h1, h2⟩ | ⟨h1, h2⟩
    · exact Or.inl ⟨t + 1, h1, h2⟩
    · by_cases hij : i = j
      · subst hij
        left
        refine ⟨0, rfl, ?_⟩
        have hlt : i < w.length := by have := mj_nth_lt h1; simpa using this
        rw [mj_nth_eq, List.getElem?_set_self hlt] at h1
        exact h1
      · right
        rw [mj_nth_ne hij] at h1
        refine ⟨h1, fun t ht => ?_⟩
        match t with
        | 0 => exact fun q => hij (Option.some.inj q).symm
        | t + 1 => exact h2 t (by simpa using ht)
theorem mj_pb_ks : ∀ {is : List Nat} {v : mj_W} {w : mj_W}, (∀ t j, mj_nth is t = some j → ∀ x, mj_nth v t = some x → ∃ e, mj_nth w j = some (x.1, e)) → mj_ks (mj_pb w is v) = mj_ks w
  | [], v, w, _ => rfl
  | j :: s, [], w, _ => rfl
  | j :: s, y :: v, w, h => by
    obtain ⟨e, he⟩ := h 0 j rfl y rfl
    have hk : mj_ks (w.set j y) = mj_ks w := mj_ks_set (e' := y.2) he
    show mj_ks (mj_pb (w.set j y) s v) = mj_ks w
    rw [mj_pb_ks (is := s) (v := v) (w := w.set j y) (fun t i hi x hx => ?_), hk]
    obtain ⟨e2, he2⟩ := h (t + 1) i hi x hx
    have h1 : mj_nth (mj_ks (w.set j y)) i = some x.1 := by rw [hk]; exact mj_ks_at he2
    rw [mj_nth_map] at h1
    cases hq : mj_nth (w.set j y) i with
    | none => rw [hq] at h1; cases h1
    | some z => rw [hq] at h1; exact ⟨z.2, by rw [← Option.some.inj h1]⟩
/-- behind a call: the callee's cells as it left them, the rest as it was -/
theorem mj_Vw.call {h0 h h' : mj_H} {w wc' : mj_W} {is : List Nat} (hv : mj_Vw h0 w h) (hl : (mj_pk w is).length = is.length) (hn : is.Nodup) (hk : mj_ks wc' = mj_ks (mj_pk w is)) (hc : mj_Vw h wc' h') : mj_Vw h0 (mj_pb w is wc') h' := by
  obtain ⟨⟨h1, h2⟩, h3, h4, h5⟩ := hv
  obtain ⟨⟨c1, c2⟩, c3, c4, c5⟩ := hc
  have hlen : wc'.length = is.length := by
    have := congrArg List.length hk
    simp at this
    rw [this, hl]
  have at' : ∀ t j, mj_nth is t = some j → ∀ x, mj_nth wc' t = some x → ∃ e, mj_nth w j = some (x.1, e) := by
    intro t j ht x hx
    obtain ⟨y, hy, hy2⟩ := mj_pk_at hl ht
    have e1 : mj_nth (mj_ks wc') t = some x.1 := mj_ks_at (e := x.2) hx
    have e2 : mj_nth (mj_ks (mj_pk w is)) t = some y.1 := mj_ks_at (e := y.2) hy2
    rw [hk, e2] at e1
    exact ⟨y.2, by rw [hy, ← Option.some.inj e1]⟩
  have hks := mj_pb_ks at'
  refine ⟨⟨⟨by rw [hks]; exact h1.1, c1.2⟩, fun i a e hi => ?_⟩, ?_⟩
  rotate_left
  · rw [hks]
    refine ⟨c3.trans h3, c4.trans h4, ?_⟩
    intro i hi
    have hout : i ∉ mj_ks wc' := by
      intro hm
      obtain ⟨t, ht⟩ := List.getElem?_of_mem hm
      have htl : t < wc'.length := by have := (List.getElem?_eq_some_iff.mp ht).1; simpa using this
      have htl2 : t < is.length := by omega
      have h7 : mj_nth is t = some is[t] := by rw [mj_nth_eq]; exact List.getElem?_eq_getElem htl2
      have h8 : mj_nth wc' t = some wc'[t] := by rw [mj_nth_eq]; exact List.getElem?_eq_getElem htl
      obtain ⟨e9, h9⟩ := at' t _ h7 _ h8
      have hka : mj_nth (mj_ks wc') t = some i := by rw [mj_nth_eq]; exact ht
      have e1 : mj_nth (mj_ks wc') t = some (wc'[t]).1 := mj_ks_at (e := (wc'[t]).2) h8
      have e2 : (wc'[t]).1 = i := Option.some.inj (e1.symm.trans hka)
      rw [e2] at h9
      exact hi (mj_ks_in h9)
    rw [c5 i hout]
    exact h5 i hi
  · rcases mj_pb_at hn hi with ⟨t, q1, q2⟩ | ⟨q1, q2⟩
    · exact c2 t a e q2
    · have hout : a ∉ mj_ks wc' := by
        intro hm
        obtain ⟨t, ht⟩ := List.getElem?_of_mem hm
        have htl : t < wc'.length := by have := (List.getElem?_eq_some_iff.mp ht).1; simpa using this
        have htl2 : t < is.length := by omega
        have h7 : mj_nth is t = some is[t] := by rw [mj_nth_eq]; exact List.getElem?_eq_getElem htl2
        have h8 : mj_nth wc' t = some wc'[t] := by rw [mj_nth_eq]; exact List.getElem?_eq_getElem htl
        obtain ⟨e9, h9⟩ := at' t _ h7 _ h8
        have hka : mj_nth (mj_ks wc') t = some a := by rw [mj_nth_eq]; exact ht
        have e1 : mj_nth (mj_ks wc') t = some (wc'[t]).1 := mj_ks_at (e := (wc'[t]).2) h8
        have e2 : (wc'[t]).1 = a := Option.some.inj (e1.symm.trans hka)
        rw [e2] at h9
        have := mj_nodup h1.1 (mj_ks_at h9) (mj_ks_at q1)
        exact q2 t htl (by rw [h7, this])
      rw [c5 a hout]
      exact h2 i a e q1
theorem mj_Vw.pick {h0 h : mj_H} {w : mj_W} {is : List Nat} (hv : mj_Vw h0 w h) (hl : (mj_pk w is).length = is.length) (hn : is.Nodup) : mj_vw (mj_pk w is) h := by
  obtain ⟨⟨h1, h2⟩, -⟩ := hv
  have at' : ∀ t x, mj_nth (mj_pk w is) t = some x → ∃ j, mj_nth is t = some j ∧ mj_nth w j = some x := by
    intro t x hx
    have htl : t < is.length := by have := mj_nth_lt hx; omega
    have h7 : mj_nth is t = some is[t] := by rw [mj_nth_eq]; exact List.getElem?_eq_getElem htl
    obtain ⟨y, hy, hy2⟩ := mj_pk_at hl h7
    cases hx.symm.trans hy2
    exact ⟨_, h7, hy⟩
  refine ⟨⟨?_, h1.2⟩, fun t a e ht => ?_⟩
  · refine List.pairwise_iff_getElem.mpr fun i j hi hj hij he => ?_
    have hj' : j < (mj_pk w is).length := by simpa using hj
    have hi' : i < (mj_pk w is).length := by omega
    have q1 : mj_nth (mj_pk w is) i = some (mj_pk w is)[i] := by rw [mj_nth_eq]; exact List.getElem?_eq_getElem hi'
    have q2 : mj_nth (mj_pk w is) j = some (mj_pk w is)[j] := by rw [mj_nth_eq]; exact List.getElem?_eq_getElem hj'
    obtain ⟨i1, a1, b1⟩ := at' _ _ q1
    obtain ⟨j1, a2, b2⟩ := at' _ _ q2
    have he : ((mj_pk w is)[i]).1 = ((mj_pk w is)[j]).1 := by simpa using he
    have z1 : mj_nth (mj_ks w) i1 = some ((mj_pk w is)[i]).1 := mj_ks_at (e := ((mj_pk w is)[i]).2) b1
    have z2 : mj_nth (mj_ks w) j1 = some ((mj_pk w is)[j]).1 := mj_ks_at (e := ((mj_pk w is)[j]).2) b2
    have e3 := mj_nodup h1.1 z1 (z2.trans (congrArg some he.symm))
    rw [e3] at a1
    have := mj_nodup hn a1 a2
    omega
  · obtain ⟨j, q1, q2⟩ := at' t _ ht
    exact h2 j a e q2
section MJG
variable {sta : mj_S} {Cl : mj_R} {M : mj_M} {T : Nat → mj_L → List Value → mj_H → Prop} {pc pc' : Nat} {lv lv' : mj_L} {st st' r : List Value} {h0 h h' : mj_H} {e : mj_I} {w : mj_W}
theorem mj_ent_pc {E : List (List mj_I)} (he : mj_ent E pc = some e) : e.1 = pc := by
  unfold mj_ent at he
  cases hr : mj_nth E (pc / 32) with
  | none => rw [hr] at he; cases he
  | some r => rw [hr] at he; exact (mj_find_spec he).2
/-- instructions that look at no heap -/
theorem g_nx (he : mj_ent (mj_cd M) pc = some e) (hn : mj_nx sta e.2.1 e.2.2.1 e.1 lv st h = some (pc', lv', st', h')) (k : mj_go sta Cl M T pc' lv' st' h') : mj_go sta Cl M T pc lv st h := by
  rw [mj_ent_pc he] at hn
  exact mj_go.nx he hn k
def mj_pl (i : Instr) : Bool := match i with
  | .ifCond _ _ => false
  | .if_icmp _ _ => false
  | .tableswitch _ _ _ _ => false
  | _ => true
theorem g_px (he : mj_ent (mj_cd M) pc = some e) (hp : mj_pl e.2.1 = true) (hn : mj_nx sta e.2.1 e.2.2.1 e.1 lv st h = some (pc', lv', st', h')) (k : mj_go sta Cl M T pc' lv' st' h') : mj_go sta Cl M T pc lv st h := g_nx he hn k
def mj_run (sta : mj_S) (E : List (List mj_I)) : Nat → Nat → mj_L → List Value → mj_H → Option mj_C
  | 0, pc, lv, st, h => some (pc, lv, st, h)
  | n + 1, pc, lv, st, h => match mj_ent E pc with
    | some e => match mj_nx sta e.2.1 e.2.2.1 e.1 lv st h with
      | some (pc', lv', st', h') => mj_run sta E n pc' lv' st' h'
      | none => none
    | none => none
theorem g_run : ∀ (n : Nat) {pc : Nat} {lv : mj_L} {st : List Value} {h : mj_H}, mj_run sta (mj_cd M) n pc lv st h = some (pc', lv', st', h') → mj_go sta Cl M T pc' lv' st' h' → mj_go sta Cl M T pc lv st h
  | 0, pc, lv, st, h, hr, k => by cases hr; exact k
  | n + 1, pc, lv, st, h, hr, k => by
    unfold mj_run at hr
    cases he : mj_ent (mj_cd M) pc with
    | none => rw [he] at hr; cases hr
    | some e =>
      rw [he] at hr
      dsimp only at hr
      cases hn : mj_nx sta e.2.1 e.2.2.1 e.1 lv st h with
      | none => rw [hn] at hr; cases hr
      | some q =>
        rw [hn] at hr
        exact g_nx he hn (g_run n hr k)
/-- a field -/
theorem g_get {q c len wp a ci : Nat} {raw : Instr} {fs : List Value} {v : Value} (hv : mj_Vw h0 w h) (j : Nat) (he : mj_ent (mj_cd M) pc = some (q, .getfield c, len, raw, wp)) (hj : mj_nth w j = some (a, .inr (ci, fs))) (hci : Nat.beq ci (c / 64) = true) (hf : mj_nth fs (c % 64) = some v) (k : mj_go sta Cl M T (q + len) lv (v :: r) h) : mj_go sta Cl M T pc lv (.ref a :: r) h := by
  refine g_nx he ?_ k
  simp only [mj_nx, hv.1.2 j a _ hj, hci, cond_true, hf]
theorem g_put {q c len wp a ci : Nat} {raw : Instr} {fs : List Value} {v : Value} (hv : mj_Vw h0 w h) (j : Nat) (he : mj_ent (mj_cd M) pc = some (q, .putfield c, len, raw, wp)) (hj : mj_nth w j = some (a, .inr (ci, fs))) (hci : Nat.beq ci (c / 64) = true) (hf : Nat.ble (c % 64 + 1) fs.length = true) (hn1 : narrow (mj_ty c) v = v) (hn2 : fits (mj_ty c) v = true)
    (k : ∀ h, mj_Vw h0 (w.set j (a, .inr (ci, fs.set (c % 64) v))) h → mj_go sta Cl M T (q + len) lv r h) : mj_go sta Cl M T pc lv (v :: .ref a :: r) h := by
  refine g_nx he ?_ (k _ (hv.set hj))
  simp only [mj_nx, hv.1.2 j a _ hj, hci, cond_true]
  rw [if_pos ⟨Nat.le_of_ble_eq_true hf, hn1, hn2⟩]
theorem g_iald {q len wp a n : Nat} {raw : Instr} {f : Nat → Int32} {i : Int32} (hv : mj_Vw h0 w h) (j : Nat) (he : mj_ent (mj_cd M) pc = some (q, .iaload, len, raw, wp)) (hj : mj_nth w j = some (a, .inl (0, n, .inl f))) (hin : vp_in i n) (k : mj_go sta Cl M T (q + len) lv (.int (f i.toNatClampNeg) :: r) h) : mj_go sta Cl M T pc lv (.int i :: .ref a :: r) h := by
  refine g_nx he ?_ k
  have hin : ¬ (i < 0 ∨ n ≤ i.toNatClampNeg) := hin
  simp only [mj_nx, mj_ints, hv.1.2 j a _ hj]
  rw [if_neg hin]
theorem g_bald {q len wp a n : Nat} {raw : Instr} {f : Nat → Int32} {i : Int32} (hv : mj_Vw h0 w h) (j : Nat) (he : mj_ent (mj_cd M) pc = some (q, .baload, len, raw, wp)) (hj : mj_nth w j = some (a, .inl (2, n, .inl f))) (hin : vp_in i n) (k : mj_go sta Cl M T (q + len) lv (.int (f i.toNatClampNeg) :: r) h) : mj_go sta Cl M T pc lv (.int i :: .ref a :: r) h := by
  refine g_nx he ?_ k
  have hin : ¬ (i < 0 ∨ n ≤ i.toNatClampNeg) := hin
  simp only [mj_nx, hv.1.2 j a _ hj]
  rw [if_neg hin]
theorem g_lald {q len wp a n : Nat} {raw : Instr} {f : Nat → Int64} {i : Int32} (hv : mj_Vw h0 w h) (j : Nat) (he : mj_ent (mj_cd M) pc = some (q, .laload, len, raw, wp)) (hj : mj_nth w j = some (a, .inl (1, n, .inr (.inl f)))) (hin : vp_in i n) (k : mj_go sta Cl M T (q + len) lv (.long (f i.toNatClampNeg) :: r) h) : mj_go sta Cl M T pc lv (.int i :: .ref a :: r) h := by
  refine g_nx he ?_ k
  have hin : ¬ (i < 0 ∨ n ≤ i.toNatClampNeg) := hin
  simp only [mj_nx, hv.1.2 j a _ hj]
  rw [if_neg hin]
theorem g_aald {q len wp a n : Nat} {raw : Instr} {f : Nat → Option Nat} {i : Int32} (hv : mj_Vw h0 w h) (j : Nat) (he : mj_ent (mj_cd M) pc = some (q, .aaload, len, raw, wp)) (hj : mj_nth w j = some (a, .inl (3, n, .inr (.inr (.inr (.inr f)))))) (hin : vp_in i n) (k : mj_go sta Cl M T (q + len) lv (va_rf (f i.toNatClampNeg) :: r) h) : mj_go sta Cl M T pc lv (.int i :: .ref a :: r) h := by
  refine g_nx he ?_ k
  have hin : ¬ (i < 0 ∨ n ≤ i.toNatClampNeg) := hin
  simp only [mj_nx, hv.1.2 j a _ hj]
  rw [if_neg hin]
theorem g_aald4 {q len wp a n : Nat} {raw : Instr} {f : Nat → Option Nat} {i : Int32} (hv : mj_Vw h0 w h) (j : Nat) (he : mj_ent (mj_cd M) pc = some (q, .aaload, len, raw, wp)) (hj : mj_nth w j = some (a, .inl (4, n, .inr (.inr (.inr (.inr f)))))) (hin : vp_in i n) (k : mj_go sta Cl M T (q + len) lv (va_rf (f i.toNatClampNeg) :: r) h) : mj_go sta Cl M T pc lv (.int i :: .ref a :: r) h := by
  refine g_nx he ?_ k
  have hin : ¬ (i < 0 ∨ n ≤ i.toNatClampNeg) := hin
  simp only [mj_nx, hv.1.2 j a _ hj]
  rw [if_neg hin]
theorem g_iast {q len wp a n : Nat} {raw : Instr} {f : Nat → Int32} {i x : Int32} (hv : mj_Vw h0 w h) (j : Nat) (he : mj_ent (mj_cd M) pc = some (q, .iastore, len, raw, wp)) (hj : mj_nth w j = some (a, .inl (0, n, .inl f))) (hin : vp_in i n) (k : ∀ h, mj_Vw h0 (w.set j (a, .inl (0, n, .inl (upd f i.toNatClampNeg x)))) h → mj_go sta Cl M T (q + len) lv r h) : mj_go sta Cl M T pc lv (.int x :: .int i :: .ref a :: r) h := by
  refine g_nx he ?_ (k _ (hv.set hj))
  have hin : ¬ (i < 0 ∨ n ≤ i.toNatClampNeg) := hin
  simp only [mj_nx, hv.1.2 j a _ hj]
  rw [if_neg hin]
theorem g_bast {q len wp a n : Nat} {raw : Instr} {f : Nat → Int32} {i x : Int32} (hv : mj_Vw h0 w h) (j : Nat) (he : mj_ent (mj_cd M) pc = some (q, .bastore, len, raw, wp)) (hj : mj_nth w j = some (a, .inl (2, n, .inl f))) (hin : vp_in i n) (k : ∀ h, mj_Vw h0 (w.set j (a, .inl (2, n, .inl (upd f i.toNatClampNeg (vp_nar .byte x))))) h → mj_go sta Cl M T (q + len) lv r h) : mj_go sta Cl M T pc lv (.int x :: .int i :: .ref a :: r) h := by
  refine g_nx he ?_ (k _ (hv.set hj))
  have hin : ¬ (i < 0 ∨ n ≤ i.toNatClampNeg) := hin
  simp only [mj_nx, hv.1.2 j a _ hj]
  rw [if_neg hin]
theorem g_last {q len wp a n : Nat} {raw : Instr} {f : Nat → Int64} {i : Int32} {x : Int64} (hv : mj_Vw h0 w h) (j : Nat) (he : mj_ent (mj_cd M) pc = some (q, .lastore, len, raw, wp)) (hj : mj_nth w j = some (a, .inl (1, n, .inr (.inl f)))) (hin : vp_in i n) (k : ∀ h, mj_Vw h0 (w.set j (a, .inl (1, n, .inr (.inl (vp_updL f i.toNatClampNeg x))))) h → mj_go sta Cl M T (q + len) lv r h) : mj_go sta Cl M T pc lv (.long x :: .int i :: .ref a :: r) h := by
  refine g_nx he ?_ (k _ (hv.set hj))
  have hin : ¬ (i < 0 ∨ n ≤ i.toNatClampNeg) := hin
  simp only [mj_nx, hv.1.2 j a _ hj]
  rw [if_neg hin]
/-- a static row -/
theorem g_sald {q len wp a n : Nat} {raw : Instr} {f : Nat → Int32} {i : Int32} (hv : mj_Vw h0 w h) (hs : sta (mj_SB + a) = some (n, f)) (he : mj_ent (mj_cd M) pc = some (q, .iaload, len, raw, wp)) (hin : vp_in i n) (k : mj_go sta Cl M T (q + len) lv (.int (f i.toNatClampNeg) :: r) h) : mj_go sta Cl M T pc lv (.int i :: .ref (mj_SB + a) :: r) h := by
  refine g_nx he ?_ k
  have hin : ¬ (i < 0 ∨ n ≤ i.toNatClampNeg) := hin
  have hno : mj_nth h.1 (mj_SB + a) = none := by
    rw [mj_nth_eq]
    exact List.getElem?_eq_none (Nat.le_trans hv.1.1.2 (Nat.le_add_right _ _))
  simp only [mj_nx, mj_ints, hno, hs]
  rw [if_neg hin]
/-- branches -/
def mj_cp (c : ClassFile.Cond) (x y : Int32) : Prop := match c with
  | .eq => x = y | .ne => ¬ x = y | .lt => x < y | .ge => y ≤ x | .gt => y < x | .le => x ≤ y
theorem mj_cp_iff (c : ClassFile.Cond) (x y : Int32) : mj_cmp c x y = true ↔ mj_cp c x y := by
  cases c <;> simp [mj_cmp, mj_cp]
theorem g_if {q len wp : Nat} {raw : Instr} {c : ClassFile.Cond} {off : Int} {x : Int32} (he : mj_ent (mj_cd M) pc = some (q, .ifCond c off, len, raw, wp)) (kt : mj_cp c x 0 → mj_go sta Cl M T (mj_tg q off) lv r h) (kf : ¬ mj_cp c x 0 → mj_go sta Cl M T (q + len) lv r h) : mj_go sta Cl M T pc lv (.int x :: r) h := by
  cases hc : mj_cmp c x 0 with
  | true => exact g_nx he (by simp only [mj_nx, hc, cond_true]) (kt ((mj_cp_iff c x 0).mp hc))
  | false => exact g_nx he (by simp only [mj_nx, hc, cond_false]) (kf (fun z => by rw [(mj_cp_iff c x 0).mpr z] at hc; cases hc))
theorem g_ic {q len wp : Nat} {raw : Instr} {c : ClassFile.Cond} {off : Int} {x y : Int32} (he : mj_ent (mj_cd M) pc = some (q, .if_icmp c off, len, raw, wp)) (kt : mj_cp c x y → mj_go sta Cl M T (mj_tg q off) lv r h) (kf : ¬ mj_cp c x y → mj_go sta Cl M T (q + len) lv r h) : mj_go sta Cl M T pc lv (.int y :: .int x :: r) h := by
  cases hc : mj_cmp c x y with
  | true => exact g_nx he (by simp only [mj_nx, hc, cond_true]) (kt ((mj_cp_iff c x y).mp hc))
  | false => exact g_nx he (by simp only [mj_nx, hc, cond_false]) (kf (fun z => by rw [(mj_cp_iff c x y).mpr z] at hc; cases hc))
variable {ks : List Nat} {Post : Option Value → mj_W → Prop}
theorem g_vret {q len wp : Nat} {raw : Instr} (hv : mj_Vw h0 w h) (he : mj_ent (mj_cd M) pc = some (q, .return_, len, raw, wp)) (hrt : mj_rt M = none) (hk : mj_ks w = ks) (hp : Post none w) : mj_go sta Cl M (mj_rx M h0 ks Post) pc lv [] h :=
  mj_go.here ⟨none, w, hp, hk, hv, rfl, _, he, rfl, rfl, hrt⟩
theorem g_iret {q len wp : Nat} {raw : Instr} {ty : FieldType} {x : Int32} (hv : mj_Vw h0 w h) (he : mj_ent (mj_cd M) pc = some (q, .ireturn, len, raw, wp)) (hrt : mj_rt M = some ty) (hn : narrow ty (.int x) = .int x) (hk : mj_ks w = ks) (hp : Post (some (.int x)) w) : mj_go sta Cl M (mj_rx M h0 ks Post) pc lv [.int x] h :=
  mj_go.here ⟨_, w, hp, hk, hv, rfl, _, he, x, ty, rfl, rfl, hrt, hn⟩
theorem g_lret {q len wp : Nat} {raw : Instr} {x : Int64} (hv : mj_Vw h0 w h) (he : mj_ent (mj_cd M) pc = some (q, .lreturn, len, raw, wp)) (hrt : mj_rt M = some .long) (hk : mj_ks w = ks) (hp : Post (some (.long x)) w) : mj_go sta Cl M (mj_rx M h0 ks Post) pc lv [.long x] h :=
  mj_go.here ⟨_, w, hp, hk, hv, rfl, _, he, x, rfl, rfl, hrt⟩
theorem g_aret {q len wp a : Nat} {raw : Instr} {C : String} (hv : mj_Vw h0 w h) (he : mj_ent (mj_cd M) pc = some (q, .areturn, len, raw, wp)) (hrt : mj_rt M = some (.object C)) (hk : mj_ks w = ks) (hp : Post (some (.ref a)) w) : mj_go sta Cl M (mj_rx M h0 ks Post) pc lv [.ref a] h :=
  mj_go.here ⟨_, w, hp, hk, hv, rfl, _, he, a, C, rfl, rfl, hrt⟩
end MJG
section MJK
variable {sta : mj_S} {d : Nat} {M : mj_M} {T : Nat → mj_L → List Value → mj_H → Prop} {pc : Nat} {lv : mj_L} {st rest as : List Value} {h0 h : mj_H} {w wc : mj_W} {Post : Option Value → mj_W → Prop} {q len wp c : Nat} {raw : Instr}
/-- calls: the callee's cells by their places in the view -/
theorem g_callS (hv : mj_Vw h0 w h) (is : List Nat) (he : mj_ent (mj_cd M) pc = some (q, .invokestatic c, len, raw, wp)) (hlen : Nat.ble (c / 16 % 16) st.length = true) (has : (st.take (c / 16 % 16)).reverse = as) (hdr : st.drop (c / 16 % 16) = rest) (hcat : Nat.ble (rest.map Value.category).sum 8 = true) (hpk : mj_pk w is = wc) (hil : wc.length = is.length) (hnd : is.Nodup)
    (hS : mj_Sx sta d (c / 256) as wc Post) (k : ∀ v w' h', Post v w' → mj_ks w' = mj_ks wc → mj_Vw h0 (mj_pb w is w') h' → mj_go sta (mj_Cl sta d) M T (q + 3) lv (v.toList ++ rest) h') : mj_go sta (mj_Cl sta d) M T pc lv st h := by
  subst has; subst hdr; subst hpk
  obtain ⟨v, w', h', h1, h2, h3, h4⟩ := hS h (hv.pick hil hnd)
  have e1 := mj_ent_pc he
  dsimp only at e1
  subst e1
  exact mj_go.call he rfl (Nat.le_of_ble_eq_true hlen) trivial (Nat.le_of_ble_eq_true hcat) h4 (k v w' h' h1 h2 (hv.call hil hnd h2 h3))
theorem g_callV {a : Nat} {fs : List Value} {ar : List Value} (hv : mj_Vw h0 w h) (is : List Nat) (j0 : Nat) (he : mj_ent (mj_cd M) pc = some (q, .invokevirtual c, len, raw, wp)) (hlen : Nat.ble (c / 16 % 16) st.length = true) (has : (st.take (c / 16 % 16)).reverse = .ref a :: ar) (hj0 : mj_nth w j0 = some (a, .inr (c % 16, fs))) (hdr : st.drop (c / 16 % 16) = rest) (hcat : Nat.ble (rest.map Value.category).sum 8 = true) (hpk : mj_pk w is = wc) (hil : wc.length = is.length) (hnd : is.Nodup)
    (hS : mj_Sx sta d (c / 256) (.ref a :: ar) wc Post) (k : ∀ v w' h', Post v w' → mj_ks w' = mj_ks wc → mj_Vw h0 (mj_pb w is w') h' → mj_go sta (mj_Cl sta d) M T (q + 3) lv (v.toList ++ rest) h') : mj_go sta (mj_Cl sta d) M T pc lv st h := by
  subst hdr; subst hpk
  obtain ⟨v, w', h', h1, h2, h3, h4⟩ := hS h (hv.pick hil hnd)
  have e1 := mj_ent_pc he
  dsimp only at e1
  subst e1
  exact mj_go.call he rfl (Nat.le_of_ble_eq_true hlen) (Or.inr ⟨a, ar, fs, has, hv.1.2 j0 _ _ hj0⟩) (Nat.le_of_ble_eq_true hcat) (by rw [has]; exact h4) (k v w' h' h1 h2 (hv.call hil hnd h2 h3))
end MJK
end
section
/-! small numbers, bits -/
theorem bt_get : ∀ b, b < 64 → ∀ k, k < 6 → ((nI b >>> (nI k &&& 31)) &&& 1) = if b.testBit k then 1 else 0 := by decide +kernel
theorem bt_set : ∀ b, b < 64 → ∀ k, k < 6 → (nI b ||| ((1 : Int32) <<< (nI k &&& 31))) = nI (b ||| 2 ^ k) := by decide +kernel
theorem bt_lt : ∀ b, b < 64 → ∀ k, k < 6 → b ||| 2 ^ k < 64 := by decide +kernel
theorem le_pred {x y : Int32} (h : 0 ≤ y) : x ≤ y - 1 ↔ x < y := by
  rw [Int32.le_iff_toInt_le, Int32.lt_iff_toInt_lt]
  have h1 := fb_rng y
  have h0 : (0 : Int) ≤ y.toInt := by simpa [Int32.le_iff_toInt_le] using h
  rw [fb_subI (by simp; omega) (by simp; omega)]
  simp
  omega
/-- LowNumber's own fields -/
abbrev ob (tr dr : Int32) (a b : Nat) (sl : Int32) : List Value := [.ref 1, .int tr, .int dr, .ref a, .ref b, .ref 19, .ref 24, .ref 29, .ref 127, .ref 129, .ref 130, .ref 137, .int sl, .ref 144, .ref 146]
theorem s_refuse (sta : mj_S) (d : Nat) (tr dr sl y : Int32) (a b : Nat) : mj_Sx sta (d + 1) 132 [.ref 0, .int y] [(0, .inr (8, ob tr dr a b sl))] (fun v w => v = some (.int (-1)) ∧ w = [(0, .inr (8, ob y dr a b sl))]) := by
  refine mj_Sx.mk m_X8_refuse (by decide) n_X8_refuse rfl (fun h hv => ?_)
  repeat (first | refine g_px rfl rfl rfl ?_ | refine g_get hv 0 rfl rfl rfl rfl ?_)
  refine g_put hv 0 rfl rfl rfl rfl rfl rfl (fun h hv => ?_)
  repeat (first | refine g_px rfl rfl rfl ?_ | refine g_get hv 0 rfl rfl rfl rfl ?_)
  exact g_iret hv rfl rfl rfl rfl ⟨rfl, rfl⟩
theorem s_answer (sta : mj_S) (d : Nat) (tr dr sl y : Int32) (a b : Nat) : mj_Sx sta (d + 1) 133 [.ref 0, .int y] [(0, .inr (8, ob tr dr a b sl))] (fun v w => v = some (.int y) ∧ w = [(0, .inr (8, ob 0 dr a b sl))]) := by
  refine mj_Sx.mk m_X8_answer (by decide) n_X8_answer rfl (fun h hv => ?_)
  repeat (first | refine g_px rfl rfl rfl ?_ | refine g_get hv 0 rfl rfl rfl rfl ?_)
  refine g_put hv 0 rfl rfl rfl rfl rfl rfl (fun h hv => ?_)
  repeat (first | refine g_px rfl rfl rfl ?_ | refine g_get hv 0 rfl rfl rfl rfl ?_)
  exact g_iret hv rfl rfl rfl rfl ⟨rfl, rfl⟩
end
section
/-! Levy -/
abbrev dob (b : Nat) (tk mn kn sp hd hi er sh wn : Int32) : List Value := [.int tk, .int mn, .ref (b + 1), .ref (b + 2), .ref (b + 3), .ref (b + 4), .ref (b + 5), .int kn, .int sp, .int hd, .int hi, .int er, .int sh, .ref (b + 6), .int wn]
abbrev nob (b : Nat) (sp sd hl tk : Int32) : List Value := [.ref (b + 1), .ref (b + 2), .ref (b + 3), .ref (b + 4), .int sp, .int sd, .int hl, .int tk]
abbrev ai (f : Nat → Int32) : va_E := .inl (0, 6, .inl f)
def snd (o : Option Nat) : Int32 := match o with
  | none => -2
  | some q => nI q
/-- rows of small numbers -/
abbrev an (f : Nat → Nat) : va_E := .inl (0, 6, .inl (fun i => if i < 6 then nI (f i) else 0))
def bd (c : Nat) (f : Nat → Nat) : Prop := ∀ i, f i < c
theorem vp6 {k : Nat} (h : k < 6) : vp_in (nI k) 6 := vp_in_nI h (by decide)
theorem cl6 {k : Nat} (h : k < 6) : (nI k).toNatClampNeg = k := nI_clamp (by omega)
/-- whom each sends -/
abbrev sq (g : Nat → Option Nat) : va_E := .inl (0, 6, .inl (fun i => if i < 6 then snd (g i) else 0))
theorem sq_congr {g g' : Nat → Option Nat} (h : ∀ i, i < 6 → g i = g' i) : (fun i => if i < 6 then snd (g i) else (0 : Int32)) = (fun i => if i < 6 then snd (g' i) else 0) := by
  funext i
  split
  · rename_i hi; rw [h i hi]
  · rfl
theorem upd_s {g : Nat → Option Nat} {k : Nat} {o : Option Nat} (hk : k < 6) : upd (fun i => if i < 6 then snd (g i) else (0 : Int32)) k (snd o) = (fun i => if i < 6 then snd (va_up g k o i) else 0) := by
  funext i
  unfold upd va_up
  by_cases h : i = k
  · subst h; simp [hk]
  · simp [h]
theorem upd_n {f : Nat → Nat} {k y : Nat} (hk : k < 6) : upd (fun i => if i < 6 then nI (f i) else (0 : Int32)) k (nI y) = (fun i => if i < 6 then nI (va_up f k y i) else 0) := by
  funext i
  unfold upd va_up
  by_cases h : i = k
  · subst h; simp [hk]
  · simp [h]
theorem an_congr {f f' : Nat → Nat} (h : ∀ i, i < 6 → f i = f' i) : (fun i => if i < 6 then nI (f i) else (0 : Int32)) = (fun i => if i < 6 then nI (f' i) else 0) := by
  funext i
  split
  · rename_i hi; rw [h i hi]
  · rfl
section Short
variable {sta : mj_S} {Cl : mj_R} {M : mj_M} {T : Nat → mj_L → List Value → mj_H → Prop} {pc q len wp a k : Nat} {lv : mj_L} {st r : List Value} {h0 h : mj_H} {w : mj_W} {raw : Instr} {f : Nat → Nat} {g : Nat → Option Nat}
theorem g_n6 (hv : mj_Vw h0 w h) (j : Nat) (hk : k < 6) (he : mj_ent (mj_cd M) pc = some (q, .iaload, len, raw, wp)) (hj : mj_nth w j = some (a, an f)) (kk : mj_go sta Cl M T (q + len) lv (.int (nI (f k)) :: r) h) : mj_go sta Cl M T pc lv (.int (nI k) :: .ref a :: r) h := by
  refine g_iald hv j he hj (vp6 hk) ?_
  rw [cl6 hk, if_pos hk]
  exact kk
theorem g_s6 (hv : mj_Vw h0 w h) (j : Nat) (hk : k < 6) (he : mj_ent (mj_cd M) pc = some (q, .iaload, len, raw, wp)) (hj : mj_nth w j = some (a, sq g)) (kk : mj_go sta Cl M T (q + len) lv (.int (snd (g k)) :: r) h) : mj_go sta Cl M T pc lv (.int (nI k) :: .ref a :: r) h := by
  refine g_iald hv j he hj (vp6 hk) ?_
  rw [cl6 hk, if_pos hk]
  exact kk
theorem g_nst {y : Nat} (hv : mj_Vw h0 w h) (j : Nat) (hk : k < 6) (he : mj_ent (mj_cd M) pc = some (q, .iastore, len, raw, wp)) (hj : mj_nth w j = some (a, an f)) (kk : ∀ h, mj_Vw h0 (w.set j (a, an (va_up f k y))) h → mj_go sta Cl M T (q + len) lv r h) : mj_go sta Cl M T pc lv (.int (nI y) :: .int (nI k) :: .ref a :: r) h := by
  refine g_iast hv j he hj (vp6 hk) (fun h hv => ?_)
  rw [cl6 hk, upd_n hk] at hv
  exact kk h hv
theorem g_sst {o : Option Nat} (hv : mj_Vw h0 w h) (j : Nat) (hk : k < 6) (he : mj_ent (mj_cd M) pc = some (q, .iastore, len, raw, wp)) (hj : mj_nth w j = some (a, sq g)) (kk : ∀ h, mj_Vw h0 (w.set j (a, sq (va_up g k o))) h → mj_go sta Cl M T (q + len) lv r h) : mj_go sta Cl M T pc lv (.int (snd o) :: .int (nI k) :: .ref a :: r) h := by
  refine g_iast hv j he hj (vp6 hk) (fun h hv => ?_)
  rw [cl6 hk, upd_s hk] at hv
  exact kk h hv
end Short
theorem s_min (sta : mj_S) (d : Nat) (x y : Int32) : mj_Sx sta (d + 1) 283 [.int x, .int y] [] (fun v w => v = some (.int (if x ≤ y then x else y)) ∧ w = []) := by
  refine mj_Sx.mk m_J9_min (by decide) n_J9_min rfl (fun h hv => ?_)
  repeat (first | refine g_px rfl rfl rfl ?_)
  refine g_ic rfl (fun c => ?_) (fun c => ?_)
  · have c : y < x := c
    repeat (first | refine g_px rfl rfl rfl ?_)
    exact g_iret hv rfl rfl rfl rfl ⟨by rw [if_neg (Int32.not_le.mpr c)], rfl⟩
  · have c : ¬ y < x := c
    repeat (first | refine g_px rfl rfl rfl ?_)
    exact g_iret hv rfl rfl rfl rfl ⟨by rw [if_pos (Int32.not_lt.mp c)], rfl⟩
/-- the cheapest of those that may go, the first of like ones -/
def chp (ok : Nat → Bool) (A : Nat → Int32) : Nat → Option Nat
  | 0 => none
  | k + 1 => match chp ok A k with
    | none => if ok k then some k else none
    | some p => if ok k && decide (A k < A p) then some k else some p
def okc (bar : Nat) (so as : Nat → Int32) (cm wm : Int32) (q : Nat) : Bool := !bar.testBit q && (decide (so q ≠ 3) && (decide (as q ≤ cm) && decide (as q < wm)))
def lst (A : Nat → Int32) (z : Int32) (o : Option Nat) : Int32 := match o with
  | none => z
  | some p => A p - 1
theorem chp_ok {ok : Nat → Bool} {A : Nat → Int32} : ∀ {n p : Nat}, chp ok A n = some p → p < n ∧ ok p = true
  | 0, p, h => by cases h
  | n + 1, p, h => by
    unfold chp at h
    cases hc : chp ok A n with
    | none =>
      rw [hc] at h
      dsimp only at h
      split at h
      · rename_i hk; cases h; exact ⟨by omega, hk⟩
      · cases h
    | some q =>
      rw [hc] at h
      dsimp only at h
      have ih := chp_ok hc
      split at h
      · rename_i hk; cases h; exact ⟨by omega, by simp at hk; exact hk.1⟩
      · cases h; exact ⟨by omega, ih.2⟩
abbrev wch (b c : Nat) (n : Nat) (tk kn sp hd hi er sh wn s1 s2 s3 s4 : Int32) (wo as so co : Nat → Int32) : mj_W := [(b, .inr (1, dob b tk (nI n) kn sp hd hi er sh wn)), (c, .inr (5, nob c s1 s2 s3 s4)), (b + 2, ai wo), (b + 4, ai as), (c + 1, ai so), (c + 2, ai co)]
section Chp
variable (sta : mj_S) (d L b c n m bar : Nat) (tk kn sp hd hi er sh wn s1 s2 s3 s4 : Int32) (wo as so co : Nat → Int32)
theorem l_cheapest {h0 h : mj_H} {ks : List Nat} (hks : mj_ks (wch b c n tk kn sp hd hi er sh wn s1 s2 s3 s4 wo as so co) = ks) (hv : mj_Vw h0 (wch b c n tk kn sp hd hi er sh wn s1 s2 s3 s4 wo as so co) h) (hn : n ≤ 6) (hbar : bar < 64) (has : ∀ q, q < n → 0 ≤ as q) (z : Int32) (hz : ∀ q, q < n → (as q ≤ z ↔ as q ≤ co m ∧ as q < wo m)) :
    ∀ j k, k + j = n → mj_go sta (mj_Cl sta d) m_X4_cheapest (mj_rx m_X4_cheapest h0 ks (fun v w => v = some (.int (snd (chp (okc bar so as (co m) (wo m)) as n))) ∧ w = wch b c n tk kn sp hd hi er sh wn s1 s2 s3 s4 wo as so co)) 26
      [some (.ref L), some (.ref b), some (.ref c), some (.int (nI m)), some (.int (nI bar)), some (.int (snd (chp (okc bar so as (co m) (wo m)) as k))), some (.int (lst as z (chp (okc bar so as (co m) (wo m)) as k))), some (.int (nI k))] [] h := by
  intro j
  induction j with
  | zero =>
    intro k hk
    have hk : k = n := by omega
    subst hk
    repeat (first | refine g_px rfl rfl rfl ?_ | refine g_get hv 0 rfl rfl rfl rfl ?_ | refine g_get hv 1 rfl rfl rfl rfl ?_ | refine g_get hv 2 rfl rfl rfl rfl ?_ | refine g_get hv 3 rfl rfl rfl rfl ?_ | refine g_get hv 4 rfl rfl rfl rfl ?_ | refine g_get hv 5 rfl rfl rfl rfl ?_)
    refine g_ic rfl (fun c => ?_) (fun c => absurd (nI_le (Nat.le_refl k) (by omega)) c)
    repeat (first | refine g_px rfl rfl rfl ?_ | refine g_get hv 0 rfl rfl rfl rfl ?_ | refine g_get hv 1 rfl rfl rfl rfl ?_ | refine g_get hv 2 rfl rfl rfl rfl ?_ | refine g_get hv 3 rfl rfl rfl rfl ?_ | refine g_get hv 4 rfl rfl rfl rfl ?_ | refine g_get hv 5 rfl rfl rfl rfl ?_)
    exact g_iret hv rfl rfl rfl hks ⟨rfl, rfl⟩
  | succ j ih =>
    intro k hk
    have hkn : k < n := by omega
    have hk6 : k < 6 := by omega
    have hclamp := cl6 hk6
    -- the next round, with what it brings
    have next : ∀ o, o = chp (okc bar so as (co m) (wo m)) as (k + 1) → mj_go sta (mj_Cl sta d) m_X4_cheapest (mj_rx m_X4_cheapest h0 ks (fun v w => v = some (.int (snd (chp (okc bar so as (co m) (wo m)) as n))) ∧ w = wch b c n tk kn sp hd hi er sh wn s1 s2 s3 s4 wo as so co)) 83
      [some (.ref L), some (.ref b), some (.ref c), some (.int (nI m)), some (.int (nI bar)), some (.int (snd o)), some (.int (lst as z o)), some (.int (nI k))] [] h := by
      intro o ho
      subst ho
      refine g_run 2 rfl ?_
      have := ih (k + 1) (by omega)
      rw [nI_succ] at this
      exact this
    repeat (first | refine g_px rfl rfl rfl ?_ | refine g_get hv 0 rfl rfl rfl rfl ?_ | refine g_get hv 1 rfl rfl rfl rfl ?_ | refine g_get hv 2 rfl rfl rfl rfl ?_ | refine g_get hv 3 rfl rfl rfl rfl ?_ | refine g_get hv 4 rfl rfl rfl rfl ?_ | refine g_get hv 5 rfl rfl rfl rfl ?_)
    refine g_ic rfl (fun c => absurd c (nI_ge hkn (by omega))) (fun c => ?_)
    repeat (first | refine g_px rfl rfl rfl ?_ | refine g_get hv 0 rfl rfl rfl rfl ?_ | refine g_get hv 1 rfl rfl rfl rfl ?_ | refine g_get hv 2 rfl rfl rfl rfl ?_ | refine g_get hv 3 rfl rfl rfl rfl ?_ | refine g_get hv 4 rfl rfl rfl rfl ?_ | refine g_get hv 5 rfl rfl rfl rfl ?_)
    have hb := bt_get bar hbar k hk6
    refine g_if rfl (fun c => ?_) (fun c => ?_)
    · have c : ¬ ((nI bar >>> (nI k &&& 31)) &&& 1) = 0 := c
      have ht : bar.testBit k = true := by
        cases q : bar.testBit k with
        | true => rfl
        | false => rw [hb, q] at c; exact absurd rfl c
      refine next _ ?_
      have hok : okc bar so as (co m) (wo m) k = false := by simp [okc, ht]
      rw [chp]
      cases chp (okc bar so as (co m) (wo m)) as k <;> simp [hok]
    · have c : ¬ ¬ ((nI bar >>> (nI k &&& 31)) &&& 1) = 0 := c
      have ht : bar.testBit k = false := by
        cases q : bar.testBit k with
        | false => rfl
        | true => rw [hb, q] at c; exact absurd (by decide) c
      repeat (first | refine g_px rfl rfl rfl ?_ | refine g_get hv 0 rfl rfl rfl rfl ?_ | refine g_get hv 1 rfl rfl rfl rfl ?_ | refine g_get hv 2 rfl rfl rfl rfl ?_ | refine g_get hv 3 rfl rfl rfl rfl ?_ | refine g_get hv 4 rfl rfl rfl rfl ?_ | refine g_get hv 5 rfl rfl rfl rfl ?_)
      refine g_iald hv 4 rfl rfl (vp6 hk6) ?_
      rw [hclamp]
      repeat (first | refine g_px rfl rfl rfl ?_ | refine g_get hv 0 rfl rfl rfl rfl ?_ | refine g_get hv 1 rfl rfl rfl rfl ?_ | refine g_get hv 2 rfl rfl rfl rfl ?_ | refine g_get hv 3 rfl rfl rfl rfl ?_ | refine g_get hv 4 rfl rfl rfl rfl ?_ | refine g_get hv 5 rfl rfl rfl rfl ?_)
      refine g_ic rfl (fun c => ?_) (fun c => ?_)
      · have c : so k = 3 := c
        refine next _ ?_
        have hok : okc bar so as (co m) (wo m) k = false := by simp [okc, c]
        rw [chp]
        cases chp (okc bar so as (co m) (wo m)) as k <;> simp [hok]
      · have c : ¬ so k = 3 := c
        repeat (first | refine g_px rfl rfl rfl ?_ | refine g_get hv 0 rfl rfl rfl rfl ?_ | refine g_get hv 1 rfl rfl rfl rfl ?_ | refine g_get hv 2 rfl rfl rfl rfl ?_ | refine g_get hv 3 rfl rfl rfl rfl ?_ | refine g_get hv 4 rfl rfl rfl rfl ?_ | refine g_get hv 5 rfl rfl rfl rfl ?_)
        refine g_iald hv 3 rfl rfl (vp6 hk6) ?_
        rw [hclamp]
        repeat (first | refine g_px rfl rfl rfl ?_ | refine g_get hv 0 rfl rfl rfl rfl ?_ | refine g_get hv 1 rfl rfl rfl rfl ?_ | refine g_get hv 2 rfl rfl rfl rfl ?_ | refine g_get hv 3 rfl rfl rfl rfl ?_ | refine g_get hv 4 rfl rfl rfl rfl ?_ | refine g_get hv 5 rfl rfl rfl rfl ?_)
        have hcmp : as k ≤ lst as z (chp (okc bar so as (co m) (wo m)) as k) ↔ chp (okc bar so as (co m) (wo m)) as (k + 1) = some k := by
          rw [chp]
          cases hp : chp (okc bar so as (co m) (wo m)) as k with
          | none =>
            show as k ≤ z ↔ _
            rw [hz k hkn]
            simp [okc, ht, c]
          | some p =>
            have hpp := chp_ok hp
            show as k ≤ as p - 1 ↔ _
            rw [le_pred (has p (by omega))]
            have hop := hpp.2
            simp only [okc, Bool.and_eq_true, decide_eq_true_eq] at hop
            have : as k < as p → okc bar so as (co m) (wo m) k = true := by
              intro hlt
              simp only [okc, ht, Bool.not_false, Bool.true_and, Bool.and_eq_true, decide_eq_true_eq]
              exact ⟨c, Int32.le_trans (Int32.le_of_lt hlt) hop.2.2.1, Int32.lt_trans hlt hop.2.2.2⟩
            constructor
            · intro hlt
              simp [this hlt, hlt]
            · intro he
              dsimp only at he
              split at he
              · rename_i q; simp at q; exact q.2
              · cases he; omega
        refine g_ic rfl (fun c2 => ?_) (fun c2 => ?_)
        · have c2 : lst as z (chp (okc bar so as (co m) (wo m)) as k) < as k := c2
          refine next _ ?_
          have hne : ¬ chp (okc bar so as (co m) (wo m)) as (k + 1) = some k := fun q => absurd (hcmp.mpr q) (Int32.not_le.mpr c2)
          rw [chp] at hne ⊢
          cases hp : chp (okc bar so as (co m) (wo m)) as k with
          | none =>
            rw [hp] at hne
            dsimp only at hne ⊢
            split
            · rename_i q; rw [if_pos q] at hne; exact absurd rfl hne
            · rfl
          | some p =>
            rw [hp] at hne
            dsimp only at hne ⊢
            split
            · rename_i q; rw [if_pos q] at hne; exact absurd rfl hne
            · rfl
        · have c2 : ¬ lst as z (chp (okc bar so as (co m) (wo m)) as k) < as k := c2
          have he := hcmp.mp (Int32.not_lt.mp c2)
          repeat (first | refine g_px rfl rfl rfl ?_ | refine g_get hv 0 rfl rfl rfl rfl ?_ | refine g_get hv 1 rfl rfl rfl rfl ?_ | refine g_get hv 2 rfl rfl rfl rfl ?_ | refine g_get hv 3 rfl rfl rfl rfl ?_ | refine g_get hv 4 rfl rfl rfl rfl ?_ | refine g_get hv 5 rfl rfl rfl rfl ?_)
          refine g_iald hv 3 rfl rfl (vp6 hk6) ?_
          rw [hclamp]
          refine g_run 3 rfl ?_
          exact next (some k) he.symm
end Chp
def chn (ok : Nat → Bool) (A : Nat → Nat) : Nat → Option Nat
  | 0 => none
  | k + 1 => match chn ok A k with
    | none => if ok k then some k else none
    | some p => if ok k && decide (A k < A p) then some k else some p
def okn (bar : Nat) (sn A : Nat → Nat) (cm wm q : Nat) : Bool := !bar.testBit q && (decide (sn q ≠ 3) && (decide (A q ≤ cm) && decide (A q < wm)))
theorem lt3 : (3 : Int32) = nI 3 := by decide
theorem chn_ok {ok : Nat → Bool} {A : Nat → Nat} : ∀ {n p : Nat}, chn ok A n = some p → p < n ∧ ok p = true
  | 0, p, h => by cases h
  | n + 1, p, h => by
    unfold chn at h
    cases hc : chn ok A n with
    | none =>
      rw [hc] at h
      dsimp only at h
      split at h
      · rename_i hk; cases h; exact ⟨by omega, hk⟩
      · cases h
    | some q =>
      rw [hc] at h
      dsimp only at h
      have ih := chn_ok hc
      split at h
      · rename_i hk; cases h; exact ⟨by omega, by simp at hk; exact hk.1⟩
      · cases h; exact ⟨by omega, ih.2⟩
theorem okc_n {bar cm wm q : Nat} {sn A : Nat → Nat} {so as : Nat → Int32} (hs : so q = nI (sn q)) (ha : as q = nI (A q)) (h1 : sn q < 4) (h2 : A q < 1000) (h3 : cm < 1000) (h4 : wm < 1000) : okc bar so as (nI cm) (nI wm) q = okn bar sn A cm wm q := by
  unfold okc okn
  rw [hs, ha]
  have e1 : decide (nI (sn q) ≠ 3) = decide (sn q ≠ 3) := by
    rw [lt3]
    exact decide_eq_decide.mpr (not_congr (nI_eq (by omega) (by omega)))
  have e2 : decide (nI (A q) ≤ nI cm) = decide (A q ≤ cm) := decide_eq_decide.mpr (nI_leI (by omega) (by omega))
  have e3 : decide (nI (A q) < nI wm) = decide (A q < wm) := decide_eq_decide.mpr (nI_ltI (by omega) (by omega))
  rw [e1, e2, e3]
theorem chp_n {bar cm wm : Nat} {sn A : Nat → Nat} {so as : Nat → Int32} (hs : ∀ q, q < 6 → so q = nI (sn q)) (ha : ∀ q, q < 6 → as q = nI (A q)) (h1 : bd 4 sn) (h2 : bd 1000 A) (h3 : cm < 1000) (h4 : wm < 1000) : ∀ k, k ≤ 6 → chp (okc bar so as (nI cm) (nI wm)) as k = chn (okn bar sn A cm wm) A k
  | 0, _ => rfl
  | k + 1, hk => by
    rw [chp, chn, chp_n hs ha h1 h2 h3 h4 k (by omega), okc_n (hs k (by omega)) (ha k (by omega)) (h1 k) (h2 k) h3 h4]
    cases hc : chn (okn bar sn A cm wm) A k with
    | none => rfl
    | some p =>
      have a1 := h2 k
      have a2 := h2 p
      have hp : p < 6 := by have := (chn_ok hc).1; omega
      have e : decide (as k < as p) = decide (A k < A p) := by
        rw [ha k (by omega), ha p hp]
        exact decide_eq_decide.mpr (nI_ltI (by omega) (by omega))
      dsimp only
      rw [e]
theorem nI_pos0 {k : Nat} (h : k < 1000) : 0 ≤ nI k := nI_pos' (by omega)
/-- a draft's and a now's cells, those that a levy reads -/
abbrev wcn (b c n : Nat) (tk kn sp hd hi er sh wn s1 s2 s3 s4 : Int32) (W A sn C : Nat → Nat) : mj_W := [(b, .inr (1, dob b tk (nI n) kn sp hd hi er sh wn)), (c, .inr (5, nob c s1 s2 s3 s4)), (b + 2, an W), (b + 4, an A), (c + 1, an sn), (c + 2, an C)]
theorem s_cheapest (sta : mj_S) (d L b c n m bar : Nat) (tk kn sp hd hi er sh wn s1 s2 s3 s4 : Int32) (W A sn C : Nat → Nat) (hn : n ≤ 6) (hm : m < 6) (hbar : bar < 64) (hW : bd 1000 W) (hA : bd 1000 A) (hsn : bd 4 sn) (hC : bd 1000 C) :
    mj_Sx sta (d + 2) 31 [.ref L, .ref b, .ref c, .int (nI m), .int (nI bar)] (wcn b c n tk kn sp hd hi er sh wn s1 s2 s3 s4 W A sn C) (fun v w => v = some (.int (snd (chn (okn bar sn A (C m) (W m)) A n))) ∧ w = wcn b c n tk kn sp hd hi er sh wn s1 s2 s3 s4 W A sn C) := by
  refine mj_Sx.mk m_X4_cheapest (by decide) n_X4_cheapest rfl (fun h hv => ?_)
  repeat (first | refine g_px rfl rfl rfl ?_ | refine g_get hv 0 rfl rfl rfl rfl ?_ | refine g_get hv 1 rfl rfl rfl rfl ?_ | refine g_get hv 2 rfl rfl rfl rfl ?_ | refine g_get hv 3 rfl rfl rfl rfl ?_ | refine g_get hv 4 rfl rfl rfl rfl ?_ | refine g_get hv 5 rfl rfl rfl rfl ?_)
  refine g_n6 hv 5 hm rfl rfl ?_
  repeat (first | refine g_px rfl rfl rfl ?_ | refine g_get hv 0 rfl rfl rfl rfl ?_ | refine g_get hv 1 rfl rfl rfl rfl ?_ | refine g_get hv 2 rfl rfl rfl rfl ?_ | refine g_get hv 3 rfl rfl rfl rfl ?_ | refine g_get hv 4 rfl rfl rfl rfl ?_ | refine g_get hv 5 rfl rfl rfl rfl ?_)
  refine g_n6 hv 2 hm rfl rfl ?_
  repeat (first | refine g_px rfl rfl rfl ?_ | refine g_get hv 0 rfl rfl rfl rfl ?_ | refine g_get hv 1 rfl rfl rfl rfl ?_ | refine g_get hv 2 rfl rfl rfl rfl ?_ | refine g_get hv 3 rfl rfl rfl rfl ?_ | refine g_get hv 4 rfl rfl rfl rfl ?_ | refine g_get hv 5 rfl rfl rfl rfl ?_)
  refine g_callS hv [] rfl rfl rfl rfl rfl rfl rfl (by decide) (s_min sta d _ _) (fun v w' h hp hk hv => ?_)
  obtain ⟨rfl, rfl⟩ := hp
  refine g_run 3 rfl ?_
  have f6 : ∀ (f : Nat → Nat) q, q < 6 → (fun i => if i < 6 then nI (f i) else (0 : Int32)) q = nI (f q) := fun f q hq => if_pos hq
  have hz : ∀ q, q < n → ((fun i => if i < 6 then nI (A i) else (0 : Int32)) q ≤ (if nI (C m) ≤ nI (W m) - 1 then nI (C m) else nI (W m) - 1) ↔ (fun i => if i < 6 then nI (A i) else (0 : Int32)) q ≤ (fun i => if i < 6 then nI (C i) else (0 : Int32)) m ∧ (fun i => if i < 6 then nI (A i) else (0 : Int32)) q < (fun i => if i < 6 then nI (W i) else (0 : Int32)) m) := by
    intro q hq
    have w0 : 0 ≤ nI (W m) := nI_pos0 (hW m)
    rw [f6 A q (by omega), f6 C m hm, f6 W m hm, ← le_pred w0]
    split
    · rename_i hle
      exact ⟨fun z => ⟨z, Int32.le_trans z hle⟩, fun z => z.1⟩
    · rename_i hle
      have hlt := Int32.le_of_lt (Int32.not_le.mp hle)
      exact ⟨fun z => ⟨Int32.le_trans z hlt, z⟩, fun z => z.2⟩
  have key := l_cheapest sta (d + 1) L b c n m bar tk kn sp hd hi er sh wn s1 s2 s3 s4 (fun i => if i < 6 then nI (W i) else 0) (fun i => if i < 6 then nI (A i) else 0) (fun i => if i < 6 then nI (sn i) else 0) (fun i => if i < 6 then nI (C i) else 0) rfl hv hn hbar (fun q hq => by rw [if_pos (show q < 6 by omega)]; exact nI_pos0 (hA q)) _ hz n 0 (by omega)
  rw [if_pos hm, if_pos hm, chp_n (f6 sn) (f6 A) hsn hA (hC m) (hW m) n hn] at key
  exact key
/-- who is taken, and how many, of the first k of a row -/
def cms (t : Nat) (r sn kn : Nat → Nat) (lw : Nat) : Nat → Nat × Nat
  | 0 => (0, 0)
  | k + 1 => if (cms t r sn kn lw k).2 < t ∧ lw.testBit (sn (r k)) = false ∧ kn (r k) &&& (cms t r sn kn lw k).1 = 0 then ((cms t r sn kn lw k).1 ||| 2 ^ (r k), (cms t r sn kn lw k).2 + 1) else cms t r sn kn lw k
def cld (t : Nat) (r sn kn : Nat → Nat) (lw : Nat) : Nat → Nat → Nat
  | 0, k => k
  | j + 1, k => if (cms t r sn kn lw k).2 < t then cld t r sn kn lw j (k + 1) else k
theorem cms_lt {t : Nat} {r sn kn : Nat → Nat} {lw : Nat} (hr : bd 6 r) : ∀ k, (cms t r sn kn lw k).1 < 64 ∧ (cms t r sn kn lw k).2 ≤ k
  | 0 => ⟨Nat.le_of_ble_eq_true rfl, Nat.le_refl _⟩
  | k + 1 => by
    have ih := cms_lt (t := t) (sn := sn) (kn := kn) (lw := lw) hr k
    rw [cms]
    split
    · exact ⟨bt_lt _ ih.1 _ (hr k), by show _ + 1 ≤ k + 1; omega⟩
    · exact ⟨ih.1, by omega⟩
theorem cms_stop {t : Nat} {r sn kn : Nat → Nat} {lw : Nat} {k : Nat} (h : ¬ (cms t r sn kn lw k).2 < t) : ∀ j, cms t r sn kn lw (k + j) = cms t r sn kn lw k
  | 0 => rfl
  | j + 1 => by
    have ih := cms_stop h j
    show cms t r sn kn lw ((k + j) + 1) = _
    rw [cms, if_neg (fun q => h (by rw [ih] at q; exact q.1)), ih]
abbrev lob (L : Nat) (tb sb cl : Int32) : List Value := [.int tb, .int sb, .int cl, .ref (L + 1)]
theorem bt16 : ∀ b, b < 16 → ∀ k, k < 4 → ((nI b >>> (nI k &&& 31)) &&& 1) = if b.testBit k then 1 else 0 := by decide +kernel
theorem and0 : ∀ a, a < 64 → ∀ b, b < 64 → (nI a &&& nI b = 0 ↔ a &&& b = 0) := by decide +kernel
abbrev wcm (L b c ro n t : Nat) (tb sb cl kn sp hd hi er sh wn s1 s2 s3 s4 : Int32) (sn kin r : Nat → Nat) : mj_W := [(L, .inr (4, lob L tb sb cl)), (b, .inr (1, dob b (nI t) (nI n) kn sp hd hi er sh wn)), (c, .inr (5, nob c s1 s2 s3 s4)), (c + 1, an sn), (b + 5, an kin), (ro, an r)]
section CallMen
variable (sta : mj_S) (d L b c ro n t lw : Nat) (sb kn sp hd hi er sh wn s1 s2 s3 s4 : Int32) (sn kin r : Nat → Nat)
theorem l_callMen {h0 : mj_H} (hn : n ≤ 6) (ht : t ≤ 6) (hlw : lw < 16) (hsn : bd 4 sn) (hkin : bd 64 kin) (hr : bd 6 r) :
    ∀ j k h o, k + j = n → mj_Vw h0 (wcm L b c ro n t (nI (cms t r sn kin lw k).1) sb (nI k) kn sp hd hi er sh wn s1 s2 s3 s4 sn kin r) h → mj_go sta (mj_Cl sta d) m_X4_callMen (mj_rx m_X4_callMen h0 [L, b, c, c + 1, b + 5, ro] (fun v w => v = none ∧ w = wcm L b c ro n t (nI (cms t r sn kin lw n).1) sb (nI (cld t r sn kin lw j k)) kn sp hd hi er sh wn s1 s2 s3 s4 sn kin r)) 13
      [some (.ref L), some (.ref b), some (.ref c), some (.int (nI lw)), some (.ref ro), some (.int (nI (cms t r sn kin lw k).2)), o] [] h := by
  intro j
  induction j with
  | zero =>
    intro k h o hk hv
    have hk : k = n := by omega
    subst hk
    repeat (first | refine g_px rfl rfl rfl ?_ | refine g_get hv 0 rfl rfl rfl rfl ?_ | refine g_get hv 1 rfl rfl rfl rfl ?_ | refine g_get hv 2 rfl rfl rfl rfl ?_ | refine g_get hv 3 rfl rfl rfl rfl ?_ | refine g_get hv 4 rfl rfl rfl rfl ?_ | refine g_get hv 5 rfl rfl rfl rfl ?_)
    refine g_ic rfl (fun cq => ?_) (fun cq => absurd (nI_le (Nat.le_refl k) (by omega)) cq)
    exact g_vret hv rfl rfl rfl ⟨rfl, rfl⟩
  | succ j ih =>
    intro k h o hk hv
    have hkn : k < n := by omega
    have hk6 : k < 6 := by omega
    obtain ⟨b1, b2⟩ := cms_lt (t := t) (sn := sn) (kn := kin) (lw := lw) hr k
    repeat (first | refine g_px rfl rfl rfl ?_ | refine g_get hv 0 rfl rfl rfl rfl ?_ | refine g_get hv 1 rfl rfl rfl rfl ?_ | refine g_get hv 2 rfl rfl rfl rfl ?_ | refine g_get hv 3 rfl rfl rfl rfl ?_ | refine g_get hv 4 rfl rfl rfl rfl ?_ | refine g_get hv 5 rfl rfl rfl rfl ?_)
    refine g_ic rfl (fun cq => absurd cq (nI_ge hkn (by omega))) (fun cq => ?_)
    repeat (first | refine g_px rfl rfl rfl ?_ | refine g_get hv 0 rfl rfl rfl rfl ?_ | refine g_get hv 1 rfl rfl rfl rfl ?_ | refine g_get hv 2 rfl rfl rfl rfl ?_ | refine g_get hv 3 rfl rfl rfl rfl ?_ | refine g_get hv 4 rfl rfl rfl rfl ?_ | refine g_get hv 5 rfl rfl rfl rfl ?_)
    refine g_ic rfl (fun cq => ?_) (fun cq => ?_)
    · have cq : nI t ≤ nI (cms t r sn kin lw k).2 := cq
      have hc : ¬ (cms t r sn kin lw k).2 < t := Nat.not_lt.mpr ((nI_leI (by omega) (by omega)).mp cq)
      refine g_vret hv rfl rfl rfl ⟨rfl, ?_⟩
      rw [cld, if_neg hc, show n = k + (j + 1) by omega, cms_stop hc]
    · have cq : ¬ nI t ≤ nI (cms t r sn kin lw k).2 := cq
      have hc : (cms t r sn kin lw k).2 < t := Nat.not_le.mp (fun q => cq (nI_le q (by omega)))
      have hm : r k < 6 := hr k
      repeat (first | refine g_px rfl rfl rfl ?_ | refine g_get hv 0 rfl rfl rfl rfl ?_ | refine g_get hv 1 rfl rfl rfl rfl ?_ | refine g_get hv 2 rfl rfl rfl rfl ?_ | refine g_get hv 3 rfl rfl rfl rfl ?_ | refine g_get hv 4 rfl rfl rfl rfl ?_ | refine g_get hv 5 rfl rfl rfl rfl ?_)
      refine g_n6 hv 5 hk6 rfl rfl ?_
      repeat (first | refine g_px rfl rfl rfl ?_ | refine g_get hv 0 rfl rfl rfl rfl ?_ | refine g_get hv 1 rfl rfl rfl rfl ?_ | refine g_get hv 2 rfl rfl rfl rfl ?_ | refine g_get hv 3 rfl rfl rfl rfl ?_ | refine g_get hv 4 rfl rfl rfl rfl ?_ | refine g_get hv 5 rfl rfl rfl rfl ?_)
      refine g_n6 hv 3 hm rfl rfl ?_
      repeat (first | refine g_px rfl rfl rfl ?_ | refine g_get hv 0 rfl rfl rfl rfl ?_ | refine g_get hv 1 rfl rfl rfl rfl ?_ | refine g_get hv 2 rfl rfl rfl rfl ?_ | refine g_get hv 3 rfl rfl rfl rfl ?_ | refine g_get hv 4 rfl rfl rfl rfl ?_ | refine g_get hv 5 rfl rfl rfl rfl ?_)
      have hbit := bt16 lw hlw (sn (r k)) (hsn _)
      have next : ∀ T q h, (T, q) = cms t r sn kin lw (k + 1) → mj_Vw h0 (wcm L b c ro n t (nI T) sb (nI k) kn sp hd hi er sh wn s1 s2 s3 s4 sn kin r) h → mj_go sta (mj_Cl sta d) m_X4_callMen (mj_rx m_X4_callMen h0 [L, b, c, c + 1, b + 5, ro] (fun v w => v = none ∧ w = wcm L b c ro n t (nI (cms t r sn kin lw n).1) sb (nI (cld t r sn kin lw (j + 1) k)) kn sp hd hi er sh wn s1 s2 s3 s4 sn kin r)) 87
        [some (.ref L), some (.ref b), some (.ref c), some (.int (nI lw)), some (.ref ro), some (.int (nI q)), some (.int (nI (r k)))] [] h := by
        intro T q h e hv
        repeat (first | refine g_px rfl rfl rfl ?_ | refine g_get hv 0 rfl rfl rfl rfl ?_ | refine g_get hv 1 rfl rfl rfl rfl ?_ | refine g_get hv 2 rfl rfl rfl rfl ?_ | refine g_get hv 3 rfl rfl rfl rfl ?_ | refine g_get hv 4 rfl rfl rfl rfl ?_ | refine g_get hv 5 rfl rfl rfl rfl ?_)
        refine g_put hv 0 rfl rfl rfl rfl rfl rfl (fun h hv => ?_)
        refine g_run 1 rfl ?_
        rw [cld, if_pos hc]
        have e1 : T = (cms t r sn kin lw (k + 1)).1 := by rw [← e]
        have e2 : q = (cms t r sn kin lw (k + 1)).2 := by rw [← e]
        subst e1; subst e2
        refine ih (k + 1) h _ (by omega) ?_
        have hv : mj_Vw h0 (wcm L b c ro n t (nI (cms t r sn kin lw (k + 1)).1) sb (nI k + 1) kn sp hd hi er sh wn s1 s2 s3 s4 sn kin r) h := hv
        rw [← nI_succ] at hv
        exact hv
      refine g_if rfl (fun cq => ?_) (fun cq => ?_)
      · have cq : ¬ ((nI lw >>> (nI (sn (r k)) &&& 31)) &&& 1) = 0 := cq
        have ht : lw.testBit (sn (r k)) = true := by
          cases q : lw.testBit (sn (r k)) with
          | true => rfl
          | false => rw [hbit, q] at cq; exact absurd rfl cq
        refine next _ _ _ ?_ hv
        rw [cms, if_neg (fun z => by rw [ht] at z; cases z.2.1)]
      · have cq : ¬ ¬ ((nI lw >>> (nI (sn (r k)) &&& 31)) &&& 1) = 0 := cq
        have ht : lw.testBit (sn (r k)) = false := by
          cases q : lw.testBit (sn (r k)) with
          | false => rfl
          | true => rw [hbit, q] at cq; exact absurd (by decide) cq
        repeat (first | refine g_px rfl rfl rfl ?_ | refine g_get hv 0 rfl rfl rfl rfl ?_ | refine g_get hv 1 rfl rfl rfl rfl ?_ | refine g_get hv 2 rfl rfl rfl rfl ?_ | refine g_get hv 3 rfl rfl rfl rfl ?_ | refine g_get hv 4 rfl rfl rfl rfl ?_ | refine g_get hv 5 rfl rfl rfl rfl ?_)
        refine g_n6 hv 4 hm rfl rfl ?_
        repeat (first | refine g_px rfl rfl rfl ?_ | refine g_get hv 0 rfl rfl rfl rfl ?_ | refine g_get hv 1 rfl rfl rfl rfl ?_ | refine g_get hv 2 rfl rfl rfl rfl ?_ | refine g_get hv 3 rfl rfl rfl rfl ?_ | refine g_get hv 4 rfl rfl rfl rfl ?_ | refine g_get hv 5 rfl rfl rfl rfl ?_)
        have h0' := and0 (kin (r k)) (hkin _) _ b1
        refine g_if rfl (fun cq => ?_) (fun cq => ?_)
        · have cq : ¬ nI (kin (r k)) &&& nI (cms t r sn kin lw k).1 = 0 := cq
          refine next _ _ _ ?_ hv
          rw [cms, if_neg (fun z => cq (h0'.mpr z.2.2))]
        · have cq : ¬ ¬ nI (kin (r k)) &&& nI (cms t r sn kin lw k).1 = 0 := cq
          have hz := h0'.mp (Decidable.not_not.mp cq)
          repeat (first | refine g_px rfl rfl rfl ?_ | refine g_get hv 0 rfl rfl rfl rfl ?_ | refine g_get hv 1 rfl rfl rfl rfl ?_ | refine g_get hv 2 rfl rfl rfl rfl ?_ | refine g_get hv 3 rfl rfl rfl rfl ?_ | refine g_get hv 4 rfl rfl rfl rfl ?_ | refine g_get hv 5 rfl rfl rfl rfl ?_)
          refine g_put hv 0 rfl rfl rfl rfl rfl rfl (fun h hv => ?_)
          refine g_run 1 rfl ?_
          have hs := bt_set _ b1 _ hm
          have hv : mj_Vw h0 (wcm L b c ro n t (nI (cms t r sn kin lw k).1 ||| ((1 : Int32) <<< (nI (r k) &&& 31))) sb (nI k) kn sp hd hi er sh wn s1 s2 s3 s4 sn kin r) h := hv
          rw [hs] at hv
          have := next _ ((cms t r sn kin lw k).2 + 1) h (by rw [cms, if_pos ⟨hc, ht, hz⟩]) hv
          rw [nI_succ] at this
          exact this
theorem s_callMen (tb cl : Int32) (hn : n ≤ 6) (ht : t ≤ 6) (hlw : lw < 16) (hsn : bd 4 sn) (hkin : bd 64 kin) (hr : bd 6 r) : mj_Sx sta (d + 1) 30 [.ref L, .ref b, .ref c, .int (nI lw), .ref ro] (wcm L b c ro n t tb sb cl kn sp hd hi er sh wn s1 s2 s3 s4 sn kin r)
    (fun v w => v = none ∧ w = wcm L b c ro n t (nI (cms t r sn kin lw n).1) sb (nI (cld t r sn kin lw n 0)) kn sp hd hi er sh wn s1 s2 s3 s4 sn kin r) := by
  refine mj_Sx.mk m_X4_callMen (by decide) n_X4_callMen rfl (fun h hv => ?_)
  repeat (first | refine g_px rfl rfl rfl ?_ | refine g_get hv 0 rfl rfl rfl rfl ?_ | refine g_get hv 1 rfl rfl rfl rfl ?_ | refine g_get hv 2 rfl rfl rfl rfl ?_ | refine g_get hv 3 rfl rfl rfl rfl ?_ | refine g_get hv 4 rfl rfl rfl rfl ?_ | refine g_get hv 5 rfl rfl rfl rfl ?_)
  refine g_put hv 0 rfl rfl rfl rfl rfl rfl (fun h hv => ?_)
  repeat (first | refine g_px rfl rfl rfl ?_ | refine g_get hv 0 rfl rfl rfl rfl ?_ | refine g_get hv 1 rfl rfl rfl rfl ?_ | refine g_get hv 2 rfl rfl rfl rfl ?_ | refine g_get hv 3 rfl rfl rfl rfl ?_ | refine g_get hv 4 rfl rfl rfl rfl ?_ | refine g_get hv 5 rfl rfl rfl rfl ?_)
  refine g_put hv 0 rfl rfl rfl rfl rfl rfl (fun h hv => ?_)
  refine g_run 2 rfl ?_
  exact l_callMen sta d L b c ro n t lw sb kn sp hd hi er sh wn s1 s2 s3 s4 sn kin r hn ht hlw hsn hkin hr n 0 h _ (by omega) hv
end CallMen
end
section
/-! Levy.run, Levy.lost -/
/-- who is sent, and for whom, by the first i of a row -/
def rns (n T : Nat) (r sn W A C : Nat → Nat) : Nat → Nat × (Nat → Option Nat)
  | 0 => (0, fun _ => none)
  | i + 1 => if T.testBit (r i) then
      (match chn (okn (T ||| (rns n T r sn W A C i).1) sn A (C (r i)) (W (r i))) A n with
        | none => (rns n T r sn W A C i).1
        | some q => (rns n T r sn W A C i).1 ||| 2 ^ q, va_up (rns n T r sn W A C i).2 (r i) (chn (okn (T ||| (rns n T r sn W A C i).1) sn A (C (r i)) (W (r i))) A n))
    else rns n T r sn W A C i
theorem or64 : ∀ a, a < 64 → ∀ b, b < 64 → a ||| b < 64 ∧ nI a ||| nI b = nI (a ||| b) := by decide +kernel
theorem rns_lt {n T : Nat} {r sn W A C : Nat → Nat} (hn : n ≤ 6) : ∀ i, (rns n T r sn W A C i).1 < 64
  | 0 => Nat.le_of_ble_eq_true rfl
  | i + 1 => by
    have ih := rns_lt (T := T) (r := r) (sn := sn) (W := W) (A := A) (C := C) hn i
    rw [rns]
    split
    · show (match chn (okn (T ||| (rns n T r sn W A C i).1) sn A (C (r i)) (W (r i))) A n with
        | none => (rns n T r sn W A C i).1
        | some q => (rns n T r sn W A C i).1 ||| 2 ^ q) < 64
      cases hc : chn (okn (T ||| (rns n T r sn W A C i).1) sn A (C (r i)) (W (r i))) A n with
      | none => exact ih
      | some q => exact bt_lt _ ih _ (by have := (chn_ok hc).1; omega)
    · exact ih
theorem snd_nn {o : Option Nat} (h : ∀ q, o = some q → q < 6) : (snd o < 0 ↔ o = none) := by
  cases o with
  | none => exact ⟨fun _ => rfl, fun _ => by decide⟩
  | some q => exact ⟨fun z => absurd z (nI_pos (by have := h q rfl; omega)), fun z => by cases z⟩
abbrev wrn (L b c ro n t : Nat) (tb sb cl kn sp hd hi er sh wn s1 s2 s3 s4 : Int32) (sn kin r W A C : Nat → Nat) (g : Nat → Option Nat) : mj_W := [(L, .inr (4, lob L tb sb cl)), (b, .inr (1, dob b (nI t) (nI n) kn sp hd hi er sh wn)), (c, .inr (5, nob c s1 s2 s3 s4)), (c + 1, an sn), (b + 5, an kin), (ro, an r), (b + 2, an W), (b + 4, an A), (c + 2, an C), (L + 1, sq g)]
section Run
variable (sta : mj_S) (d L b c ro n t lw : Nat) (kn sp hd hi er sh wn s1 s2 s3 s4 : Int32) (sn kin r W A C : Nat → Nat)
theorem l_run2 {h0 : mj_H} {T cl : Nat} (hT : T < 64) (hcl : cl ≤ 6) (hn : n ≤ 6) (hW : bd 1000 W) (hA : bd 1000 A) (hsn : bd 4 sn) (hC : bd 1000 C) (hr : bd 6 r) :
    ∀ j k h o1 o2, k + j = cl → mj_Vw h0 (wrn L b c ro n t (nI T) (nI (rns n T r sn W A C k).1) (nI cl) kn sp hd hi er sh wn s1 s2 s3 s4 sn kin r W A C (rns n T r sn W A C k).2) h → mj_go sta (mj_Cl sta (d + 2)) m_X4_run (mj_rx m_X4_run h0 [L, b, c, c + 1, b + 5, ro, b + 2, b + 4, c + 2, L + 1] (fun v w => v = none ∧ w = wrn L b c ro n t (nI T) (nI (rns n T r sn W A C cl).1) (nI cl) kn sp hd hi er sh wn s1 s2 s3 s4 sn kin r W A C (rns n T r sn W A C cl).2)) 42
      [some (.ref L), some (.ref b), some (.ref c), some (.int (nI lw)), some (.ref ro), some (.int (nI k)), o1, o2] [] h := by
  intro j
  induction j with
  | zero =>
    intro k h o1 o2 hk hv
    have hk : k = cl := by omega
    subst hk
    repeat (first | refine g_px rfl rfl rfl ?_ | refine g_get hv 0 rfl rfl rfl rfl ?_ | refine g_get hv 1 rfl rfl rfl rfl ?_ | refine g_get hv 2 rfl rfl rfl rfl ?_ | refine g_get hv 3 rfl rfl rfl rfl ?_ | refine g_get hv 4 rfl rfl rfl rfl ?_ | refine g_get hv 5 rfl rfl rfl rfl ?_ | refine g_get hv 6 rfl rfl rfl rfl ?_ | refine g_get hv 7 rfl rfl rfl rfl ?_ | refine g_get hv 8 rfl rfl rfl rfl ?_ | refine g_get hv 9 rfl rfl rfl rfl ?_)
    refine g_ic rfl (fun cq => ?_) (fun cq => absurd (nI_le (Nat.le_refl k) (by omega)) cq)
    exact g_vret hv rfl rfl rfl ⟨rfl, rfl⟩
  | succ j ih =>
    intro k h o1 o2 hk hv
    have hkn : k < cl := by omega
    have hk6 : k < 6 := by omega
    have hm : r k < 6 := hr k
    have b1 := rns_lt (T := T) (r := r) (sn := sn) (W := W) (A := A) (C := C) hn k
    have hbit := bt_get T hT (r k) hm
    have hor := or64 T hT _ b1
    repeat (first | refine g_px rfl rfl rfl ?_ | refine g_get hv 0 rfl rfl rfl rfl ?_ | refine g_get hv 1 rfl rfl rfl rfl ?_ | refine g_get hv 2 rfl rfl rfl rfl ?_ | refine g_get hv 3 rfl rfl rfl rfl ?_ | refine g_get hv 4 rfl rfl rfl rfl ?_ | refine g_get hv 5 rfl rfl rfl rfl ?_ | refine g_get hv 6 rfl rfl rfl rfl ?_ | refine g_get hv 7 rfl rfl rfl rfl ?_ | refine g_get hv 8 rfl rfl rfl rfl ?_ | refine g_get hv 9 rfl rfl rfl rfl ?_)
    refine g_ic rfl (fun cq => absurd cq (nI_ge hkn (by omega))) (fun cq => ?_)
    repeat (first | refine g_px rfl rfl rfl ?_ | refine g_get hv 0 rfl rfl rfl rfl ?_ | refine g_get hv 1 rfl rfl rfl rfl ?_ | refine g_get hv 2 rfl rfl rfl rfl ?_ | refine g_get hv 3 rfl rfl rfl rfl ?_ | refine g_get hv 4 rfl rfl rfl rfl ?_ | refine g_get hv 5 rfl rfl rfl rfl ?_ | refine g_get hv 6 rfl rfl rfl rfl ?_ | refine g_get hv 7 rfl rfl rfl rfl ?_ | refine g_get hv 8 rfl rfl rfl rfl ?_ | refine g_get hv 9 rfl rfl rfl rfl ?_)
    refine g_n6 hv 5 hk6 rfl rfl ?_
    repeat (first | refine g_px rfl rfl rfl ?_ | refine g_get hv 0 rfl rfl rfl rfl ?_ | refine g_get hv 1 rfl rfl rfl rfl ?_ | refine g_get hv 2 rfl rfl rfl rfl ?_ | refine g_get hv 3 rfl rfl rfl rfl ?_ | refine g_get hv 4 rfl rfl rfl rfl ?_ | refine g_get hv 5 rfl rfl rfl rfl ?_ | refine g_get hv 6 rfl rfl rfl rfl ?_ | refine g_get hv 7 rfl rfl rfl rfl ?_ | refine g_get hv 8 rfl rfl rfl rfl ?_ | refine g_get hv 9 rfl rfl rfl rfl ?_)
    have next : ∀ h o1 o2, mj_Vw h0 (wrn L b c ro n t (nI T) (nI (rns n T r sn W A C (k + 1)).1) (nI cl) kn sp hd hi er sh wn s1 s2 s3 s4 sn kin r W A C (rns n T r sn W A C (k + 1)).2) h → mj_go sta (mj_Cl sta (d + 2)) m_X4_run (mj_rx m_X4_run h0 [L, b, c, c + 1, b + 5, ro, b + 2, b + 4, c + 2, L + 1] (fun v w => v = none ∧ w = wrn L b c ro n t (nI T) (nI (rns n T r sn W A C cl).1) (nI cl) kn sp hd hi er sh wn s1 s2 s3 s4 sn kin r W A C (rns n T r sn W A C cl).2)) 117
      [some (.ref L), some (.ref b), some (.ref c), some (.int (nI lw)), some (.ref ro), some (.int (nI k)), o1, o2] [] h := by
      intro h o1 o2 hv
      refine g_run 2 rfl ?_
      have := ih (k + 1) h o1 o2 (by omega) hv
      rw [nI_succ] at this
      exact this
    refine g_ic rfl (fun cq => ?_) (fun cq => ?_)
    · have cq : ¬ ((nI T >>> (nI (r k) &&& 31)) &&& 1) = 1 := cq
      have ht : T.testBit (r k) = false := by
        cases q : T.testBit (r k) with
        | false => rfl
        | true => rw [hbit, q] at cq; exact absurd rfl cq
      refine next h _ _ ?_
      rw [rns, ht]
      exact hv
    · have cq : ¬ ¬ ((nI T >>> (nI (r k) &&& 31)) &&& 1) = 1 := cq
      have ht : T.testBit (r k) = true := by
        cases q : T.testBit (r k) with
        | true => rfl
        | false => rw [hbit, q] at cq; exact absurd (by decide) cq
      repeat (first | refine g_px rfl rfl rfl ?_ | refine g_get hv 0 rfl rfl rfl rfl ?_ | refine g_get hv 1 rfl rfl rfl rfl ?_ | refine g_get hv 2 rfl rfl rfl rfl ?_ | refine g_get hv 3 rfl rfl rfl rfl ?_ | refine g_get hv 4 rfl rfl rfl rfl ?_ | refine g_get hv 5 rfl rfl rfl rfl ?_ | refine g_get hv 6 rfl rfl rfl rfl ?_ | refine g_get hv 7 rfl rfl rfl rfl ?_ | refine g_get hv 8 rfl rfl rfl rfl ?_ | refine g_get hv 9 rfl rfl rfl rfl ?_)
      rw [hor.2]
      refine g_callV hv [1, 2, 6, 7, 3, 8] 0 rfl rfl rfl rfl rfl rfl rfl rfl (by decide) (s_cheapest sta d L b c n (r k) (T ||| (rns n T r sn W A C k).1) _ kn sp hd hi er sh wn s1 s2 s3 s4 W A sn C hn hm hor.1 hW hA hsn hC) (fun v w' h hp hk hv => ?_)
      obtain ⟨rfl, rfl⟩ := hp
      generalize ho : chn (okn (T ||| (rns n T r sn W A C k).1) sn A (C (r k)) (W (r k))) A n = o at hv ⊢
      have hv : mj_Vw h0 (wrn L b c ro n t (nI T) (nI (rns n T r sn W A C k).1) (nI cl) kn sp hd hi er sh wn s1 s2 s3 s4 sn kin r W A C (rns n T r sn W A C k).2) h := hv
      repeat (first | refine g_px rfl rfl rfl ?_ | refine g_get hv 0 rfl rfl rfl rfl ?_ | refine g_get hv 1 rfl rfl rfl rfl ?_ | refine g_get hv 2 rfl rfl rfl rfl ?_ | refine g_get hv 3 rfl rfl rfl rfl ?_ | refine g_get hv 4 rfl rfl rfl rfl ?_ | refine g_get hv 5 rfl rfl rfl rfl ?_ | refine g_get hv 6 rfl rfl rfl rfl ?_ | refine g_get hv 7 rfl rfl rfl rfl ?_ | refine g_get hv 8 rfl rfl rfl rfl ?_ | refine g_get hv 9 rfl rfl rfl rfl ?_)
      refine g_iast hv 9 rfl rfl (vp6 hm) (fun h hv => ?_)
      rw [cl6 hm, upd_s hm] at hv
      have hv : mj_Vw h0 (wrn L b c ro n t (nI T) (nI (rns n T r sn W A C k).1) (nI cl) kn sp hd hi er sh wn s1 s2 s3 s4 sn kin r W A C (va_up (rns n T r sn W A C k).2 (r k) o)) h := hv
      repeat (first | refine g_px rfl rfl rfl ?_ | refine g_get hv 0 rfl rfl rfl rfl ?_ | refine g_get hv 1 rfl rfl rfl rfl ?_ | refine g_get hv 2 rfl rfl rfl rfl ?_ | refine g_get hv 3 rfl rfl rfl rfl ?_ | refine g_get hv 4 rfl rfl rfl rfl ?_ | refine g_get hv 5 rfl rfl rfl rfl ?_ | refine g_get hv 6 rfl rfl rfl rfl ?_ | refine g_get hv 7 rfl rfl rfl rfl ?_ | refine g_get hv 8 rfl rfl rfl rfl ?_ | refine g_get hv 9 rfl rfl rfl rfl ?_)
      have ho6 : ∀ q, o = some q → q < 6 := fun q hq => by have := (chn_ok (ho.trans hq)).1; omega
      refine g_if rfl (fun cq => ?_) (fun cq => ?_)
      · have e : o = none := (snd_nn ho6).mp cq
        subst e
        refine next h _ _ ?_
        rw [rns, if_pos ht, ho]
        exact hv
      · cases o with
        | none => exact absurd (show snd none < 0 by decide) cq
        | some q =>
          have hq := ho6 q rfl
          repeat (first | refine g_px rfl rfl rfl ?_ | refine g_get hv 0 rfl rfl rfl rfl ?_ | refine g_get hv 1 rfl rfl rfl rfl ?_ | refine g_get hv 2 rfl rfl rfl rfl ?_ | refine g_get hv 3 rfl rfl rfl rfl ?_ | refine g_get hv 4 rfl rfl rfl rfl ?_ | refine g_get hv 5 rfl rfl rfl rfl ?_ | refine g_get hv 6 rfl rfl rfl rfl ?_ | refine g_get hv 7 rfl rfl rfl rfl ?_ | refine g_get hv 8 rfl rfl rfl rfl ?_ | refine g_get hv 9 rfl rfl rfl rfl ?_)
          refine g_put hv 0 rfl rfl rfl rfl rfl rfl (fun h hv => ?_)
          refine next h _ _ ?_
          rw [rns, if_pos ht, ho]
          have hv : mj_Vw h0 (wrn L b c ro n t (nI T) (nI (rns n T r sn W A C k).1 ||| ((1 : Int32) <<< (nI q &&& 31))) (nI cl) kn sp hd hi er sh wn s1 s2 s3 s4 sn kin r W A C (va_up (rns n T r sn W A C k).2 (r k) (some q))) h := hv
          rw [bt_set _ b1 _ hq] at hv
          exact hv
theorem cld_le {t : Nat} {r sn kn : Nat → Nat} {lw : Nat} : ∀ j k, cld t r sn kn lw j k ≤ k + j
  | 0, k => Nat.le_refl _
  | j + 1, k => by
    rw [cld]
    split
    · have := cld_le (t := t) (r := r) (sn := sn) (kn := kn) (lw := lw) j (k + 1); omega
    · omega
theorem l_run1 {h0 : mj_H} {T cl : Nat} (hT : T < 64) (hcl : cl ≤ 6) (hn : n ≤ 6) (hW : bd 1000 W) (hA : bd 1000 A) (hsn : bd 4 sn) (hC : bd 1000 C) (hr : bd 6 r) :
    ∀ j k h g, k + j = 6 → (∀ i, i < k → g i = none) → mj_Vw h0 (wrn L b c ro n t (nI T) (nI 0) (nI cl) kn sp hd hi er sh wn s1 s2 s3 s4 sn kin r W A C g) h → mj_go sta (mj_Cl sta (d + 2)) m_X4_run (mj_rx m_X4_run h0 [L, b, c, c + 1, b + 5, ro, b + 2, b + 4, c + 2, L + 1] (fun v w => v = none ∧ w = wrn L b c ro n t (nI T) (nI (rns n T r sn W A C cl).1) (nI cl) kn sp hd hi er sh wn s1 s2 s3 s4 sn kin r W A C (rns n T r sn W A C cl).2)) 17
      [some (.ref L), some (.ref b), some (.ref c), some (.int (nI lw)), some (.ref ro), some (.int (nI k)), none, none] [] h := by
  intro j
  induction j with
  | zero =>
    intro k h g hk hg hv
    have hk : k = 6 := by omega
    subst hk
    repeat (first | refine g_px rfl rfl rfl ?_ | refine g_get hv 0 rfl rfl rfl rfl ?_ | refine g_get hv 1 rfl rfl rfl rfl ?_ | refine g_get hv 2 rfl rfl rfl rfl ?_ | refine g_get hv 3 rfl rfl rfl rfl ?_ | refine g_get hv 4 rfl rfl rfl rfl ?_ | refine g_get hv 5 rfl rfl rfl rfl ?_ | refine g_get hv 6 rfl rfl rfl rfl ?_ | refine g_get hv 7 rfl rfl rfl rfl ?_ | refine g_get hv 8 rfl rfl rfl rfl ?_ | refine g_get hv 9 rfl rfl rfl rfl ?_)
    refine g_ic rfl (fun cq => ?_) (fun cq => absurd (show (Int8.ofInt 6).toInt32 ≤ nI 6 by decide) cq)
    refine g_run 2 rfl ?_
    have hv : mj_Vw h0 (wrn L b c ro n t (nI T) (nI 0) (nI cl) kn sp hd hi er sh wn s1 s2 s3 s4 sn kin r W A C (fun _ => none)) h := by
      have e := sq_congr (g := g) (g' := fun _ => none) (fun i hi => hg i hi)
      unfold wrn sq at hv ⊢
      rw [e] at hv
      exact hv
    exact l_run2 sta d L b c ro n t lw kn sp hd hi er sh wn s1 s2 s3 s4 sn kin r W A C hT (by omega) hn hW hA hsn hC hr cl 0 h none none (by omega) hv
  | succ j ih =>
    intro k h g hk hg hv
    have hk6 : k < 6 := by omega
    repeat (first | refine g_px rfl rfl rfl ?_ | refine g_get hv 0 rfl rfl rfl rfl ?_ | refine g_get hv 1 rfl rfl rfl rfl ?_ | refine g_get hv 2 rfl rfl rfl rfl ?_ | refine g_get hv 3 rfl rfl rfl rfl ?_ | refine g_get hv 4 rfl rfl rfl rfl ?_ | refine g_get hv 5 rfl rfl rfl rfl ?_ | refine g_get hv 6 rfl rfl rfl rfl ?_ | refine g_get hv 7 rfl rfl rfl rfl ?_ | refine g_get hv 8 rfl rfl rfl rfl ?_ | refine g_get hv 9 rfl rfl rfl rfl ?_)
    refine g_ic rfl (fun cq => absurd cq (nI_ge (a := k) (b := 6) hk6 (by decide))) (fun cq => ?_)
    repeat (first | refine g_px rfl rfl rfl ?_ | refine g_get hv 0 rfl rfl rfl rfl ?_ | refine g_get hv 1 rfl rfl rfl rfl ?_ | refine g_get hv 2 rfl rfl rfl rfl ?_ | refine g_get hv 3 rfl rfl rfl rfl ?_ | refine g_get hv 4 rfl rfl rfl rfl ?_ | refine g_get hv 5 rfl rfl rfl rfl ?_ | refine g_get hv 6 rfl rfl rfl rfl ?_ | refine g_get hv 7 rfl rfl rfl rfl ?_ | refine g_get hv 8 rfl rfl rfl rfl ?_ | refine g_get hv 9 rfl rfl rfl rfl ?_)
    refine g_iast hv 9 rfl rfl (vp6 hk6) (fun h hv => ?_)
    rw [cl6 hk6, show (Int8.ofInt (-2)).toInt32 = snd none from rfl, upd_s hk6] at hv
    refine g_run 2 rfl ?_
    have := ih (k + 1) h (va_up g k none) (by omega) (fun i hi => by
      unfold va_up
      split
      · rfl
      · exact hg i (by omega)) hv
    rw [nI_succ] at this
    exact this
theorem s_run (tb sb cl : Int32) (g : Nat → Option Nat) (hn : n ≤ 6) (ht : t ≤ 6) (hlw : lw < 16) (hW : bd 1000 W) (hA : bd 1000 A) (hsn : bd 4 sn) (hC : bd 1000 C) (hkin : bd 64 kin) (hr : bd 6 r) :
    mj_Sx sta (d + 3) 29 [.ref L, .ref b, .ref c, .int (nI lw), .ref ro] (wrn L b c ro n t tb sb cl kn sp hd hi er sh wn s1 s2 s3 s4 sn kin r W A C g)
    (fun v w => v = none ∧ w = wrn L b c ro n t (nI (cms t r sn kin lw n).1) (nI (rns n (cms t r sn kin lw n).1 r sn W A C (cld t r sn kin lw n 0)).1) (nI (cld t r sn kin lw n 0)) kn sp hd hi er sh wn s1 s2 s3 s4 sn kin r W A C (rns n (cms t r sn kin lw n).1 r sn W A C (cld t r sn kin lw n 0)).2) := by
  refine mj_Sx.mk m_X4_run (by decide) n_X4_run rfl (fun h hv => ?_)
  repeat (first | refine g_px rfl rfl rfl ?_ | refine g_get hv 0 rfl rfl rfl rfl ?_ | refine g_get hv 1 rfl rfl rfl rfl ?_ | refine g_get hv 2 rfl rfl rfl rfl ?_ | refine g_get hv 3 rfl rfl rfl rfl ?_ | refine g_get hv 4 rfl rfl rfl rfl ?_ | refine g_get hv 5 rfl rfl rfl rfl ?_ | refine g_get hv 6 rfl rfl rfl rfl ?_ | refine g_get hv 7 rfl rfl rfl rfl ?_ | refine g_get hv 8 rfl rfl rfl rfl ?_ | refine g_get hv 9 rfl rfl rfl rfl ?_)
  refine g_callV hv [0, 1, 2, 3, 4, 5] 0 rfl rfl rfl rfl rfl rfl rfl rfl (by decide) (s_callMen sta (d + 1) L b c ro n t lw sb kn sp hd hi er sh wn s1 s2 s3 s4 sn kin r tb cl hn ht hlw hsn hkin hr) (fun v w' h hp hk hv => ?_)
  obtain ⟨rfl, rfl⟩ := hp
  generalize hT : (cms t r sn kin lw n).1 = T at hv ⊢
  have hT64 : T < 64 := by rw [← hT]; exact (cms_lt hr n).1
  have hcl := cld_le (t := t) (r := r) (sn := sn) (kn := kin) (lw := lw) n 0
  generalize cld t r sn kin lw n 0 = cl' at hv hcl ⊢
  repeat (first | refine g_px rfl rfl rfl ?_ | refine g_get hv 0 rfl rfl rfl rfl ?_ | refine g_get hv 1 rfl rfl rfl rfl ?_ | refine g_get hv 2 rfl rfl rfl rfl ?_ | refine g_get hv 3 rfl rfl rfl rfl ?_ | refine g_get hv 4 rfl rfl rfl rfl ?_ | refine g_get hv 5 rfl rfl rfl rfl ?_ | refine g_get hv 6 rfl rfl rfl rfl ?_ | refine g_get hv 7 rfl rfl rfl rfl ?_ | refine g_get hv 8 rfl rfl rfl rfl ?_ | refine g_get hv 9 rfl rfl rfl rfl ?_)
  refine g_put hv 0 rfl rfl rfl rfl rfl rfl (fun h hv => ?_)
  have hv : mj_Vw _ (wrn L b c ro n t (nI T) (nI 0) (nI cl') kn sp hd hi er sh wn s1 s2 s3 s4 sn kin r W A C g) h := hv
  refine g_run 2 rfl ?_
  exact l_run1 sta d L b c ro n t lw kn sp hd hi er sh wn s1 s2 s3 s4 sn kin r W A C hT64 (by omega) hn hW hA hsn hC hr 6 0 h g (by omega) (fun i hi => by omega) hv
end Run
/-- what a man loses -/
def los (T : Nat) (g : Nat → Option Nat) (W A : Nat → Nat) (m : Nat) : Nat := if T.testBit m then (match g m with
  | none => W m
  | some q => A q) else 0
theorem sq_at {g : Nat → Option Nat} {k : Nat} (hk : k < 6) : (fun i => if i < 6 then snd (g i) else (0 : Int32)) k = snd (g k) := if_pos hk
theorem s_lost (sta : mj_S) (d L b m T : Nat) (sb cl tk mn kn sp hd hi er sh wn : Int32) (g : Nat → Option Nat) (W A : Nat → Nat) (hm : m < 6) (hT : T < 64) (hg : ∀ q, g m = some q → q < 6) :
    mj_Sx sta (d + 1) 32 [.ref L, .ref b, .int (nI m)] [(L, .inr (4, lob L (nI T) sb cl)), (L + 1, sq g), (b, .inr (1, dob b tk mn kn sp hd hi er sh wn)), (b + 2, an W), (b + 4, an A)]
    (fun v w => v = some (.int (nI (los T g W A m))) ∧ w = [(L, .inr (4, lob L (nI T) sb cl)), (L + 1, sq g), (b, .inr (1, dob b tk mn kn sp hd hi er sh wn)), (b + 2, an W), (b + 4, an A)]) := by
  refine mj_Sx.mk m_X4_lost (by decide) n_X4_lost rfl (fun h hv => ?_)
  have hbit := bt_get T hT m hm
  repeat (first | refine g_px rfl rfl rfl ?_ | refine g_get hv 0 rfl rfl rfl rfl ?_ | refine g_get hv 1 rfl rfl rfl rfl ?_ | refine g_get hv 2 rfl rfl rfl rfl ?_ | refine g_get hv 3 rfl rfl rfl rfl ?_ | refine g_get hv 4 rfl rfl rfl rfl ?_)
  refine g_if rfl (fun cq => ?_) (fun cq => ?_)
  · have cq : ¬ ((nI T >>> (nI m &&& 31)) &&& 1) = 0 := cq
    have ht : T.testBit m = true := by
      cases q : T.testBit m with
      | true => rfl
      | false => rw [hbit, q] at cq; exact absurd rfl cq
    repeat (first | refine g_px rfl rfl rfl ?_ | refine g_get hv 0 rfl rfl rfl rfl ?_ | refine g_get hv 1 rfl rfl rfl rfl ?_ | refine g_get hv 2 rfl rfl rfl rfl ?_ | refine g_get hv 3 rfl rfl rfl rfl ?_ | refine g_get hv 4 rfl rfl rfl rfl ?_)
    refine g_iald hv 1 rfl rfl (vp6 hm) ?_
    rw [cl6 hm, if_pos hm]
    refine g_if rfl (fun cq => ?_) (fun cq => ?_)
    · have cq : 0 ≤ snd (g m) := cq
      cases e : g m with
      | none => rw [e] at cq; exact absurd cq (by decide)
      | some q =>
        have hq := hg q e
        repeat (first | refine g_px rfl rfl rfl ?_ | refine g_get hv 0 rfl rfl rfl rfl ?_ | refine g_get hv 1 rfl rfl rfl rfl ?_ | refine g_get hv 2 rfl rfl rfl rfl ?_ | refine g_get hv 3 rfl rfl rfl rfl ?_ | refine g_get hv 4 rfl rfl rfl rfl ?_)
        refine g_iald hv 1 rfl rfl (vp6 hm) ?_
        rw [cl6 hm, if_pos hm, e]
        refine g_n6 hv 4 hq rfl rfl ?_
        refine g_iret hv rfl rfl rfl rfl ⟨?_, rfl⟩
        rw [los, if_pos ht, e]
    · have cq : ¬ 0 ≤ snd (g m) := cq
      have e : g m = none := by
        cases e : g m with
        | none => rfl
        | some q => rw [e] at cq; exact absurd (nI_pos' (by have := hg q e; omega)) cq
      repeat (first | refine g_px rfl rfl rfl ?_ | refine g_get hv 0 rfl rfl rfl rfl ?_ | refine g_get hv 1 rfl rfl rfl rfl ?_ | refine g_get hv 2 rfl rfl rfl rfl ?_ | refine g_get hv 3 rfl rfl rfl rfl ?_ | refine g_get hv 4 rfl rfl rfl rfl ?_)
      refine g_n6 hv 3 hm rfl rfl ?_
      repeat (first | refine g_px rfl rfl rfl ?_ | refine g_get hv 0 rfl rfl rfl rfl ?_ | refine g_get hv 1 rfl rfl rfl rfl ?_ | refine g_get hv 2 rfl rfl rfl rfl ?_ | refine g_get hv 3 rfl rfl rfl rfl ?_ | refine g_get hv 4 rfl rfl rfl rfl ?_)
      refine g_iret hv rfl rfl rfl rfl ⟨?_, rfl⟩
      rw [los, if_pos ht, e]
  · have cq : ¬ ¬ ((nI T >>> (nI m &&& 31)) &&& 1) = 0 := cq
    have ht : T.testBit m = false := by
      cases q : T.testBit m with
      | false => rfl
      | true => rw [hbit, q] at cq; exact absurd (by decide) cq
    repeat (first | refine g_px rfl rfl rfl ?_ | refine g_get hv 0 rfl rfl rfl rfl ?_ | refine g_get hv 1 rfl rfl rfl rfl ?_ | refine g_get hv 2 rfl rfl rfl rfl ?_ | refine g_get hv 3 rfl rfl rfl rfl ?_ | refine g_get hv 4 rfl rfl rfl rfl ?_)
    refine g_iret hv rfl rfl rfl rfl ⟨?_, rfl⟩
    rw [los, ht]
    rfl
end
section
/-! rows: swap, turn, nextRow, byNumbers, numberOf, goers -/
def swp (r : Nat → Nat) (i j : Nat) : Nat → Nat := va_up (va_up r i (r j)) j (r i)
def trn : Nat → (Nat → Nat) → Nat → Nat → (Nat → Nat)
  | 0, r, _, _ => r
  | f + 1, r, i, j => if i < j then trn f (swp r i j) (i + 1) (j - 1) else r
theorem swp_bd {c : Nat} {r : Nat → Nat} {i j : Nat} (h : bd c r) : bd c (swp r i j) := by
  intro x
  unfold swp va_up
  split
  · exact h i
  · split
    · exact h j
    · exact h x
theorem trn_bd {c : Nat} : ∀ (f : Nat) {r : Nat → Nat} {i j : Nat}, bd c r → bd c (trn f r i j)
  | 0, r, i, j, h => h
  | f + 1, r, i, j, h => by
    rw [trn]
    split
    · exact trn_bd f (swp_bd h)
    · exact h
theorem s_swap (sta : mj_S) (d ro i j : Nat) (r : Nat → Nat) (hi : i < 6) (hj : j < 6) : mj_Sx sta (d + 1) 153 [.ref ro, .int (nI i), .int (nI j)] [(ro, an r)] (fun v w => v = none ∧ w = [(ro, an (swp r i j))]) := by
  refine mj_Sx.mk m_X8_swap (by decide) n_X8_swap rfl (fun h hv => ?_)
  repeat (first | refine g_px rfl rfl rfl ?_ | refine g_get hv 0 rfl rfl rfl rfl ?_)
  refine g_n6 hv 0 hi rfl rfl ?_
  repeat (first | refine g_px rfl rfl rfl ?_ | refine g_get hv 0 rfl rfl rfl rfl ?_)
  refine g_n6 hv 0 hj rfl rfl ?_
  refine g_nst hv 0 hi rfl rfl (fun h hv => ?_)
  repeat (first | refine g_px rfl rfl rfl ?_ | refine g_get hv 0 rfl rfl rfl rfl ?_)
  refine g_nst hv 0 hj rfl rfl (fun h hv => ?_)
  exact g_vret hv rfl rfl rfl ⟨rfl, rfl⟩
theorem nI_m1 {j : Nat} (h : 0 < j) : nI j + Int32.ofInt (-1) = nI (j - 1) := sb_m1 h
theorem sub1 (x : Int32) : x - 1 = x + Int32.ofInt (-1) := by
  rw [Int32.sub_eq_add_neg]
  rfl
theorem l_turn (sta : mj_S) (d ro fr to : Nat) {h0 : mj_H} (Post : Option Value → mj_W → Prop) :
    ∀ (f : Nat) (r : Nat → Nat) (i j : Nat) (h : mj_H), i ≤ 6 → j < 6 → j < i + 2 * f → Post none [(ro, an (trn f r i j))] → mj_Vw h0 [(ro, an r)] h → mj_go sta (mj_Cl sta (d + 1)) m_X8_turn (mj_rx m_X8_turn h0 [ro] Post) 5 [some (.ref ro), some (.int (nI fr)), some (.int (nI to)), some (.int (nI i)), some (.int (nI j))] [] h := by
  intro f
  induction f with
  | zero =>
    intro r i j h hi hj hf hp hv
    repeat (first | refine g_px rfl rfl rfl ?_ | refine g_get hv 0 rfl rfl rfl rfl ?_)
    refine g_ic rfl (fun cq => ?_) (fun cq => absurd (nI_le (a := j) (b := i) (by omega) (by omega)) cq)
    exact g_vret hv rfl rfl rfl hp
  | succ f ih =>
    intro r i j h hi hj hf hp hv
    rw [trn] at hp
    repeat (first | refine g_px rfl rfl rfl ?_ | refine g_get hv 0 rfl rfl rfl rfl ?_)
    refine g_ic rfl (fun cq => ?_) (fun cq => ?_)
    · have cq : nI j ≤ nI i := cq
      have hle := (nI_leI (by omega) (by omega)).mp cq
      rw [if_neg (by omega)] at hp
      exact g_vret hv rfl rfl rfl hp
    · have cq : ¬ nI j ≤ nI i := cq
      have hlt : i < j := Nat.not_le.mp fun q => cq (nI_le q (by omega))
      rw [if_pos hlt] at hp
      repeat (first | refine g_px rfl rfl rfl ?_ | refine g_get hv 0 rfl rfl rfl rfl ?_)
      refine g_callS hv [0] rfl rfl rfl rfl rfl rfl rfl (by decide) (s_swap sta d ro i j r (by omega) (by omega)) (fun v w' h hq hk hv => ?_)
      obtain ⟨rfl, rfl⟩ := hq
      refine g_run 3 rfl ?_
      have := ih (swp r i j) (i + 1) (j - 1) h (by omega) (by omega) (by omega) hp hv
      rw [nI_succ, ← nI_m1 (by omega)] at this
      exact this
theorem s_turn (sta : mj_S) (d ro i j : Nat) (r : Nat → Nat) (hi : i ≤ 6) (hj : j < 6) : mj_Sx sta (d + 2) 154 [.ref ro, .int (nI i), .int (nI j)] [(ro, an r)] (fun v w => v = none ∧ w = [(ro, an (trn 3 r i j))]) := by
  refine mj_Sx.mk m_X8_turn (by decide) n_X8_turn rfl (fun h hv => ?_)
  refine g_run 4 rfl ?_
  exact l_turn sta d ro i j _ 3 r i j h hi hj (by omega) ⟨rfl, rfl⟩ hv
/-- the place behind which a row falls no more -/
def fdi (r : Nat → Nat) : Nat → Nat
  | 0 => 0
  | k + 1 => if r (k + 1) < r k then fdi r k else k + 1
def fdj (r : Nat → Nat) (i : Nat) : Nat → Nat
  | 0 => 0
  | j + 1 => if i < j + 1 ∧ r (j + 1) < r i then fdj r i j else j + 1
theorem fdi_le {r : Nat → Nat} : ∀ k, fdi r k ≤ k
  | 0 => Nat.le_refl _
  | k + 1 => by
    rw [fdi]
    split
    · have := fdi_le (r := r) k; omega
    · omega
theorem fdj_le {r : Nat → Nat} {i : Nat} : ∀ k, fdj r i k ≤ k
  | 0 => Nat.le_refl _
  | k + 1 => by
    rw [fdj]
    split
    · have := fdj_le (r := r) (i := i) k; omega
    · omega
/-- the row that is left, and whether there was a next -/
def nxr (men alike : Nat) (r : Nat → Nat) : (Nat → Nat) × Bool := match fdi (trn 3 r alike (men - 1)) (men - 1) with
  | 0 => (trn 3 r alike (men - 1), false)
  | i + 1 => (trn 3 (swp (trn 3 r alike (men - 1)) i (fdj (trn 3 r alike (men - 1)) i (men - 1))) (i + 1) (men - 1), true)
def bl (b : Bool) : Int32 := if b then 1 else 0
section NR
variable (sta : mj_S) (d ro men alike : Nat)
theorem l_next2 {h0 h : mj_H} (r : Nat → Nat) (hr : bd 6 r) (i : Nat) (hm : 1 ≤ men ∧ men ≤ 6) (hi : i + 1 < men) (hv : mj_Vw h0 [(ro, an r)] h) (Post : Option Value → mj_W → Prop) (hp : Post (some (.int 1)) [(ro, an (trn 3 (swp r i (fdj r i (men - 1))) (i + 1) (men - 1)))]) :
    ∀ j, j < men → fdj r i j = fdj r i (men - 1) → mj_go sta (mj_Cl sta (d + 2)) m_X8_nextRow (mj_rx m_X8_nextRow h0 [ro] Post) 44 [some (.ref ro), some (.int (nI men)), some (.int (nI alike)), some (.int (nI i)), some (.int (nI j))] [] h := by
  have fin : ∀ j, j < men → fdj r i j = j → fdj r i j = fdj r i (men - 1) → mj_go sta (mj_Cl sta (d + 2)) m_X8_nextRow (mj_rx m_X8_nextRow h0 [ro] Post) 66 [some (.ref ro), some (.int (nI men)), some (.int (nI alike)), some (.int (nI i)), some (.int (nI j))] [] h := by
    intro j hj hjj hje
    rw [← hje, hjj] at hp
    repeat (first | refine g_px rfl rfl rfl ?_ | refine g_get hv 0 rfl rfl rfl rfl ?_)
    refine g_callS hv [0] rfl rfl rfl rfl rfl rfl rfl (by decide) (s_swap sta (d + 1) ro i j r (by omega) (by omega)) (fun v w' h hq hk hv => ?_)
    obtain ⟨rfl, rfl⟩ := hq
    repeat (first | refine g_px rfl rfl rfl ?_ | refine g_get hv 0 rfl rfl rfl rfl ?_)
    rw [show nI i + Int32.ofInt 1 = nI (i + 1) from (nI_succ i).symm, show nI men - Int32.ofInt 1 = nI (men - 1) from pk_sub (b := 1) hm.1]
    refine g_callS hv [0] rfl rfl rfl rfl rfl rfl rfl (by decide) (s_turn sta d ro (i + 1) (men - 1) _ (by omega) (by omega)) (fun v w' h hq hk hv => ?_)
    obtain ⟨rfl, rfl⟩ := hq
    repeat (first | refine g_px rfl rfl rfl ?_ | refine g_get hv 0 rfl rfl rfl rfl ?_)
    exact g_iret hv rfl rfl rfl rfl hp
  intro j
  induction j with
  | zero =>
    intro hj hje
    repeat (first | refine g_px rfl rfl rfl ?_ | refine g_get hv 0 rfl rfl rfl rfl ?_)
    refine g_ic rfl (fun cq => ?_) (fun cq => absurd (nI_le (a := 0) (b := i) (by omega) (by omega)) cq)
    exact fin 0 hj rfl hje
  | succ j ih =>
    intro hj hje
    repeat (first | refine g_px rfl rfl rfl ?_ | refine g_get hv 0 rfl rfl rfl rfl ?_)
    refine g_ic rfl (fun cq => ?_) (fun cq => ?_)
    · have cq : nI (j + 1) ≤ nI i := cq
      have hle := (nI_leI (by omega) (by omega)).mp cq
      exact fin (j + 1) hj (by rw [fdj, if_neg (by omega)]) hje
    · have cq : ¬ nI (j + 1) ≤ nI i := cq
      have hlt : i < j + 1 := Nat.not_le.mp fun q => cq (nI_le q (by omega))
      repeat (first | refine g_px rfl rfl rfl ?_ | refine g_get hv 0 rfl rfl rfl rfl ?_)
      refine g_n6 hv 0 (k := j + 1) (by omega) rfl rfl ?_
      repeat (first | refine g_px rfl rfl rfl ?_ | refine g_get hv 0 rfl rfl rfl rfl ?_)
      refine g_n6 hv 0 (k := i) (by omega) rfl rfl ?_
      have r1 := hr (j + 1)
      have r2 := hr i
      refine g_ic rfl (fun cq => ?_) (fun cq => ?_)
      · have cq : nI (r i) ≤ nI (r (j + 1)) := cq
        have hle := (nI_leI (by omega) (by omega)).mp cq
        exact fin (j + 1) hj (by rw [fdj, if_neg (by omega)]) hje
      · have cq : ¬ nI (r i) ≤ nI (r (j + 1)) := cq
        have hle : r (j + 1) < r i := Nat.not_le.mp fun q => cq (nI_le q (by omega))
        refine g_run 2 rfl ?_
        have := ih (by omega) (by rw [← hje, fdj, if_pos ⟨hlt, hle⟩])
        rw [show nI j = nI (j + 1) + Int32.ofInt (-1) from (nI_m1 (j := j + 1) (by omega)).symm] at this
        exact this
theorem l_next1 {h0 h : mj_H} (r : Nat → Nat) (hr : bd 6 r) (hm : 1 ≤ men ∧ men ≤ 6) (hv : mj_Vw h0 [(ro, an r)] h) (Post : Option Value → mj_W → Prop) (hp : match fdi r (men - 1) with
      | 0 => Post (some (.int 0)) [(ro, an r)]
      | i + 1 => Post (some (.int 1)) [(ro, an (trn 3 (swp r i (fdj r i (men - 1))) (i + 1) (men - 1)))]) :
    ∀ k, k < men → fdi r k = fdi r (men - 1) → mj_go sta (mj_Cl sta (d + 2)) m_X8_nextRow (mj_rx m_X8_nextRow h0 [ro] Post) 12 [some (.ref ro), some (.int (nI men)), some (.int (nI alike)), some (.int (nI k - 1)), none] [] h := by
  intro k
  induction k with
  | zero =>
    intro hk hf
    repeat (first | refine g_px rfl rfl rfl ?_ | refine g_get hv 0 rfl rfl rfl rfl ?_)
    refine g_if rfl (fun cq => ?_) (fun cq => absurd (show nI 0 - 1 < 0 by decide) cq)
    repeat (first | refine g_px rfl rfl rfl ?_ | refine g_get hv 0 rfl rfl rfl rfl ?_)
    refine g_if rfl (fun cq => absurd cq (show ¬ 0 ≤ nI 0 - 1 by decide)) (fun cq => ?_)
    repeat (first | refine g_px rfl rfl rfl ?_ | refine g_get hv 0 rfl rfl rfl rfl ?_)
    rw [← hf] at hp
    exact g_iret hv rfl rfl rfl rfl hp
  | succ k ih =>
    intro hk hf
    rw [nI_pred]
    repeat (first | refine g_px rfl rfl rfl ?_ | refine g_get hv 0 rfl rfl rfl rfl ?_)
    refine g_if rfl (fun cq => absurd cq (nI_pos (by omega))) (fun cq => ?_)
    repeat (first | refine g_px rfl rfl rfl ?_ | refine g_get hv 0 rfl rfl rfl rfl ?_)
    refine g_n6 hv 0 (k := k) (by omega) rfl rfl ?_
    repeat (first | refine g_px rfl rfl rfl ?_ | refine g_get hv 0 rfl rfl rfl rfl ?_)
    rw [show nI k + Int32.ofInt 1 = nI (k + 1) from (nI_succ k).symm]
    refine g_n6 hv 0 (k := k + 1) (by omega) rfl rfl ?_
    have r1 := hr (k + 1)
    have r2 := hr k
    refine g_ic rfl (fun cq => ?_) (fun cq => ?_)
    · have cq : nI (r k) ≤ nI (r (k + 1)) := cq
      have hle := (nI_leI (by omega) (by omega)).mp cq
      have e : fdi r (men - 1) = k + 1 := by rw [← hf, fdi, if_neg (by omega)]
      rw [e] at hp
      repeat (first | refine g_px rfl rfl rfl ?_ | refine g_get hv 0 rfl rfl rfl rfl ?_)
      refine g_if rfl (fun cq => ?_) (fun cq => absurd (nI_pos' (by omega)) cq)
      refine g_run 4 rfl ?_
      rw [show nI men - Int32.ofInt 1 = nI (men - 1) from pk_sub (b := 1) hm.1]
      exact l_next2 sta d ro men alike r hr k hm hk hv Post hp (men - 1) (by omega) rfl
    · have cq : ¬ nI (r k) ≤ nI (r (k + 1)) := cq
      have hlt : r (k + 1) < r k := Nat.not_le.mp fun q => cq (nI_le q (by omega))
      refine g_run 2 rfl ?_
      have := ih (by omega) (by rw [← hf, fdi, if_pos hlt])
      rw [sub1 (nI k)] at this
      exact this
theorem s_nextRow (r : Nat → Nat) (hr : bd 6 r) (hm : 1 ≤ men ∧ men ≤ 6) (ha : alike ≤ 6) : mj_Sx sta (d + 3) 155 [.ref ro, .int (nI men), .int (nI alike)] [(ro, an r)] (fun v w => v = some (.int (bl (nxr men alike r).2)) ∧ w = [(ro, an (nxr men alike r).1)]) := by
  refine mj_Sx.mk m_X8_nextRow (by decide) n_X8_nextRow rfl (fun h hv => ?_)
  repeat (first | refine g_px rfl rfl rfl ?_ | refine g_get hv 0 rfl rfl rfl rfl ?_)
  rw [show nI men - Int32.ofInt 1 = nI (men - 1) from pk_sub (b := 1) hm.1]
  refine g_callS hv [0] rfl rfl rfl rfl rfl rfl rfl (by decide) (s_turn sta d ro alike (men - 1) r ha (by omega)) (fun v w' h hq hk hv => ?_)
  obtain ⟨rfl, rfl⟩ := hq
  refine g_run 4 rfl ?_
  have e2 : nI men - Int32.ofInt 2 = nI (men - 1) - 1 := by
    rw [show nI (men - 1) = nI men - 1 from (pk_sub (b := 1) hm.1).symm, Int32.sub_sub]
    rfl
  rw [e2]
  refine l_next1 sta d ro men alike (trn 3 r alike (men - 1)) (trn_bd 3 hr) hm hv _ ?_ (men - 1) (by omega) rfl
  unfold nxr
  cases fdi (trn 3 r alike (men - 1)) (men - 1) with
  | zero => exact ⟨rfl, rfl⟩
  | succ i => exact ⟨rfl, rfl⟩
end NR
/-- the first n by their numbers, the rest as it was -/
def idn (n : Nat) (r : Nat → Nat) : Nat → Nat := fun x => if x < n then x else r x
theorem idn_bd {n : Nat} {r : Nat → Nat} (hn : n ≤ 6) (h : bd 6 r) : bd 6 (idn n r) := by
  intro x
  unfold idn
  split
  · omega
  · exact h x
theorem s_byNumbers (sta : mj_S) (d ro n : Nat) (r : Nat → Nat) (hn : n ≤ 6) : mj_Sx sta (d + 1) 151 [.ref ro, .int (nI n)] [(ro, an r)] (fun v w => v = none ∧ w = [(ro, an (idn n r))]) := by
  refine mj_Sx.mk m_X8_byNumbers (by decide) n_X8_byNumbers rfl (fun h0 hv => ?_)
  have loop : ∀ j k h, k + j = n → mj_Vw h0 [(ro, an (idn k r))] h → mj_go sta (mj_Cl sta d) m_X8_byNumbers (mj_rx m_X8_byNumbers h0 [ro] (fun v w => v = none ∧ w = [(ro, an (idn n r))])) 2 [some (.ref ro), some (.int (nI n)), some (.int (nI k))] [] h := by
    intro j
    induction j with
    | zero =>
      intro k h hk hv
      have hk : k = n := by omega
      subst hk
      repeat (first | refine g_px rfl rfl rfl ?_ | refine g_get hv 0 rfl rfl rfl rfl ?_)
      refine g_ic rfl (fun cq => ?_) (fun cq => absurd (nI_le (Nat.le_refl k) (by omega)) cq)
      exact g_vret hv rfl rfl rfl ⟨rfl, rfl⟩
    | succ j ih =>
      intro k h hk hv
      repeat (first | refine g_px rfl rfl rfl ?_ | refine g_get hv 0 rfl rfl rfl rfl ?_)
      refine g_ic rfl (fun cq => absurd cq (nI_ge (a := k) (b := n) (by omega) (by omega))) (fun cq => ?_)
      repeat (first | refine g_px rfl rfl rfl ?_ | refine g_get hv 0 rfl rfl rfl rfl ?_)
      refine g_nst hv 0 (by omega) rfl rfl (fun h hv => ?_)
      refine g_run 2 rfl ?_
      have e : va_up (idn k r) k k = idn (k + 1) r := by
        funext x
        unfold va_up idn
        by_cases h1 : x = k
        · subst h1; simp
        · by_cases h2 : x < k
          · simp [h1, h2, Nat.lt_succ_of_lt h2]
          · simp [h1, h2, show ¬ x < k + 1 by omega]
      rw [e] at hv
      have := ih (k + 1) h (by omega) hv
      rw [nI_succ] at this
      exact this
  refine g_run 2 rfl ?_
  have e : idn 0 r = r := by funext x; simp [idn]
  exact loop n 0 h0 (by omega) (by rw [e]; exact hv)
/-- a row as a number -/
def rno (r : Nat → Nat) : Nat → Nat
  | 0 => 0
  | k + 1 => 10 * rno r k + r k
theorem s_numberOf (sta : mj_S) (d ro n : Nat) (r : Nat → Nat) (hn : n ≤ 6) : mj_Sx sta (d + 1) 152 [.ref ro, .int (nI n)] [(ro, an r)] (fun v w => v = some (.int (nI (rno r n))) ∧ w = [(ro, an r)]) := by
  refine mj_Sx.mk m_X8_numberOf (by decide) n_X8_numberOf rfl (fun h0 hv => ?_)
  have loop : ∀ j k, k + j = n → mj_go sta (mj_Cl sta d) m_X8_numberOf (mj_rx m_X8_numberOf h0 [ro] (fun v w => v = some (.int (nI (rno r n))) ∧ w = [(ro, an r)])) 4 [some (.ref ro), some (.int (nI n)), some (.int (nI (rno r k))), some (.int (nI k))] [] h0 := by
    intro j
    induction j with
    | zero =>
      intro k hk
      have hk : k = n := by omega
      subst hk
      repeat (first | refine g_px rfl rfl rfl ?_ | refine g_get hv 0 rfl rfl rfl rfl ?_)
      refine g_ic rfl (fun cq => ?_) (fun cq => absurd (nI_le (Nat.le_refl k) (by omega)) cq)
      repeat (first | refine g_px rfl rfl rfl ?_ | refine g_get hv 0 rfl rfl rfl rfl ?_)
      exact g_iret hv rfl rfl rfl rfl ⟨rfl, rfl⟩
    | succ j ih =>
      intro k hk
      repeat (first | refine g_px rfl rfl rfl ?_ | refine g_get hv 0 rfl rfl rfl rfl ?_)
      refine g_ic rfl (fun cq => absurd cq (nI_ge (a := k) (b := n) (by omega) (by omega))) (fun cq => ?_)
      repeat (first | refine g_px rfl rfl rfl ?_ | refine g_get hv 0 rfl rfl rfl rfl ?_)
      refine g_n6 hv 0 (k := k) (by omega) rfl rfl ?_
      refine g_run 4 rfl ?_
      have := ih (k + 1) (by omega)
      rw [nI_succ, rno, show nI (10 * rno r k + r k) = (Int8.ofInt 10).toInt32 * nI (rno r k) + nI (r k) by rw [show (Int8.ofInt 10).toInt32 = nI 10 from rfl, pk_mul, nI_add]] at this
      exact this
  refine g_run 4 rfl ?_
  exact loop n 0 (by omega)
/-- who goes -/
def gng (T : Nat) (g : Nat → Option Nat) : Nat → Nat
  | 0 => 0
  | k + 1 => if T.testBit k then gng T g k ||| 2 ^ (match g k with
    | none => k
    | some q => q) else gng T g k
theorem gng_lt {T : Nat} {g : Nat → Option Nat} (hg : ∀ m q, T.testBit m = true → g m = some q → q < 6) : ∀ k, k ≤ 6 → gng T g k < 64
  | 0, _ => Nat.le_of_ble_eq_true rfl
  | k + 1, hk => by
    have ih := gng_lt hg k (by omega)
    rw [gng]
    split
    · rename_i ht
      refine bt_lt _ ih _ ?_
      split
      · omega
      · rename_i q e; exact hg k q ht e
    · exact ih
theorem s_goers (sta : mj_S) (d ks T : Nat) (g : Nat → Option Nat) (hT : T < 64) (hg : ∀ m q, T.testBit m = true → g m = some q → q < 6) : mj_Sx sta (d + 1) 150 [.int (nI T), .ref ks] [(ks, sq g)] (fun v w => v = some (.int (nI (gng T g 6))) ∧ w = [(ks, sq g)]) := by
  refine mj_Sx.mk m_X8_goers (by decide) n_X8_goers rfl (fun h0 hv => ?_)
  have loop : ∀ j k, k + j = 6 → mj_go sta (mj_Cl sta d) m_X8_goers (mj_rx m_X8_goers h0 [ks] (fun v w => v = some (.int (nI (gng T g 6))) ∧ w = [(ks, sq g)])) 4 [some (.int (nI T)), some (.ref ks), some (.int (nI (gng T g k))), some (.int (nI k))] [] h0 := by
    intro j
    induction j with
    | zero =>
      intro k hk
      have hk : k = 6 := by omega
      subst hk
      repeat (first | refine g_px rfl rfl rfl ?_ | refine g_get hv 0 rfl rfl rfl rfl ?_)
      refine g_ic rfl (fun cq => ?_) (fun cq => absurd (show (Int8.ofInt 6).toInt32 ≤ nI 6 by decide) cq)
      repeat (first | refine g_px rfl rfl rfl ?_ | refine g_get hv 0 rfl rfl rfl rfl ?_)
      exact g_iret hv rfl rfl rfl rfl ⟨rfl, rfl⟩
    | succ j ih =>
      intro k hk
      have hk6 : k < 6 := by omega
      have hbit := bt_get T hT k hk6
      have hlt := gng_lt hg k (by omega)
      repeat (first | refine g_px rfl rfl rfl ?_ | refine g_get hv 0 rfl rfl rfl rfl ?_)
      refine g_ic rfl (fun cq => absurd cq (nI_ge (a := k) (b := 6) hk6 (by decide))) (fun cq => ?_)
      repeat (first | refine g_px rfl rfl rfl ?_ | refine g_get hv 0 rfl rfl rfl rfl ?_)
      refine g_ic rfl (fun cq => ?_) (fun cq => ?_)
      · have cq : ¬ ((nI T >>> (nI k &&& 31)) &&& 1) = 1 := cq
        have ht : T.testBit k = false := by
          cases q : T.testBit k with
          | false => rfl
          | true => rw [hbit, q] at cq; exact absurd rfl cq
        refine g_run 2 rfl ?_
        have := ih (k + 1) (by omega)
        have e : gng T g (k + 1) = gng T g k := by rw [gng, ht]; rfl
        rw [nI_succ, e] at this
        exact this
      · have cq : ¬ ¬ ((nI T >>> (nI k &&& 31)) &&& 1) = 1 := cq
        have ht : T.testBit k = true := by
          cases q : T.testBit k with
          | true => rfl
          | false => rw [hbit, q] at cq; exact absurd (by decide) cq
        repeat (first | refine g_px rfl rfl rfl ?_ | refine g_get hv 0 rfl rfl rfl rfl ?_)
        refine g_s6 hv 0 hk6 rfl rfl ?_
        have fin : ∀ q, q < 6 → nI (gng T g (k + 1)) = nI (gng T g k ||| 2 ^ q) → mj_go sta (mj_Cl sta d) m_X8_goers (mj_rx m_X8_goers h0 [ks] (fun v w => v = some (.int (nI (gng T g 6))) ∧ w = [(ks, sq g)])) 34 [some (.int (nI T)), some (.ref ks), some (.int (nI (gng T g k))), some (.int (nI k))] [.int (nI q), .int 1, .int (nI (gng T g k))] h0 := by
          intro q hq he
          refine g_run 5 rfl ?_
          have := ih (k + 1) (by omega)
          rw [nI_succ, he, ← bt_set _ hlt _ hq] at this
          exact this
        refine g_if rfl (fun cq => ?_) (fun cq => ?_)
        · have cq : 0 ≤ snd (g k) := cq
          cases e : g k with
          | none => rw [e] at cq; exact absurd cq (by decide)
          | some q =>
            repeat (first | refine g_px rfl rfl rfl ?_ | refine g_get hv 0 rfl rfl rfl rfl ?_)
            refine g_s6 hv 0 hk6 rfl rfl ?_
            rw [e]
            exact fin q (hg k q ht e) (by rw [gng, if_pos ht, e])
        · have cq : ¬ 0 ≤ snd (g k) := cq
          have e : g k = none := by
            cases e : g k with
            | none => rfl
            | some q => rw [e] at cq; exact absurd (nI_pos' (by have := hg k q ht e; omega)) cq
          refine g_run 2 rfl ?_
          exact fin k hk6 (by rw [gng, if_pos ht, e])
  refine g_run 4 rfl ?_
  exact loop 6 0 (by omega)
end
section
/-! Now, Draft.clear, Laws -/
def mix {α : Type} (k : Nat) (f f' : Nat → α) : Nat → α := fun x => if x < k then f' x else f x
theorem mix_up {α : Type} {k : Nat} {f f' : Nat → α} : va_up (mix k f f') k (f' k) = mix (k + 1) f f' := by
  funext x
  unfold va_up mix
  by_cases h1 : x = k
  · subst h1; simp
  · by_cases h2 : x < k
    · simp [h1, h2, Nat.lt_succ_of_lt h2]
    · simp [h1, h2, show ¬ x < k + 1 by omega]
theorem mix_0 {α : Type} {f f' : Nat → α} : mix 0 f f' = f := by funext x; simp [mix]
theorem an_mix {f f' : Nat → Nat} : an (mix 6 f f') = an f' := by
  unfold an
  rw [an_congr (f := mix 6 f f') (f' := f') (fun i hi => by simp [mix, hi])]
theorem sq_mix {f f' : Nat → Option Nat} : sq (mix 6 f f') = sq f' := by
  unfold sq
  rw [sq_congr (g := mix 6 f f') (g' := f') (fun i hi => by simp [mix, hi])]
abbrev wno (c : Nat) (sp sd hl tk : Int32) (sn C ro : Nat → Nat) (g : Nat → Option Nat) : mj_W := [(c, .inr (5, nob c sp sd hl tk)), (c + 1, an sn), (c + 2, an C), (c + 3, an ro), (c + 4, sq g)]
section Take
variable (sta : mj_S) (d c c' : Nat) (sp sd hl tk : Int32) (sn C ro sn' C' ro' : Nat → Nat) (g g' : Nat → Option Nat)
abbrev wtk (c c' : Nat) (sp sd hl tk : Int32) (sn C ro : Nat → Nat) (g : Nat → Option Nat) (sp' sd' hl' tk' : Int32) (sn' C' ro' : Nat → Nat) (g' : Nat → Option Nat) : mj_W := [(c, .inr (5, nob c sp sd hl tk)), (c + 1, an sn), (c + 2, an C), (c + 3, an ro), (c + 4, sq g), (c', .inr (5, nob c' sp' sd' hl' tk')), (c' + 1, an sn'), (c' + 2, an C'), (c' + 3, an ro'), (c' + 4, sq g')]
theorem l_take {h0 : mj_H} (Post : Option Value → mj_W → Prop) (hp : Post none (wtk c c' sp sd hl tk sn' C' ro' g' sp sd hl tk sn' C' ro' g')) : ∀ j k h, k + j = 6 → mj_Vw h0 (wtk c c' sp sd hl tk (mix k sn sn') (mix k C C') (mix k ro ro') (mix k g g') sp sd hl tk sn' C' ro' g') h →
    mj_go sta (mj_Cl sta d) m_X5_take (mj_rx m_X5_take h0 [c, c + 1, c + 2, c + 3, c + 4, c', c' + 1, c' + 2, c' + 3, c' + 4] Post) 34 [some (.ref c), some (.ref c'), some (.int (nI k))] [] h := by
  intro j
  induction j with
  | zero =>
    intro k h hk hv
    have hk : k = 6 := by omega
    subst hk
    repeat (first | refine g_px rfl rfl rfl ?_ | refine g_get hv 0 rfl rfl rfl rfl ?_ | refine g_get hv 1 rfl rfl rfl rfl ?_ | refine g_get hv 2 rfl rfl rfl rfl ?_ | refine g_get hv 3 rfl rfl rfl rfl ?_ | refine g_get hv 4 rfl rfl rfl rfl ?_ | refine g_get hv 5 rfl rfl rfl rfl ?_ | refine g_get hv 6 rfl rfl rfl rfl ?_ | refine g_get hv 7 rfl rfl rfl rfl ?_ | refine g_get hv 8 rfl rfl rfl rfl ?_ | refine g_get hv 9 rfl rfl rfl rfl ?_)
    refine g_ic rfl (fun cq => ?_) (fun cq => absurd (show (Int8.ofInt 6).toInt32 ≤ nI 6 by decide) cq)
    unfold wtk at hv
    rw [an_mix, an_mix, an_mix, sq_mix] at hv
    exact g_vret hv rfl rfl rfl hp
  | succ j ih =>
    intro k h hk hv
    have hk6 : k < 6 := by omega
    repeat (first | refine g_px rfl rfl rfl ?_ | refine g_get hv 0 rfl rfl rfl rfl ?_ | refine g_get hv 1 rfl rfl rfl rfl ?_ | refine g_get hv 2 rfl rfl rfl rfl ?_ | refine g_get hv 3 rfl rfl rfl rfl ?_ | refine g_get hv 4 rfl rfl rfl rfl ?_ | refine g_get hv 5 rfl rfl rfl rfl ?_ | refine g_get hv 6 rfl rfl rfl rfl ?_ | refine g_get hv 7 rfl rfl rfl rfl ?_ | refine g_get hv 8 rfl rfl rfl rfl ?_ | refine g_get hv 9 rfl rfl rfl rfl ?_)
    refine g_ic rfl (fun cq => absurd cq (nI_ge (a := k) (b := 6) hk6 (by decide))) (fun cq => ?_)
    repeat (first | refine g_px rfl rfl rfl ?_ | refine g_get hv 0 rfl rfl rfl rfl ?_ | refine g_get hv 1 rfl rfl rfl rfl ?_ | refine g_get hv 2 rfl rfl rfl rfl ?_ | refine g_get hv 3 rfl rfl rfl rfl ?_ | refine g_get hv 4 rfl rfl rfl rfl ?_ | refine g_get hv 5 rfl rfl rfl rfl ?_ | refine g_get hv 6 rfl rfl rfl rfl ?_ | refine g_get hv 7 rfl rfl rfl rfl ?_ | refine g_get hv 8 rfl rfl rfl rfl ?_ | refine g_get hv 9 rfl rfl rfl rfl ?_)
    refine g_n6 hv 6 hk6 rfl rfl ?_
    refine g_nst hv 1 hk6 rfl rfl (fun h hv => ?_)
    repeat (first | refine g_px rfl rfl rfl ?_ | refine g_get hv 0 rfl rfl rfl rfl ?_ | refine g_get hv 1 rfl rfl rfl rfl ?_ | refine g_get hv 2 rfl rfl rfl rfl ?_ | refine g_get hv 3 rfl rfl rfl rfl ?_ | refine g_get hv 4 rfl rfl rfl rfl ?_ | refine g_get hv 5 rfl rfl rfl rfl ?_ | refine g_get hv 6 rfl rfl rfl rfl ?_ | refine g_get hv 7 rfl rfl rfl rfl ?_ | refine g_get hv 8 rfl rfl rfl rfl ?_ | refine g_get hv 9 rfl rfl rfl rfl ?_)
    refine g_n6 hv 7 hk6 rfl rfl ?_
    refine g_nst hv 2 hk6 rfl rfl (fun h hv => ?_)
    repeat (first | refine g_px rfl rfl rfl ?_ | refine g_get hv 0 rfl rfl rfl rfl ?_ | refine g_get hv 1 rfl rfl rfl rfl ?_ | refine g_get hv 2 rfl rfl rfl rfl ?_ | refine g_get hv 3 rfl rfl rfl rfl ?_ | refine g_get hv 4 rfl rfl rfl rfl ?_ | refine g_get hv 5 rfl rfl rfl rfl ?_ | refine g_get hv 6 rfl rfl rfl rfl ?_ | refine g_get hv 7 rfl rfl rfl rfl ?_ | refine g_get hv 8 rfl rfl rfl rfl ?_ | refine g_get hv 9 rfl rfl rfl rfl ?_)
    refine g_n6 hv 8 hk6 rfl rfl ?_
    refine g_nst hv 3 hk6 rfl rfl (fun h hv => ?_)
    repeat (first | refine g_px rfl rfl rfl ?_ | refine g_get hv 0 rfl rfl rfl rfl ?_ | refine g_get hv 1 rfl rfl rfl rfl ?_ | refine g_get hv 2 rfl rfl rfl rfl ?_ | refine g_get hv 3 rfl rfl rfl rfl ?_ | refine g_get hv 4 rfl rfl rfl rfl ?_ | refine g_get hv 5 rfl rfl rfl rfl ?_ | refine g_get hv 6 rfl rfl rfl rfl ?_ | refine g_get hv 7 rfl rfl rfl rfl ?_ | refine g_get hv 8 rfl rfl rfl rfl ?_ | refine g_get hv 9 rfl rfl rfl rfl ?_)
    refine g_s6 hv 9 hk6 rfl rfl ?_
    refine g_sst hv 4 hk6 rfl rfl (fun h hv => ?_)
    rw [mix_up, mix_up, mix_up, mix_up] at hv
    refine g_run 2 rfl ?_
    have := ih (k + 1) h (by omega) hv
    rw [nI_succ] at this
    exact this
theorem s_take (sp' sd' hl' tk' : Int32) : mj_Sx sta (d + 1) 35 [.ref c, .ref c'] (wtk c c' sp' sd' hl' tk' sn C ro g sp sd hl tk sn' C' ro' g') (fun v w => v = none ∧ w = wtk c c' sp sd hl tk sn' C' ro' g' sp sd hl tk sn' C' ro' g') := by
  refine mj_Sx.mk m_X5_take (by decide) n_X5_take rfl (fun h0 hv => ?_)
  repeat (first | refine g_px rfl rfl rfl ?_ | refine g_get hv 0 rfl rfl rfl rfl ?_ | refine g_get hv 1 rfl rfl rfl rfl ?_ | refine g_get hv 2 rfl rfl rfl rfl ?_ | refine g_get hv 3 rfl rfl rfl rfl ?_ | refine g_get hv 4 rfl rfl rfl rfl ?_ | refine g_get hv 5 rfl rfl rfl rfl ?_ | refine g_get hv 6 rfl rfl rfl rfl ?_ | refine g_get hv 7 rfl rfl rfl rfl ?_ | refine g_get hv 8 rfl rfl rfl rfl ?_ | refine g_get hv 9 rfl rfl rfl rfl ?_)
  refine g_put hv 0 rfl rfl rfl rfl rfl rfl (fun h hv => ?_)
  repeat (first | refine g_px rfl rfl rfl ?_ | refine g_get hv 0 rfl rfl rfl rfl ?_ | refine g_get hv 1 rfl rfl rfl rfl ?_ | refine g_get hv 2 rfl rfl rfl rfl ?_ | refine g_get hv 3 rfl rfl rfl rfl ?_ | refine g_get hv 4 rfl rfl rfl rfl ?_ | refine g_get hv 5 rfl rfl rfl rfl ?_ | refine g_get hv 6 rfl rfl rfl rfl ?_ | refine g_get hv 7 rfl rfl rfl rfl ?_ | refine g_get hv 8 rfl rfl rfl rfl ?_ | refine g_get hv 9 rfl rfl rfl rfl ?_)
  refine g_put hv 0 rfl rfl rfl rfl rfl rfl (fun h hv => ?_)
  repeat (first | refine g_px rfl rfl rfl ?_ | refine g_get hv 0 rfl rfl rfl rfl ?_ | refine g_get hv 1 rfl rfl rfl rfl ?_ | refine g_get hv 2 rfl rfl rfl rfl ?_ | refine g_get hv 3 rfl rfl rfl rfl ?_ | refine g_get hv 4 rfl rfl rfl rfl ?_ | refine g_get hv 5 rfl rfl rfl rfl ?_ | refine g_get hv 6 rfl rfl rfl rfl ?_ | refine g_get hv 7 rfl rfl rfl rfl ?_ | refine g_get hv 8 rfl rfl rfl rfl ?_ | refine g_get hv 9 rfl rfl rfl rfl ?_)
  refine g_put hv 0 rfl rfl rfl rfl rfl rfl (fun h hv => ?_)
  repeat (first | refine g_px rfl rfl rfl ?_ | refine g_get hv 0 rfl rfl rfl rfl ?_ | refine g_get hv 1 rfl rfl rfl rfl ?_ | refine g_get hv 2 rfl rfl rfl rfl ?_ | refine g_get hv 3 rfl rfl rfl rfl ?_ | refine g_get hv 4 rfl rfl rfl rfl ?_ | refine g_get hv 5 rfl rfl rfl rfl ?_ | refine g_get hv 6 rfl rfl rfl rfl ?_ | refine g_get hv 7 rfl rfl rfl rfl ?_ | refine g_get hv 8 rfl rfl rfl rfl ?_ | refine g_get hv 9 rfl rfl rfl rfl ?_)
  refine g_put hv 0 rfl rfl rfl rfl rfl rfl (fun h hv => ?_)
  refine g_run 2 rfl ?_
  refine l_take sta d c c' sp sd hl tk sn C ro sn' C' ro' g g' _ ⟨rfl, rfl⟩ 6 0 h (by omega) ?_
  rw [mix_0, mix_0, mix_0, mix_0]
  exact hv
end Take
section Begin
variable (sta : mj_S) (d c b : Nat) (tk mn kn sp hd hi er sh wn : Int32) (sn C ro ds dc : Nat → Nat) (g : Nat → Option Nat)
abbrev wbg (c b : Nat) (s1 s2 s3 s4 : Int32) (sn C ro : Nat → Nat) (g : Nat → Option Nat) (tk mn kn sp hd hi er sh wn : Int32) (ds dc : Nat → Nat) : mj_W := [(c, .inr (5, nob c s1 s2 s3 s4)), (c + 1, an sn), (c + 2, an C), (c + 3, an ro), (c + 4, sq g), (b, .inr (1, dob b tk mn kn sp hd hi er sh wn)), (b + 1, an ds), (b + 3, an dc)]
theorem l_begin {h0 : mj_H} (Post : Option Value → mj_W → Prop) (hp : Post none (wbg c b sp 0 0 0 ds dc (idn 6 (fun _ => 0)) (fun _ => none) tk mn kn sp hd hi er sh wn ds dc)) : ∀ j k h, k + j = 6 → mj_Vw h0 (wbg c b sp 0 0 0 (mix k sn ds) (mix k C dc) (mix k ro (fun x => x)) (mix k g (fun _ => none)) tk mn kn sp hd hi er sh wn ds dc) h →
    mj_go sta (mj_Cl sta d) m_X5_begin (mj_rx m_X5_begin h0 [c, c + 1, c + 2, c + 3, c + 4, b, b + 1, b + 3] Post) 25 [some (.ref c), some (.ref b), some (.int (nI k))] [] h := by
  intro j
  induction j with
  | zero =>
    intro k h hk hv
    have hk : k = 6 := by omega
    subst hk
    repeat (first | refine g_px rfl rfl rfl ?_ | refine g_get hv 0 rfl rfl rfl rfl ?_ | refine g_get hv 1 rfl rfl rfl rfl ?_ | refine g_get hv 2 rfl rfl rfl rfl ?_ | refine g_get hv 3 rfl rfl rfl rfl ?_ | refine g_get hv 4 rfl rfl rfl rfl ?_ | refine g_get hv 5 rfl rfl rfl rfl ?_ | refine g_get hv 6 rfl rfl rfl rfl ?_ | refine g_get hv 7 rfl rfl rfl rfl ?_)
    refine g_ic rfl (fun cq => ?_) (fun cq => absurd (show (Int8.ofInt 6).toInt32 ≤ nI 6 by decide) cq)
    have e : an (fun x => x) = an (idn 6 (fun _ => 0)) := by
      unfold an
      rw [an_congr (f := fun x => x) (f' := idn 6 (fun _ => 0)) (fun i hi => by simp [idn, hi])]
    unfold wbg at hv
    rw [an_mix, an_mix, an_mix, sq_mix, e] at hv
    exact g_vret hv rfl rfl rfl hp
  | succ j ih =>
    intro k h hk hv
    have hk6 : k < 6 := by omega
    repeat (first | refine g_px rfl rfl rfl ?_ | refine g_get hv 0 rfl rfl rfl rfl ?_ | refine g_get hv 1 rfl rfl rfl rfl ?_ | refine g_get hv 2 rfl rfl rfl rfl ?_ | refine g_get hv 3 rfl rfl rfl rfl ?_ | refine g_get hv 4 rfl rfl rfl rfl ?_ | refine g_get hv 5 rfl rfl rfl rfl ?_ | refine g_get hv 6 rfl rfl rfl rfl ?_ | refine g_get hv 7 rfl rfl rfl rfl ?_)
    refine g_ic rfl (fun cq => absurd cq (nI_ge (a := k) (b := 6) hk6 (by decide))) (fun cq => ?_)
    repeat (first | refine g_px rfl rfl rfl ?_ | refine g_get hv 0 rfl rfl rfl rfl ?_ | refine g_get hv 1 rfl rfl rfl rfl ?_ | refine g_get hv 2 rfl rfl rfl rfl ?_ | refine g_get hv 3 rfl rfl rfl rfl ?_ | refine g_get hv 4 rfl rfl rfl rfl ?_ | refine g_get hv 5 rfl rfl rfl rfl ?_ | refine g_get hv 6 rfl rfl rfl rfl ?_ | refine g_get hv 7 rfl rfl rfl rfl ?_)
    refine g_n6 hv 6 hk6 rfl rfl ?_
    refine g_nst hv 1 hk6 rfl rfl (fun h hv => ?_)
    repeat (first | refine g_px rfl rfl rfl ?_ | refine g_get hv 0 rfl rfl rfl rfl ?_ | refine g_get hv 1 rfl rfl rfl rfl ?_ | refine g_get hv 2 rfl rfl rfl rfl ?_ | refine g_get hv 3 rfl rfl rfl rfl ?_ | refine g_get hv 4 rfl rfl rfl rfl ?_ | refine g_get hv 5 rfl rfl rfl rfl ?_ | refine g_get hv 6 rfl rfl rfl rfl ?_ | refine g_get hv 7 rfl rfl rfl rfl ?_)
    refine g_n6 hv 7 hk6 rfl rfl ?_
    refine g_nst hv 2 hk6 rfl rfl (fun h hv => ?_)
    repeat (first | refine g_px rfl rfl rfl ?_ | refine g_get hv 0 rfl rfl rfl rfl ?_ | refine g_get hv 1 rfl rfl rfl rfl ?_ | refine g_get hv 2 rfl rfl rfl rfl ?_ | refine g_get hv 3 rfl rfl rfl rfl ?_ | refine g_get hv 4 rfl rfl rfl rfl ?_ | refine g_get hv 5 rfl rfl rfl rfl ?_ | refine g_get hv 6 rfl rfl rfl rfl ?_ | refine g_get hv 7 rfl rfl rfl rfl ?_)
    refine g_nst hv 3 hk6 rfl rfl (fun h hv => ?_)
    repeat (first | refine g_px rfl rfl rfl ?_ | refine g_get hv 0 rfl rfl rfl rfl ?_ | refine g_get hv 1 rfl rfl rfl rfl ?_ | refine g_get hv 2 rfl rfl rfl rfl ?_ | refine g_get hv 3 rfl rfl rfl rfl ?_ | refine g_get hv 4 rfl rfl rfl rfl ?_ | refine g_get hv 5 rfl rfl rfl rfl ?_ | refine g_get hv 6 rfl rfl rfl rfl ?_ | refine g_get hv 7 rfl rfl rfl rfl ?_)
    refine g_sst (o := none) hv 4 hk6 rfl rfl (fun h hv => ?_)
    rw [mix_up, mix_up, show va_up (mix k ro (fun x => x)) k k = mix (k + 1) ro (fun x => x) from mix_up (f' := fun x => x), show va_up (mix k g (fun _ => none)) k none = mix (k + 1) g (fun _ => none) from mix_up (f' := fun _ => none)] at hv
    refine g_run 2 rfl ?_
    have := ih (k + 1) h (by omega) hv
    rw [nI_succ] at this
    exact this
theorem s_begin (s1 s2 s3 s4 : Int32) : mj_Sx sta (d + 1) 34 [.ref c, .ref b] (wbg c b s1 s2 s3 s4 sn C ro g tk mn kn sp hd hi er sh wn ds dc) (fun v w => v = none ∧ w = wbg c b sp 0 0 0 ds dc (idn 6 (fun _ => 0)) (fun _ => none) tk mn kn sp hd hi er sh wn ds dc) := by
  refine mj_Sx.mk m_X5_begin (by decide) n_X5_begin rfl (fun h0 hv => ?_)
  repeat (first | refine g_px rfl rfl rfl ?_ | refine g_get hv 0 rfl rfl rfl rfl ?_ | refine g_get hv 1 rfl rfl rfl rfl ?_ | refine g_get hv 2 rfl rfl rfl rfl ?_ | refine g_get hv 3 rfl rfl rfl rfl ?_ | refine g_get hv 4 rfl rfl rfl rfl ?_ | refine g_get hv 5 rfl rfl rfl rfl ?_ | refine g_get hv 6 rfl rfl rfl rfl ?_ | refine g_get hv 7 rfl rfl rfl rfl ?_)
  refine g_put hv 0 rfl rfl rfl rfl rfl rfl (fun h hv => ?_)
  repeat (first | refine g_px rfl rfl rfl ?_ | refine g_get hv 0 rfl rfl rfl rfl ?_ | refine g_get hv 1 rfl rfl rfl rfl ?_ | refine g_get hv 2 rfl rfl rfl rfl ?_ | refine g_get hv 3 rfl rfl rfl rfl ?_ | refine g_get hv 4 rfl rfl rfl rfl ?_ | refine g_get hv 5 rfl rfl rfl rfl ?_ | refine g_get hv 6 rfl rfl rfl rfl ?_ | refine g_get hv 7 rfl rfl rfl rfl ?_)
  refine g_put hv 0 rfl rfl rfl rfl rfl rfl (fun h hv => ?_)
  repeat (first | refine g_px rfl rfl rfl ?_ | refine g_get hv 0 rfl rfl rfl rfl ?_ | refine g_get hv 1 rfl rfl rfl rfl ?_ | refine g_get hv 2 rfl rfl rfl rfl ?_ | refine g_get hv 3 rfl rfl rfl rfl ?_ | refine g_get hv 4 rfl rfl rfl rfl ?_ | refine g_get hv 5 rfl rfl rfl rfl ?_ | refine g_get hv 6 rfl rfl rfl rfl ?_ | refine g_get hv 7 rfl rfl rfl rfl ?_)
  refine g_put hv 0 rfl rfl rfl rfl rfl rfl (fun h hv => ?_)
  repeat (first | refine g_px rfl rfl rfl ?_ | refine g_get hv 0 rfl rfl rfl rfl ?_ | refine g_get hv 1 rfl rfl rfl rfl ?_ | refine g_get hv 2 rfl rfl rfl rfl ?_ | refine g_get hv 3 rfl rfl rfl rfl ?_ | refine g_get hv 4 rfl rfl rfl rfl ?_ | refine g_get hv 5 rfl rfl rfl rfl ?_ | refine g_get hv 6 rfl rfl rfl rfl ?_ | refine g_get hv 7 rfl rfl rfl rfl ?_)
  refine g_put hv 0 rfl rfl rfl rfl rfl rfl (fun h hv => ?_)
  refine g_run 2 rfl ?_
  refine l_begin sta d c b tk mn kn sp hd hi er sh wn sn C ro ds dc g _ ⟨rfl, rfl⟩ 6 0 h (by omega) ?_
  rw [mix_0, mix_0, mix_0, mix_0]
  exact hv
end Begin
theorem s_dclear (sta : mj_S) (d b : Nat) (tk mn kn sp hd hi er sh wn : Int32) (ki : Nat → Nat) : mj_Sx sta (d + 1) 18 [.ref b] [(b, .inr (1, dob b tk mn kn sp hd hi er sh wn)), (b + 5, an ki)] (fun v w => v = none ∧ w = [(b, .inr (1, dob b 0 0 0 0 0 hi er sh 0)), (b + 5, an (fun _ => 0))]) := by
  refine mj_Sx.mk m_X1_clear (by decide) n_X1_clear rfl (fun h0 hv => ?_)
  repeat (first | refine g_px rfl rfl rfl ?_ | refine g_get hv 0 rfl rfl rfl rfl ?_ | refine g_get hv 1 rfl rfl rfl rfl ?_)
  refine g_put hv 0 rfl rfl rfl rfl rfl rfl (fun h hv => ?_)
  repeat (first | refine g_px rfl rfl rfl ?_ | refine g_get hv 0 rfl rfl rfl rfl ?_ | refine g_get hv 1 rfl rfl rfl rfl ?_)
  refine g_put hv 0 rfl rfl rfl rfl rfl rfl (fun h hv => ?_)
  repeat (first | refine g_px rfl rfl rfl ?_ | refine g_get hv 0 rfl rfl rfl rfl ?_ | refine g_get hv 1 rfl rfl rfl rfl ?_)
  refine g_put hv 0 rfl rfl rfl rfl rfl rfl (fun h hv => ?_)
  repeat (first | refine g_px rfl rfl rfl ?_ | refine g_get hv 0 rfl rfl rfl rfl ?_ | refine g_get hv 1 rfl rfl rfl rfl ?_)
  refine g_put hv 0 rfl rfl rfl rfl rfl rfl (fun h hv => ?_)
  repeat (first | refine g_px rfl rfl rfl ?_ | refine g_get hv 0 rfl rfl rfl rfl ?_ | refine g_get hv 1 rfl rfl rfl rfl ?_)
  refine g_put hv 0 rfl rfl rfl rfl rfl rfl (fun h hv => ?_)
  repeat (first | refine g_px rfl rfl rfl ?_ | refine g_get hv 0 rfl rfl rfl rfl ?_ | refine g_get hv 1 rfl rfl rfl rfl ?_)
  refine g_put hv 0 rfl rfl rfl rfl rfl rfl (fun h hv => ?_)
  refine g_run 2 rfl ?_
  have loop : ∀ j k h, k + j = 6 → mj_Vw h0 [(b, .inr (1, dob b 0 0 0 0 0 hi er sh 0)), (b + 5, an (mix k ki (fun _ => 0)))] h → mj_go sta (mj_Cl sta d) m_X1_clear (mj_rx m_X1_clear h0 [b, b + 5] (fun v w => v = none ∧ w = [(b, .inr (1, dob b 0 0 0 0 0 hi er sh 0)), (b + 5, an (fun _ => 0))])) 32 [some (.ref b), some (.int (nI k))] [] h := by
    intro j
    induction j with
    | zero =>
      intro k h hk hv
      have hk : k = 6 := by omega
      subst hk
      repeat (first | refine g_px rfl rfl rfl ?_ | refine g_get hv 0 rfl rfl rfl rfl ?_ | refine g_get hv 1 rfl rfl rfl rfl ?_)
      refine g_ic rfl (fun cq => ?_) (fun cq => absurd (show (Int8.ofInt 6).toInt32 ≤ nI 6 by decide) cq)
      rw [an_mix] at hv
      exact g_vret hv rfl rfl rfl ⟨rfl, rfl⟩
    | succ j ih =>
      intro k h hk hv
      have hk6 : k < 6 := by omega
      repeat (first | refine g_px rfl rfl rfl ?_ | refine g_get hv 0 rfl rfl rfl rfl ?_ | refine g_get hv 1 rfl rfl rfl rfl ?_)
      refine g_ic rfl (fun cq => absurd cq (nI_ge (a := k) (b := 6) hk6 (by decide))) (fun cq => ?_)
      repeat (first | refine g_px rfl rfl rfl ?_ | refine g_get hv 0 rfl rfl rfl rfl ?_ | refine g_get hv 1 rfl rfl rfl rfl ?_)
      refine g_nst (y := 0) hv 1 hk6 rfl rfl (fun h hv => ?_)
      rw [show va_up (mix k ki (fun _ => 0)) k 0 = mix (k + 1) ki (fun _ => 0) from mix_up (f' := fun _ => 0)] at hv
      refine g_run 2 rfl ?_
      have := ih (k + 1) h (by omega) hv
      rw [nI_succ] at this
      exact this
  refine loop 6 0 h (by omega) ?_
  rw [mix_0]
  exact hv
/-- Laws -/
abbrev wlw (kn fi : Int32) (hm : Nat → Int64) : mj_W := [(144, .inr (3, [.int kn, .int fi, .ref 145])), (145, .inl (1, 16, .inr (.inl hm)))]
theorem s_forget (sta : mj_S) (d : Nat) (kn fi : Int32) : mj_Sx sta (d + 1) 26 [.ref 144] [(144, .inr (3, [.int kn, .int fi, .ref 145]))] (fun v w => v = none ∧ w = [(144, .inr (3, [.int 0, .int 0, .ref 145]))]) := by
  refine mj_Sx.mk m_X3_forget (by decide) n_X3_forget rfl (fun h0 hv => ?_)
  repeat (first | refine g_px rfl rfl rfl ?_ | refine g_get hv 0 rfl rfl rfl rfl ?_)
  refine g_put hv 0 rfl rfl rfl rfl rfl rfl (fun h hv => ?_)
  repeat (first | refine g_px rfl rfl rfl ?_ | refine g_get hv 0 rfl rfl rfl rfl ?_)
  refine g_put hv 0 rfl rfl rfl rfl rfl rfl (fun h hv => ?_)
  exact g_vret hv rfl rfl rfl ⟨rfl, rfl⟩
theorem bs16 : ∀ b, b < 65536 → ∀ k, k < 16 → nI b ||| ((1 : Int32) <<< (nI k &&& 31)) = nI (b ||| 2 ^ k) := by
  intro b hb k hk
  have e : (1 : Int32) <<< (nI k &&& 31) = nI (2 ^ k) := by
    have : ∀ k, k < 16 → (1 : Int32) <<< (nI k &&& 31) = nI (2 ^ k) := by decide +kernel
    exact this k hk
  rw [e, fa_or]
end
section
/-! Kept -/
abbrev kob (nx ac im : Int32) : List Value := [.ref 30, .ref 31, .int nx, .int ac, .int im]
abbrev ar (n : Nat) (f : Nat → Option Nat) : va_E := .inl (3, n, .inr (.inr (.inr (.inr f))))
/-- a now: numbers and rows -/
abbrev mj_N : Type := (Int32 × Int32 × Int32 × Int32) × (Nat → Nat) × (Nat → Nat) × (Nat → Nat) × (Nat → Option Nat)
abbrev wn (c : Nat) (N : mj_N) : mj_W := [(c, .inr (5, nob c N.1.1 N.1.2.1 N.1.2.2.1 N.1.2.2.2)), (c + 1, an N.2.1), (c + 2, an N.2.2.1), (c + 3, an N.2.2.2.1), (c + 4, sq N.2.2.2.2)]
theorem s_takeN (sta : mj_S) (d c c' : Nat) (N N' : mj_N) : mj_Sx sta (d + 1) 35 [.ref c, .ref c'] (wn c N ++ wn c' N') (fun v w => v = none ∧ w = wn c N' ++ wn c' N') :=
  s_take sta d c c' N'.1.1 N'.1.2.1 N'.1.2.2.1 N'.1.2.2.2 N.2.1 N.2.2.1 N.2.2.2.1 N'.2.1 N'.2.2.1 N'.2.2.2.1 N.2.2.2.2 N'.2.2.2.2 N.1.1 N.1.2.1 N.1.2.2.1 N.1.2.2.2
theorem s_kclear (sta : mj_S) (d : Nat) (nx ac im : Int32) : mj_Sx sta (d + 1) 20 [.ref 29] [(29, .inr (2, kob nx ac im))] (fun v w => v = none ∧ w = [(29, .inr (2, kob nx 0 0))]) := by
  refine mj_Sx.mk m_X2_clear (by decide) n_X2_clear rfl (fun h0 hv => ?_)
  repeat (first | refine g_px rfl rfl rfl ?_ | refine g_get hv 0 rfl rfl rfl rfl ?_)
  refine g_put hv 0 rfl rfl rfl rfl rfl rfl (fun h hv => ?_)
  repeat (first | refine g_px rfl rfl rfl ?_ | refine g_get hv 0 rfl rfl rfl rfl ?_)
  refine g_put hv 0 rfl rfl rfl rfl rfl rfl (fun h hv => ?_)
  exact g_vret hv rfl rfl rfl ⟨rfl, rfl⟩
theorem rem16 {a : Nat} (ha : a < 1000) : nI a - nI a / (Int8.ofInt 16).toInt32 * (Int8.ofInt 16).toInt32 = nI (a % 16) := by
  rw [show (Int8.ofInt 16).toInt32 = nI 16 from rfl]
  exact pk_rem (by omega) (by decide) (by decide)
theorem s_keep (sta : mj_S) (d x a : Nat) (im : Int32) (rg : Nat → Option Nat) (N O : mj_N) (hx : x < 16) (ha : a ≤ 16) (hrg : rg x = some (32 + 5 * x)) :
    mj_Sx sta (d + 2) 21 [.ref 29, .ref 19] ([(29, .inr (2, kob (nI x) (nI a) im)), (30, ar 16 rg)] ++ (wn (32 + 5 * x) O ++ wn 19 N)) (fun v w => v = none ∧ w = [(29, .inr (2, kob (nI ((x + 1) % 16)) (nI (min (a + 1) 16)) im)), (30, ar 16 rg)] ++ (wn (32 + 5 * x) N ++ wn 19 N)) := by
  refine mj_Sx.mk m_X2_keep (by decide) n_X2_keep rfl (fun h0 hv => ?_)
  repeat (first | refine g_px rfl rfl rfl ?_ | refine g_get hv 0 rfl rfl rfl rfl ?_ | refine g_get hv 1 rfl rfl rfl rfl ?_)
  refine g_aald hv 1 rfl rfl (vp_in_nI hx (by decide)) ?_
  rw [nI_clamp (by omega), hrg]
  repeat (first | refine g_px rfl rfl rfl ?_ | refine g_get hv 0 rfl rfl rfl rfl ?_ | refine g_get hv 1 rfl rfl rfl rfl ?_)
  refine g_callV hv [2, 3, 4, 5, 6, 7, 8, 9, 10, 11] 2 rfl rfl rfl rfl rfl rfl rfl rfl (by decide) (s_takeN sta d (32 + 5 * x) 19 O N) (fun v w' h hp hk hv => ?_)
  obtain ⟨rfl, rfl⟩ := hp
  refine g_run 2 rfl ?_
  refine g_get hv 0 rfl rfl rfl rfl ?_
  refine g_run 4 rfl ?_
  rw [show nI x + Int32.ofInt 1 = nI (x + 1) from (nI_succ x).symm, rem16 (by omega)]
  refine g_put hv 0 rfl rfl rfl rfl rfl rfl (fun h hv => ?_)
  repeat (first | refine g_px rfl rfl rfl ?_ | refine g_get hv 0 rfl rfl rfl rfl ?_)
  rw [show nI a + Int32.ofInt 1 = nI (a + 1) from (nI_succ a).symm]
  refine g_callS hv [] rfl rfl rfl rfl rfl rfl rfl (by decide) (s_min sta d _ _) (fun v w' h hp hk hv => ?_)
  obtain ⟨rfl, rfl⟩ := hp
  have e : (if nI (a + 1) ≤ (Int8.ofInt 16).toInt32 then nI (a + 1) else (Int8.ofInt 16).toInt32) = nI (min (a + 1) 16) := by
    rw [show (Int8.ofInt 16).toInt32 = nI 16 from rfl]
    by_cases h1 : a + 1 ≤ 16
    · rw [if_pos (nI_le h1 (by decide)), Nat.min_eq_left h1]
    · rw [if_neg (fun q => h1 ((nI_leI (by omega) (by decide)).mp q)), Nat.min_eq_right (by omega)]
  rw [e]
  refine g_put hv 0 rfl rfl rfl rfl rfl rfl (fun h hv => ?_)
  exact g_vret hv rfl rfl rfl ⟨rfl, rfl⟩
theorem s_takeBack0 (sta : mj_S) (d : Nat) (nx im : Int32) (c : Nat) : mj_Sx sta (d + 1) 22 [.ref 29, .ref c] [(29, .inr (2, kob nx 0 im))] (fun v w => v = some (.int 0) ∧ w = [(29, .inr (2, kob nx 0 im))]) := by
  refine mj_Sx.mk m_X2_takeBack (by decide) n_X2_takeBack rfl (fun h0 hv => ?_)
  repeat (first | refine g_px rfl rfl rfl ?_ | refine g_get hv 0 rfl rfl rfl rfl ?_)
  refine g_if rfl (fun cq => absurd rfl cq) (fun cq => ?_)
  repeat (first | refine g_px rfl rfl rfl ?_ | refine g_get hv 0 rfl rfl rfl rfl ?_)
  exact g_iret hv rfl rfl rfl rfl ⟨rfl, rfl⟩
theorem s_takeBack (sta : mj_S) (d x a : Nat) (im : Int32) (rg : Nat → Option Nat) (N O : mj_N) (hx : x < 16) (ha : a < 16) (hrg : rg ((x + 15) % 16) = some (32 + 5 * ((x + 15) % 16))) :
    mj_Sx sta (d + 2) 22 [.ref 29, .ref 19] ([(29, .inr (2, kob (nI x) (nI (a + 1)) im)), (30, ar 16 rg)] ++ (wn 19 N ++ wn (32 + 5 * ((x + 15) % 16)) O)) (fun v w => v = some (.int 1) ∧ w = [(29, .inr (2, kob (nI ((x + 15) % 16)) (nI a) im)), (30, ar 16 rg)] ++ (wn 19 O ++ wn (32 + 5 * ((x + 15) % 16)) O)) := by
  refine mj_Sx.mk m_X2_takeBack (by decide) n_X2_takeBack rfl (fun h0 hv => ?_)
  generalize hy : (x + 15) % 16 = y at hrg hv ⊢
  have hy16 : y < 16 := by omega
  repeat (first | refine g_px rfl rfl rfl ?_ | refine g_get hv 0 rfl rfl rfl rfl ?_ | refine g_get hv 1 rfl rfl rfl rfl ?_)
  refine g_if rfl (fun cq => ?_) (fun cq => absurd (nI_ne0 (n := a + 1) (by omega) (by omega)) cq)
  repeat (first | refine g_px rfl rfl rfl ?_ | refine g_get hv 0 rfl rfl rfl rfl ?_)
  rw [show nI x + (Int8.ofInt 16).toInt32 - Int32.ofInt 1 = nI (x + 15) by rw [show (Int8.ofInt 16).toInt32 = nI 16 from rfl, nI_add]; exact pk_sub (a := x + 16) (b := 1) (by omega)]
  rw [rem16 (by omega), hy]
  refine g_put hv 0 rfl rfl rfl rfl rfl rfl (fun h hv => ?_)
  repeat (first | refine g_px rfl rfl rfl ?_ | refine g_get hv 0 rfl rfl rfl rfl ?_)
  rw [show nI (a + 1) - Int32.ofInt 1 = nI a from nI_pred a]
  refine g_put hv 0 rfl rfl rfl rfl rfl rfl (fun h hv => ?_)
  repeat (first | refine g_px rfl rfl rfl ?_ | refine g_get hv 0 rfl rfl rfl rfl ?_)
  refine g_aald hv 1 rfl rfl (vp_in_nI hy16 (by decide)) ?_
  rw [nI_clamp (by omega), hrg]
  refine g_callV hv [2, 3, 4, 5, 6, 7, 8, 9, 10, 11] 2 rfl rfl rfl rfl rfl rfl rfl rfl (by decide) (s_takeN sta d 19 (32 + 5 * y) N O) (fun v w' h hp hk hv => ?_)
  obtain ⟨rfl, rfl⟩ := hp
  repeat (first | refine g_px rfl rfl rfl ?_ | refine g_get hv 0 rfl rfl rfl rfl ?_)
  exact g_iret hv rfl rfl rfl rfl ⟨rfl, rfl⟩
theorem s_paint3 (sta : mj_S) (d : Nat) (nx ac : Int32) (c : Nat) : mj_Sx sta (d + 1) 23 [.ref 29, .ref c] [(29, .inr (2, kob nx ac 3))] (fun v w => v = some (.int (-1)) ∧ w = [(29, .inr (2, kob nx ac 3))]) := by
  refine mj_Sx.mk m_X2_paint (by decide) n_X2_paint rfl (fun h0 hv => ?_)
  repeat (first | refine g_px rfl rfl rfl ?_ | refine g_get hv 0 rfl rfl rfl rfl ?_)
  refine g_ic rfl (fun cq => absurd cq (show ¬ (3 : Int32) < 3 by decide)) (fun cq => ?_)
  repeat (first | refine g_px rfl rfl rfl ?_ | refine g_get hv 0 rfl rfl rfl rfl ?_)
  exact g_iret hv rfl rfl rfl rfl ⟨rfl, rfl⟩
theorem s_paint (sta : mj_S) (d i : Nat) (nx ac : Int32) (pa : Nat → Option Nat) (N O : mj_N) (hi : i < 3) (hpa : pa i = some (112 + 5 * i)) :
    mj_Sx sta (d + 2) 23 [.ref 29, .ref 19] ([(29, .inr (2, kob nx ac (nI i))), (31, ar 3 pa)] ++ (wn (112 + 5 * i) O ++ wn 19 N)) (fun v w => v = some (.int (nI i)) ∧ w = [(29, .inr (2, kob nx ac (nI (i + 1)))), (31, ar 3 pa)] ++ (wn (112 + 5 * i) N ++ wn 19 N)) := by
  refine mj_Sx.mk m_X2_paint (by decide) n_X2_paint rfl (fun h0 hv => ?_)
  repeat (first | refine g_px rfl rfl rfl ?_ | refine g_get hv 0 rfl rfl rfl rfl ?_ | refine g_get hv 1 rfl rfl rfl rfl ?_)
  refine g_ic rfl (fun cq => ?_) (fun cq => absurd (nI_lt (a := i) (b := 3) hi (by decide)) cq)
  repeat (first | refine g_px rfl rfl rfl ?_ | refine g_get hv 0 rfl rfl rfl rfl ?_ | refine g_get hv 1 rfl rfl rfl rfl ?_)
  refine g_aald hv 1 rfl rfl (vp_in_nI hi (by decide)) ?_
  rw [nI_clamp (by omega), hpa]
  repeat (first | refine g_px rfl rfl rfl ?_ | refine g_get hv 0 rfl rfl rfl rfl ?_ | refine g_get hv 1 rfl rfl rfl rfl ?_)
  refine g_callV hv [2, 3, 4, 5, 6, 7, 8, 9, 10, 11] 2 rfl rfl rfl rfl rfl rfl rfl rfl (by decide) (s_takeN sta d (112 + 5 * i) 19 O N) (fun v w' h hp hk hv => ?_)
  obtain ⟨rfl, rfl⟩ := hp
  refine g_run 2 rfl ?_
  refine g_get hv 0 rfl rfl rfl rfl ?_
  refine g_run 2 rfl ?_
  rw [show nI i + Int32.ofInt 1 = nI (i + 1) from (nI_succ i).symm]
  refine g_put hv 0 rfl rfl rfl rfl rfl rfl (fun h hv => ?_)
  repeat (first | refine g_px rfl rfl rfl ?_ | refine g_get hv 0 rfl rfl rfl rfl ?_)
  rw [show nI (i + 1) - Int32.ofInt 1 = nI i from nI_pred i]
  exact g_iret hv rfl rfl rfl rfl ⟨rfl, rfl⟩
theorem s_goBack0 (sta : mj_S) (d c : Nat) (nx ac im x : Int32) (hx : x < 0 ∨ im ≤ x) : mj_Sx sta (d + 1) 24 [.ref 29, .int x, .ref c] [(29, .inr (2, kob nx ac im))] (fun v w => v = some (.int 0) ∧ w = [(29, .inr (2, kob nx ac im))]) := by
  refine mj_Sx.mk m_X2_goBack (by decide) n_X2_goBack rfl (fun h0 hv => ?_)
  repeat (first | refine g_px rfl rfl rfl ?_ | refine g_get hv 0 rfl rfl rfl rfl ?_)
  refine g_if rfl (fun cq => ?_) (fun cq => ?_)
  · repeat (first | refine g_px rfl rfl rfl ?_ | refine g_get hv 0 rfl rfl rfl rfl ?_)
    exact g_iret hv rfl rfl rfl rfl ⟨rfl, rfl⟩
  · have cq : ¬ x < 0 := cq
    repeat (first | refine g_px rfl rfl rfl ?_ | refine g_get hv 0 rfl rfl rfl rfl ?_)
    refine g_ic rfl (fun cq2 => ?_) (fun cq2 => ?_)
    · have cq2 : x < im := cq2
      rcases hx with h1 | h1
      · exact absurd h1 cq
      · exact absurd cq2 (Int32.not_lt.mpr h1)
    · repeat (first | refine g_px rfl rfl rfl ?_ | refine g_get hv 0 rfl rfl rfl rfl ?_)
      exact g_iret hv rfl rfl rfl rfl ⟨rfl, rfl⟩
theorem s_goBack (sta : mj_S) (d i im : Nat) (nx ac : Int32) (pa : Nat → Option Nat) (N O : mj_N) (hi : i < im) (him : im ≤ 3) (hpa : pa i = some (112 + 5 * i)) :
    mj_Sx sta (d + 2) 24 [.ref 29, .int (nI i), .ref 19] ([(29, .inr (2, kob nx ac (nI im))), (31, ar 3 pa)] ++ (wn 19 N ++ wn (112 + 5 * i) O)) (fun v w => v = some (.int 1) ∧ w = [(29, .inr (2, kob nx 0 (nI im))), (31, ar 3 pa)] ++ (wn 19 O ++ wn (112 + 5 * i) O)) := by
  refine mj_Sx.mk m_X2_goBack (by decide) n_X2_goBack rfl (fun h0 hv => ?_)
  repeat (first | refine g_px rfl rfl rfl ?_ | refine g_get hv 0 rfl rfl rfl rfl ?_ | refine g_get hv 1 rfl rfl rfl rfl ?_)
  refine g_if rfl (fun cq => absurd cq (nI_pos (by omega))) (fun cq => ?_)
  repeat (first | refine g_px rfl rfl rfl ?_ | refine g_get hv 0 rfl rfl rfl rfl ?_ | refine g_get hv 1 rfl rfl rfl rfl ?_)
  refine g_ic rfl (fun cq => ?_) (fun cq => absurd (nI_lt hi (by omega)) cq)
  repeat (first | refine g_px rfl rfl rfl ?_ | refine g_get hv 0 rfl rfl rfl rfl ?_ | refine g_get hv 1 rfl rfl rfl rfl ?_)
  refine g_aald hv 1 rfl rfl (vp_in_nI (show i < 3 by omega) (by decide)) ?_
  rw [nI_clamp (by omega), hpa]
  refine g_callV hv [2, 3, 4, 5, 6, 7, 8, 9, 10, 11] 2 rfl rfl rfl rfl rfl rfl rfl rfl (by decide) (s_takeN sta d 19 (112 + 5 * i) N O) (fun v w' h hp hk hv => ?_)
  obtain ⟨rfl, rfl⟩ := hp
  refine g_run 2 rfl ?_
  refine g_put hv 0 rfl rfl rfl rfl rfl rfl (fun h hv => ?_)
  repeat (first | refine g_px rfl rfl rfl ?_ | refine g_get hv 0 rfl rfl rfl rfl ?_)
  exact g_iret hv rfl rfl rfl rfl ⟨rfl, rfl⟩
end
section
/-! Cases: what is read -/
abbrev a7 (f : Nat → Nat) : va_E := .inl (0, 720, .inl (fun i => if i < 720 then nI (f i) else 0))
section R7
variable {sta : mj_S} {Cl : mj_R} {M : mj_M} {T : Nat → mj_L → List Value → mj_H → Prop} {pc q len wp a k : Nat} {lv : mj_L} {st r : List Value} {h0 h : mj_H} {w : mj_W} {raw : Instr} {f : Nat → Nat}
theorem g_n7 (hv : mj_Vw h0 w h) (j : Nat) (hk : k < 720) (he : mj_ent (mj_cd M) pc = some (q, .iaload, len, raw, wp)) (hj : mj_nth w j = some (a, a7 f)) (kk : mj_go sta Cl M T (q + len) lv (.int (nI (f k)) :: r) h) : mj_go sta Cl M T pc lv (.int (nI k) :: .ref a :: r) h := by
  refine g_iald hv j he hj (vp_in_nI hk (by decide)) ?_
  rw [nI_clamp (by omega), if_pos hk]
  exact kk
theorem g_n7s {y : Nat} (hv : mj_Vw h0 w h) (j : Nat) (hk : k < 720) (he : mj_ent (mj_cd M) pc = some (q, .iastore, len, raw, wp)) (hj : mj_nth w j = some (a, a7 f)) (kk : ∀ h, mj_Vw h0 (w.set j (a, a7 (va_up f k y))) h → mj_go sta Cl M T (q + len) lv r h) : mj_go sta Cl M T pc lv (.int (nI y) :: .int (nI k) :: .ref a :: r) h := by
  refine g_iast hv j he hj (vp_in_nI hk (by decide)) (fun h hv => ?_)
  have e : upd (fun i => if i < 720 then nI (f i) else (0 : Int32)) k (nI y) = (fun i => if i < 720 then nI (va_up f k y i) else 0) := by
    funext i
    unfold upd va_up
    by_cases h : i = k
    · subst h; simp [hk]
    · simp [h]
  rw [nI_clamp (by omega), e] at hv
  exact kk h hv
end R7
/-- a code: nobody 0, else one more -/
def cd (o : Option Nat) : Nat := match o with
  | none => 0
  | some q => q + 1
def pkn (g : Nat → Option Nat) : Nat → Nat
  | 0 => 0
  | k + 1 => 2 ^ (3 * k) * cd (g k) + pkn g k
def gok (g : Nat → Option Nat) : Prop := ∀ m q, g m = some q → q < 6
theorem cd_lt {g : Nat → Option Nat} (hg : gok g) (m : Nat) : cd (g m) < 7 := by
  unfold cd
  split
  · omega
  · rename_i q e; have := hg m q e; omega
theorem pkn_lt {g : Nat → Option Nat} (hg : gok g) : ∀ k, pkn g k < 2 ^ (3 * k)
  | 0 => by simp [pkn]
  | k + 1 => by
    have ih := pkn_lt hg k
    have hc := cd_lt hg k
    rw [pkn, show 3 * (k + 1) = 3 * k + 3 by omega, Nat.pow_add]
    have h2 : 2 ^ (3 * k) * cd (g k) ≤ 2 ^ (3 * k) * 6 := Nat.mul_le_mul_left _ (by omega)
    omega
theorem sh3 : ∀ q, q < 6 → ∀ m, m < 6 → (nI q + Int32.ofInt 1) <<< (Int32.ofInt 3 * nI m &&& 31) = nI (2 ^ (3 * m) * (q + 1)) := by decide +kernel
theorem s_packed (sta : mj_S) (d ks : Nat) (g : Nat → Option Nat) (hg : gok g) : mj_Sx sta (d + 1) 6 [.ref ks] [(ks, sq g)] (fun v w => v = some (.int (nI (pkn g 6))) ∧ w = [(ks, sq g)]) := by
  refine mj_Sx.mk m_X0_packed (by decide) n_X0_packed rfl (fun h0 hv => ?_)
  have loop : ∀ j k, k + j = 6 → mj_go sta (mj_Cl sta d) m_X0_packed (mj_rx m_X0_packed h0 [ks] (fun v w => v = some (.int (nI (pkn g 6))) ∧ w = [(ks, sq g)])) 4 [some (.ref ks), some (.int (nI (pkn g k))), some (.int (nI k))] [] h0 := by
    intro j
    induction j with
    | zero =>
      intro k hk
      have hk : k = 6 := by omega
      subst hk
      repeat (first | refine g_px rfl rfl rfl ?_ | refine g_get hv 0 rfl rfl rfl rfl ?_)
      refine g_ic rfl (fun cq => ?_) (fun cq => absurd (show (Int8.ofInt 6).toInt32 ≤ nI 6 by decide) cq)
      repeat (first | refine g_px rfl rfl rfl ?_ | refine g_get hv 0 rfl rfl rfl rfl ?_)
      exact g_iret hv rfl rfl rfl rfl ⟨rfl, rfl⟩
    | succ j ih =>
      intro k hk
      have hk6 : k < 6 := by omega
      repeat (first | refine g_px rfl rfl rfl ?_ | refine g_get hv 0 rfl rfl rfl rfl ?_)
      refine g_ic rfl (fun cq => absurd cq (nI_ge (a := k) (b := 6) hk6 (by decide))) (fun cq => ?_)
      repeat (first | refine g_px rfl rfl rfl ?_ | refine g_get hv 0 rfl rfl rfl rfl ?_)
      refine g_s6 hv 0 hk6 rfl rfl ?_
      refine g_if rfl (fun cq => ?_) (fun cq => ?_)
      · have e : g k = none := (snd_nn (fun q hq => hg k q hq)).mp cq
        refine g_run 2 rfl ?_
        have e2 : pkn g (k + 1) = pkn g k := by rw [pkn, e]; simp [cd]
        have := ih (k + 1) (by omega)
        rw [nI_succ, e2] at this
        exact this
      · cases e : g k with
        | none => rw [e] at cq; exact absurd (show snd none < 0 by decide) cq
        | some q =>
          have hq := hg k q e
          repeat (first | refine g_px rfl rfl rfl ?_ | refine g_get hv 0 rfl rfl rfl rfl ?_)
          refine g_s6 hv 0 hk6 rfl rfl ?_
          rw [e]
          refine g_run 10 rfl ?_
          have := ih (k + 1) (by omega)
          have e2 : nI (pkn g (k + 1)) = nI (pkn g k) ||| ((nI q + Int32.ofInt 1) <<< (Int32.ofInt 3 * nI k &&& 31)) := by
            rw [sh3 q hq k hk6, Int32.or_comm, fa_or_sum _ (pkn_lt hg k), pkn, e]
            rfl
          rw [nI_succ, e2] at this
          exact this
  refine g_run 4 rfl ?_
  exact loop 6 0 (by omega)
theorem pkn_at {g : Nat → Option Nat} (hg : gok g) {m : Nat} (hm : m < 6) : pkn g 6 / 2 ^ (3 * m) % 8 = cd (g m) := by
  have c0 := cd_lt hg 0
  have c1 := cd_lt hg 1
  have c2 := cd_lt hg 2
  have c3 := cd_lt hg 3
  have c4 := cd_lt hg 4
  have c5 := cd_lt hg 5
  simp only [pkn]
  match m, hm with
  | 0, _ => simp; omega
  | 1, _ => simp; omega
  | 2, _ => simp; omega
  | 3, _ => simp; omega
  | 4, _ => simp; omega
  | 5, _ => simp; omega
theorem shr3 {P m : Nat} (hP : P < 2 ^ 18) (hm : m < 6) : (nI P >>> (Int32.ofInt 3 * nI m &&& 31)) &&& (Int8.ofInt 7).toInt32 = nI (P / 2 ^ (3 * m) % 8) := by
  have e : nI P >>> (Int32.ofInt 3 * nI m &&& 31) = nI (P / 2 ^ (3 * m)) := by
    match m, hm with
    | 0, _ => exact pk_shrN (by omega) _ 0 (by decide)
    | 1, _ => exact pk_shrN (by omega) _ 3 (by decide)
    | 2, _ => exact pk_shrN (by omega) _ 6 (by decide)
    | 3, _ => exact pk_shrN (by omega) _ 9 (by decide)
    | 4, _ => exact pk_shrN (by omega) _ 12 (by decide)
    | 5, _ => exact pk_shrN (by omega) _ 15 (by decide)
  rw [e]
  exact pk_andN (Nat.lt_of_le_of_lt (Nat.div_le_self _ _) (by omega)) (m := (Int8.ofInt 7).toInt32) 3 (by decide)
def snt (o : Option Nat) : Int32 := match o with
  | none => -1
  | some q => nI q
theorem cd_snt (o : Option Nat) : nI (cd o) - Int32.ofInt 1 = snt o := by
  cases o with
  | none => rfl
  | some q => exact nI_pred q
abbrev cob (s : Nat) (ct mn : Int32) : List Value := [.ref (s + 1), .ref (s + 3), .int ct, .int mn, .ref (s + 4), .ref (s + 5), .ref (s + 6)]
theorem s_sent (sta : mj_S) (d s k m : Nat) (ct mn : Int32) (G : Nat → Nat → Option Nat) (hG : ∀ k, gok (G k)) (hk : k < 720) (hm : m < 6) :
    mj_Sx sta (d + 1) 7 [.ref s, .int (nI k), .int (nI m)] [(s, .inr (0, cob s ct mn)), (s + 5, a7 (fun k => pkn (G k) 6))] (fun v w => v = some (.int (snt (G k m))) ∧ w = [(s, .inr (0, cob s ct mn)), (s + 5, a7 (fun k => pkn (G k) 6))]) := by
  refine mj_Sx.mk m_X0_sent (by decide) n_X0_sent rfl (fun h0 hv => ?_)
  repeat (first | refine g_px rfl rfl rfl ?_ | refine g_get hv 0 rfl rfl rfl rfl ?_ | refine g_get hv 1 rfl rfl rfl rfl ?_)
  refine g_n7 hv 1 hk rfl rfl ?_
  repeat (first | refine g_px rfl rfl rfl ?_ | refine g_get hv 0 rfl rfl rfl rfl ?_ | refine g_get hv 1 rfl rfl rfl rfl ?_)
  rw [shr3 (pkn_lt (hG k) 6) hm, pkn_at (hG k) hm, cd_snt]
  exact g_iret hv rfl rfl rfl rfl ⟨rfl, rfl⟩
theorem s_isTaken (sta : mj_S) (d s k m : Nat) (ct mn : Int32) (K : Nat → Nat) (hK : bd 64 K) (hk : k < 720) (hm : m < 6) :
    mj_Sx sta (d + 1) 8 [.ref s, .int (nI k), .int (nI m)] [(s, .inr (0, cob s ct mn)), (s + 4, a7 K)] (fun v w => v = some (.int (bl ((K k).testBit m))) ∧ w = [(s, .inr (0, cob s ct mn)), (s + 4, a7 K)]) := by
  refine mj_Sx.mk m_X0_isTaken (by decide) n_X0_isTaken rfl (fun h0 hv => ?_)
  repeat (first | refine g_px rfl rfl rfl ?_ | refine g_get hv 0 rfl rfl rfl rfl ?_ | refine g_get hv 1 rfl rfl rfl rfl ?_)
  refine g_n7 hv 1 hk rfl rfl ?_
  repeat (first | refine g_px rfl rfl rfl ?_ | refine g_get hv 0 rfl rfl rfl rfl ?_ | refine g_get hv 1 rfl rfl rfl rfl ?_)
  have hbit := bt_get (K k) (hK k) m hm
  refine g_ic rfl (fun cq => ?_) (fun cq => ?_)
  · have cq : ¬ ((nI (K k) >>> (nI m &&& 31)) &&& 1) = 1 := cq
    repeat (first | refine g_px rfl rfl rfl ?_ | refine g_get hv 0 rfl rfl rfl rfl ?_ | refine g_get hv 1 rfl rfl rfl rfl ?_)
    refine g_iret hv rfl rfl rfl rfl ⟨?_, rfl⟩
    cases q : (K k).testBit m with
    | false => rfl
    | true => rw [hbit, q] at cq; exact absurd rfl cq
  · have cq : ¬ ¬ ((nI (K k) >>> (nI m &&& 31)) &&& 1) = 1 := cq
    repeat (first | refine g_px rfl rfl rfl ?_ | refine g_get hv 0 rfl rfl rfl rfl ?_ | refine g_get hv 1 rfl rfl rfl rfl ?_)
    refine g_iret hv rfl rfl rfl rfl ⟨?_, rfl⟩
    cases q : (K k).testBit m with
    | true => rfl
    | false => rw [hbit, q] at cq; exact absurd (by decide) cq
/-- for whom a man goes -/
def sdr (g : Nat → Option Nat) (m : Nat) : Nat → Nat → Option Nat
  | 0, _ => none
  | j + 1, k => if g k = some m then some k else sdr g m j (k + 1)
theorem snt_eq {o : Option Nat} {m : Nat} (hm : m < 6) (ho : ∀ q, o = some q → q < 6) : snt o = nI m ↔ o = some m := by
  cases o with
  | none => exact ⟨fun h => by
      have : ∀ m, m < 6 → ¬ (-1 : Int32) = nI m := by decide +kernel
      exact absurd h (this m hm), fun h => by cases h⟩
  | some q => exact ⟨fun h => by rw [(nI_eq (by have := ho q rfl; omega) (by omega)).mp h], fun h => by cases h; rfl⟩
theorem s_sender (sta : mj_S) (d s k m n : Nat) (ct : Int32) (G : Nat → Nat → Option Nat) (hG : ∀ k, gok (G k)) (hk : k < 720) (hm : m < 6) (hn : n ≤ 6) :
    mj_Sx sta (d + 2) 9 [.ref s, .int (nI k), .int (nI m)] [(s, .inr (0, cob s ct (nI n))), (s + 5, a7 (fun k => pkn (G k) 6))] (fun v w => v = some (.int (snd (sdr (G k) m n 0))) ∧ w = [(s, .inr (0, cob s ct (nI n))), (s + 5, a7 (fun k => pkn (G k) 6))]) := by
  refine mj_Sx.mk m_X0_sender (by decide) n_X0_sender rfl (fun h0 hv => ?_)
  have loop : ∀ j x h, x + j = n → mj_Vw h0 [(s, .inr (0, cob s ct (nI n))), (s + 5, a7 (fun k => pkn (G k) 6))] h → mj_go sta (mj_Cl sta (d + 1)) m_X0_sender (mj_rx m_X0_sender h0 [s, s + 5] (fun v w => v = some (.int (snd (sdr (G k) m j x))) ∧ w = [(s, .inr (0, cob s ct (nI n))), (s + 5, a7 (fun k => pkn (G k) 6))])) 2 [some (.ref s), some (.int (nI k)), some (.int (nI m)), some (.int (nI x))] [] h := by
    intro j
    induction j with
    | zero =>
      intro x h hx hv
      have hx : x = n := by omega
      subst hx
      repeat (first | refine g_px rfl rfl rfl ?_ | refine g_get hv 0 rfl rfl rfl rfl ?_ | refine g_get hv 1 rfl rfl rfl rfl ?_)
      refine g_ic rfl (fun cq => ?_) (fun cq => absurd (nI_le (Nat.le_refl x) (by omega)) cq)
      repeat (first | refine g_px rfl rfl rfl ?_ | refine g_get hv 0 rfl rfl rfl rfl ?_ | refine g_get hv 1 rfl rfl rfl rfl ?_)
      exact g_iret hv rfl rfl rfl rfl ⟨rfl, rfl⟩
    | succ j ih =>
      intro x h hx hv
      repeat (first | refine g_px rfl rfl rfl ?_ | refine g_get hv 0 rfl rfl rfl rfl ?_ | refine g_get hv 1 rfl rfl rfl rfl ?_)
      refine g_ic rfl (fun cq => absurd cq (nI_ge (a := x) (b := n) (by omega) (by omega))) (fun cq => ?_)
      repeat (first | refine g_px rfl rfl rfl ?_ | refine g_get hv 0 rfl rfl rfl rfl ?_ | refine g_get hv 1 rfl rfl rfl rfl ?_)
      refine g_callV hv [0, 1] 0 rfl rfl rfl rfl rfl rfl rfl rfl (by decide) (s_sent sta d s k x ct (nI n) G hG hk (by omega)) (fun v w' h hp hk hv => ?_)
      obtain ⟨rfl, rfl⟩ := hp
      refine g_run 1 rfl ?_
      refine g_ic rfl (fun cq => ?_) (fun cq => ?_)
      · have cq : ¬ snt (G k x) = nI m := cq
        have hne : ¬ G k x = some m := fun e => cq ((snt_eq hm (hG k x)).mpr e)
        refine g_run 2 rfl ?_
        rw [sdr, if_neg hne]
        have := ih (x + 1) h (by omega) hv
        rw [nI_succ] at this
        exact this
      · have cq : ¬ ¬ snt (G k x) = nI m := cq
        have he : G k x = some m := (snt_eq hm (hG k x)).mp (Decidable.not_not.mp cq)
        refine g_run 1 rfl ?_
        rw [sdr, if_pos he]
        exact g_iret hv rfl rfl rfl rfl ⟨rfl, rfl⟩
  refine g_run 2 rfl ?_
  exact loop n 0 h0 (by omega) hv
theorem shl1 : ∀ m, m < 6 → (Int32.ofInt 1 <<< (nI m &&& 31)) = nI (2 ^ m) := by decide +kernel
def lsc (cl T : Nat) (g : Nat → Option Nat) (W A : Nat → Nat) (m : Nat) : Nat := if cl.testBit m then los T g W A m else 0
theorem los_lt {T : Nat} {g : Nat → Option Nat} {W A : Nat → Nat} (hW : bd 1000 W) (hA : bd 1000 A) (m : Nat) : los T g W A m < 1000 := by
  unfold los
  split
  · split
    · exact hW m
    · exact hA _
  · omega
abbrev wcl (s b : Nat) (ct : Int32) (n : Nat) (K : Nat → Nat) (G : Nat → Nat → Option Nat) (tk kn sp hd hi er sh wn : Int32) (W A : Nat → Nat) : mj_W := [(s, .inr (0, cob s ct (nI n))), (s + 4, a7 K), (s + 5, a7 (fun k => pkn (G k) 6)), (b, .inr (1, dob b tk (nI n) kn sp hd hi er sh wn)), (b + 2, an W), (b + 4, an A)]
theorem s_clost (sta : mj_S) (d s b k cl n : Nat) (ct tk kn sp hd hi er sh wn : Int32) (K : Nat → Nat) (G : Nat → Nat → Option Nat) (W A : Nat → Nat) (hG : ∀ k, gok (G k)) (hK : bd 64 K) (hk : k < 720) (hn : n ≤ 6) (hW : bd 1000 W) (hA : bd 1000 A) :
    mj_Sx sta (d + 2) 10 [.ref s, .ref b, .int (nI k), .int (nI cl)] (wcl s b ct n K G tk kn sp hd hi er sh wn W A) (fun v w => v = some (.int (nI (fb_sm (lsc cl (K k) (G k) W A) n))) ∧ w = wcl s b ct n K G tk kn sp hd hi er sh wn W A) := by
  refine mj_Sx.mk m_X0_lost (by decide) n_X0_lost rfl (fun h0 hv => ?_)
  have loop : ∀ j x h o, x + j = n → mj_Vw h0 (wcl s b ct n K G tk kn sp hd hi er sh wn W A) h → mj_go sta (mj_Cl sta (d + 1)) m_X0_lost (mj_rx m_X0_lost h0 [s, s + 4, s + 5, b, b + 2, b + 4] (fun v w => v = some (.int (nI (fb_sm (lsc cl (K k) (G k) W A) n))) ∧ w = wcl s b ct n K G tk kn sp hd hi er sh wn W A)) 6 [some (.ref s), some (.ref b), some (.int (nI k)), some (.int (nI cl)), some (.int (nI (fb_sm (lsc cl (K k) (G k) W A) x))), some (.int (nI x)), o] [] h := by
    intro j
    induction j with
    | zero =>
      intro x h o hx hv
      have hx : x = n := by omega
      subst hx
      repeat (first | refine g_px rfl rfl rfl ?_ | refine g_get hv 0 rfl rfl rfl rfl ?_ | refine g_get hv 1 rfl rfl rfl rfl ?_ | refine g_get hv 2 rfl rfl rfl rfl ?_ | refine g_get hv 3 rfl rfl rfl rfl ?_ | refine g_get hv 4 rfl rfl rfl rfl ?_ | refine g_get hv 5 rfl rfl rfl rfl ?_)
      refine g_ic rfl (fun cq => ?_) (fun cq => absurd (nI_le (Nat.le_refl x) (by omega)) cq)
      repeat (first | refine g_px rfl rfl rfl ?_ | refine g_get hv 0 rfl rfl rfl rfl ?_ | refine g_get hv 1 rfl rfl rfl rfl ?_ | refine g_get hv 2 rfl rfl rfl rfl ?_ | refine g_get hv 3 rfl rfl rfl rfl ?_ | refine g_get hv 4 rfl rfl rfl rfl ?_ | refine g_get hv 5 rfl rfl rfl rfl ?_)
      exact g_iret hv rfl rfl rfl rfl ⟨rfl, rfl⟩
    | succ j ih =>
      intro x h o hx hv
      have hx6 : x < 6 := by omega
      have next : ∀ y h o, y = lsc cl (K k) (G k) W A x → mj_Vw h0 (wcl s b ct n K G tk kn sp hd hi er sh wn W A) h → mj_go sta (mj_Cl sta (d + 1)) m_X0_lost (mj_rx m_X0_lost h0 [s, s + 4, s + 5, b, b + 2, b + 4] (fun v w => v = some (.int (nI (fb_sm (lsc cl (K k) (G k) W A) n))) ∧ w = wcl s b ct n K G tk kn sp hd hi er sh wn W A)) 67 [some (.ref s), some (.ref b), some (.int (nI k)), some (.int (nI cl)), some (.int (nI (fb_sm (lsc cl (K k) (G k) W A) x + y))), some (.int (nI x)), o] [] h := by
        intro y h o hy hv
        subst hy
        refine g_run 2 rfl ?_
        have := ih (x + 1) h o (by omega) hv
        rw [nI_succ, fb_sm_succ] at this
        exact this
      repeat (first | refine g_px rfl rfl rfl ?_ | refine g_get hv 0 rfl rfl rfl rfl ?_ | refine g_get hv 1 rfl rfl rfl rfl ?_ | refine g_get hv 2 rfl rfl rfl rfl ?_ | refine g_get hv 3 rfl rfl rfl rfl ?_ | refine g_get hv 4 rfl rfl rfl rfl ?_ | refine g_get hv 5 rfl rfl rfl rfl ?_)
      refine g_ic rfl (fun cq => absurd cq (nI_ge (a := x) (b := n) (by omega) (by omega))) (fun cq => ?_)
      repeat (first | refine g_px rfl rfl rfl ?_ | refine g_get hv 0 rfl rfl rfl rfl ?_ | refine g_get hv 1 rfl rfl rfl rfl ?_ | refine g_get hv 2 rfl rfl rfl rfl ?_ | refine g_get hv 3 rfl rfl rfl rfl ?_ | refine g_get hv 4 rfl rfl rfl rfl ?_ | refine g_get hv 5 rfl rfl rfl rfl ?_)
      refine g_n7 hv 1 hk rfl rfl ?_
      repeat (first | refine g_px rfl rfl rfl ?_ | refine g_get hv 0 rfl rfl rfl rfl ?_ | refine g_get hv 1 rfl rfl rfl rfl ?_ | refine g_get hv 2 rfl rfl rfl rfl ?_ | refine g_get hv 3 rfl rfl rfl rfl ?_ | refine g_get hv 4 rfl rfl rfl rfl ?_ | refine g_get hv 5 rfl rfl rfl rfl ?_)
      rw [shl1 x hx6, fa_and]
      refine g_if rfl (fun cq => ?_) (fun cq => ?_)
      · have cq : nI (cl &&& K k) &&& nI (2 ^ x) = 0 := cq
        have ht := (fa_bit (by omega)).mp cq
        rw [Nat.testBit_and] at ht
        have e : lsc cl (K k) (G k) W A x = 0 := by
          unfold lsc los
          cases h1 : cl.testBit x with
          | false => rfl
          | true =>
            rw [h1, Bool.true_and] at ht
            rw [ht]
            rfl
        have := next 0 h o e.symm hv
        exact this
      · have cq : ¬ nI (cl &&& K k) &&& nI (2 ^ x) = 0 := cq
        have ht : (cl &&& K k).testBit x = true := by
          cases q : (cl &&& K k).testBit x with
          | true => rfl
          | false => exact absurd ((fa_bit (by omega)).mpr q) cq
        rw [Nat.testBit_and, Bool.and_eq_true] at ht
        repeat (first | refine g_px rfl rfl rfl ?_ | refine g_get hv 0 rfl rfl rfl rfl ?_ | refine g_get hv 1 rfl rfl rfl rfl ?_ | refine g_get hv 2 rfl rfl rfl rfl ?_ | refine g_get hv 3 rfl rfl rfl rfl ?_ | refine g_get hv 4 rfl rfl rfl rfl ?_ | refine g_get hv 5 rfl rfl rfl rfl ?_)
        refine g_callV hv [0, 2] 0 rfl rfl rfl rfl rfl rfl rfl rfl (by decide) (s_sent sta d s k x ct (nI n) G hG hk hx6) (fun v w' h hp hk hv => ?_)
        obtain ⟨rfl, rfl⟩ := hp
        have hv : mj_Vw h0 (wcl s b ct n K G tk kn sp hd hi er sh wn W A) h := hv
        refine g_run 3 rfl ?_
        refine g_if rfl (fun cq => ?_) (fun cq => ?_)
        · have cq : 0 ≤ snt (G k x) := cq
          cases e : G k x with
          | none => rw [e] at cq; exact absurd cq (by decide)
          | some q =>
            have hq := hG k x q e
            repeat (first | refine g_px rfl rfl rfl ?_ | refine g_get hv 0 rfl rfl rfl rfl ?_ | refine g_get hv 1 rfl rfl rfl rfl ?_ | refine g_get hv 2 rfl rfl rfl rfl ?_ | refine g_get hv 3 rfl rfl rfl rfl ?_ | refine g_get hv 4 rfl rfl rfl rfl ?_ | refine g_get hv 5 rfl rfl rfl rfl ?_)
            refine g_n6 hv 5 hq rfl rfl ?_
            refine g_run 2 rfl ?_
            rw [nI_add]
            refine next (A q) h _ ?_ hv
            rw [lsc, if_pos ht.1, los, if_pos ht.2, e]
        · have cq : ¬ 0 ≤ snt (G k x) := cq
          have e : G k x = none := by
            cases e : G k x with
            | none => rfl
            | some q => rw [e] at cq; exact absurd (nI_pos' (by have := hG k x q e; omega)) cq
          repeat (first | refine g_px rfl rfl rfl ?_ | refine g_get hv 0 rfl rfl rfl rfl ?_ | refine g_get hv 1 rfl rfl rfl rfl ?_ | refine g_get hv 2 rfl rfl rfl rfl ?_ | refine g_get hv 3 rfl rfl rfl rfl ?_ | refine g_get hv 4 rfl rfl rfl rfl ?_ | refine g_get hv 5 rfl rfl rfl rfl ?_)
          refine g_n6 hv 4 hx6 rfl rfl ?_
          refine g_run 3 rfl ?_
          rw [nI_add]
          refine next (W x) h _ ?_ hv
          rw [lsc, if_pos ht.1, los, if_pos ht.2, e]
  refine g_run 4 rfl ?_
  exact loop n 0 h0 _ (by omega) hv
abbrev wcw (s ct n : Nat) (K : Nat → Nat) (G : Nat → Nat → Option Nat) (E : Nat → Nat) : mj_W := [(s, .inr (0, cob s (nI ct) (nI n))), (s + 4, a7 K), (s + 5, a7 (fun k => pkn (G k) 6)), (s + 6, a7 E)]
theorem add_l {a b : Nat} (hb : b < 2 ^ 31) : lN a + (nI b).toInt64 = lN (a + b) := by rw [nI_l hb, lN_add]
theorem sm_if {p : Nat → Bool} {f : Nat → Nat} {k : Nat} : fb_sm (fun x => if p x then f x else 0) (k + 1) = if p k then fb_sm (fun x => if p x then f x else 0) k + f k else fb_sm (fun x => if p x then f x else 0) k := by
  rw [fb_sm_succ]
  cases p k <;> simp
theorem sm_congr {p : Nat → Bool} {f : Nat → Nat} {k : Nat} (h : p k = true) : fb_sm (fun x => if p x then f x else 0) (k + 1) = fb_sm (fun x => if p x then f x else 0) k + f k := by rw [sm_if, h]; rfl
theorem sm_skip {p : Nat → Bool} {f : Nat → Nat} {k : Nat} (h : p k = false) : fb_sm (fun x => if p x then f x else 0) (k + 1) = fb_sm (fun x => if p x then f x else 0) k := by rw [sm_if, h]; rfl
section Weights
variable (sta : mj_S) (d s ct n m : Nat) (K : Nat → Nat) (G : Nat → Nat → Option Nat) (E : Nat → Nat)
theorem s_wTaken (hK : bd 64 K) (hE : bd 1000 E) (hct : ct ≤ 720) (hm : m < 6) :
    mj_Sx sta (d + 2) 11 [.ref s, .int (nI m)] (wcw s ct n K G E) (fun v w => v = some (.long (lN (fb_sm (fun k => if (K k).testBit m then E k else 0) ct))) ∧ w = wcw s ct n K G E) := by
  refine mj_Sx.mk m_X0_weightTaken (by decide) n_X0_weightTaken rfl (fun h0 hv => ?_)
  have loop : ∀ j x h, x + j = ct → mj_Vw h0 (wcw s ct n K G E) h → mj_go sta (mj_Cl sta (d + 1)) m_X0_weightTaken (mj_rx m_X0_weightTaken h0 [s, s + 4, s + 5, s + 6] (fun v w => v = some (.long (lN (fb_sm (fun k => if (K k).testBit m then E k else 0) ct))) ∧ w = wcw s ct n K G E)) 5 [some (.ref s), some (.int (nI m)), some (.long (lN (fb_sm (fun k => if (K k).testBit m then E k else 0) x))), none, some (.int (nI x))] [] h := by
    intro j
    induction j with
    | zero =>
      intro x h hx hv
      have hx : x = ct := by omega
      subst hx
      repeat (first | refine g_px rfl rfl rfl ?_ | refine g_get hv 0 rfl rfl rfl rfl ?_ | refine g_get hv 1 rfl rfl rfl rfl ?_ | refine g_get hv 2 rfl rfl rfl rfl ?_ | refine g_get hv 3 rfl rfl rfl rfl ?_)
      refine g_ic rfl (fun cq => ?_) (fun cq => absurd (nI_le (Nat.le_refl x) (by omega)) cq)
      repeat (first | refine g_px rfl rfl rfl ?_ | refine g_get hv 0 rfl rfl rfl rfl ?_ | refine g_get hv 1 rfl rfl rfl rfl ?_ | refine g_get hv 2 rfl rfl rfl rfl ?_ | refine g_get hv 3 rfl rfl rfl rfl ?_)
      exact g_lret hv rfl rfl rfl ⟨rfl, rfl⟩
    | succ j ih =>
      intro x h hx hv
      have hx7 : x < 720 := by omega
      repeat (first | refine g_px rfl rfl rfl ?_ | refine g_get hv 0 rfl rfl rfl rfl ?_ | refine g_get hv 1 rfl rfl rfl rfl ?_ | refine g_get hv 2 rfl rfl rfl rfl ?_ | refine g_get hv 3 rfl rfl rfl rfl ?_)
      refine g_ic rfl (fun cq => absurd cq (nI_ge (a := x) (b := ct) (by omega) (by omega))) (fun cq => ?_)
      repeat (first | refine g_px rfl rfl rfl ?_ | refine g_get hv 0 rfl rfl rfl rfl ?_ | refine g_get hv 1 rfl rfl rfl rfl ?_ | refine g_get hv 2 rfl rfl rfl rfl ?_ | refine g_get hv 3 rfl rfl rfl rfl ?_)
      refine g_callV hv [0, 1] 0 rfl rfl rfl rfl rfl rfl rfl rfl (by decide) (s_isTaken sta d s x m (nI ct) (nI n) K hK hx7 hm) (fun v w' h hp hk hv => ?_)
      obtain ⟨rfl, rfl⟩ := hp
      have hv : mj_Vw h0 (wcw s ct n K G E) h := hv
      have hnx := ih (x + 1) h (by omega) hv
      rw [nI_succ] at hnx
      refine g_if rfl (fun cq => ?_) (fun cq => ?_)
      · have cq : bl ((K x).testBit m) = 0 := cq
        have ht : (K x).testBit m = false := by
          cases q : (K x).testBit m with
          | false => rfl
          | true => rw [q] at cq; exact absurd cq (by decide)
        refine g_run 2 rfl ?_
        rw [sm_skip (p := fun k => (K k).testBit m) ht] at hnx
        exact hnx
      · have cq : ¬ bl ((K x).testBit m) = 0 := cq
        have ht : (K x).testBit m = true := by
          cases q : (K x).testBit m with
          | true => rfl
          | false => rw [q] at cq; exact absurd (by decide) cq
        repeat (first | refine g_px rfl rfl rfl ?_ | refine g_get hv 0 rfl rfl rfl rfl ?_ | refine g_get hv 1 rfl rfl rfl rfl ?_ | refine g_get hv 2 rfl rfl rfl rfl ?_ | refine g_get hv 3 rfl rfl rfl rfl ?_)
        refine g_n7 hv 3 hx7 rfl rfl ?_
        refine g_run 5 rfl ?_
        rw [sm_congr (p := fun k => (K k).testBit m) ht, ← add_l (by have := hE x; omega)] at hnx
        exact hnx
  refine g_run 4 rfl ?_
  exact loop ct 0 h0 (by omega) hv
theorem s_wSent (o : Nat) (hG : ∀ k, gok (G k)) (hE : bd 1000 E) (hct : ct ≤ 720) (hm : m < 6) (ho : o < 6) :
    mj_Sx sta (d + 2) 13 [.ref s, .int (nI m), .int (nI o)] (wcw s ct n K G E) (fun v w => v = some (.long (lN (fb_sm (fun k => if decide (G k o = some m) then E k else 0) ct))) ∧ w = wcw s ct n K G E) := by
  refine mj_Sx.mk m_X0_weightSent (by decide) n_X0_weightSent rfl (fun h0 hv => ?_)
  have loop : ∀ j x h, x + j = ct → mj_Vw h0 (wcw s ct n K G E) h → mj_go sta (mj_Cl sta (d + 1)) m_X0_weightSent (mj_rx m_X0_weightSent h0 [s, s + 4, s + 5, s + 6] (fun v w => v = some (.long (lN (fb_sm (fun k => if decide (G k o = some m) then E k else 0) ct))) ∧ w = wcw s ct n K G E)) 5 [some (.ref s), some (.int (nI m)), some (.int (nI o)), some (.long (lN (fb_sm (fun k => if decide (G k o = some m) then E k else 0) x))), none, some (.int (nI x))] [] h := by
    intro j
    induction j with
    | zero =>
      intro x h hx hv
      have hx : x = ct := by omega
      subst hx
      repeat (first | refine g_px rfl rfl rfl ?_ | refine g_get hv 0 rfl rfl rfl rfl ?_ | refine g_get hv 1 rfl rfl rfl rfl ?_ | refine g_get hv 2 rfl rfl rfl rfl ?_ | refine g_get hv 3 rfl rfl rfl rfl ?_)
      refine g_ic rfl (fun cq => ?_) (fun cq => absurd (nI_le (Nat.le_refl x) (by omega)) cq)
      repeat (first | refine g_px rfl rfl rfl ?_ | refine g_get hv 0 rfl rfl rfl rfl ?_ | refine g_get hv 1 rfl rfl rfl rfl ?_ | refine g_get hv 2 rfl rfl rfl rfl ?_ | refine g_get hv 3 rfl rfl rfl rfl ?_)
      exact g_lret hv rfl rfl rfl ⟨rfl, rfl⟩
    | succ j ih =>
      intro x h hx hv
      have hx7 : x < 720 := by omega
      repeat (first | refine g_px rfl rfl rfl ?_ | refine g_get hv 0 rfl rfl rfl rfl ?_ | refine g_get hv 1 rfl rfl rfl rfl ?_ | refine g_get hv 2 rfl rfl rfl rfl ?_ | refine g_get hv 3 rfl rfl rfl rfl ?_)
      refine g_ic rfl (fun cq => absurd cq (nI_ge (a := x) (b := ct) (by omega) (by omega))) (fun cq => ?_)
      repeat (first | refine g_px rfl rfl rfl ?_ | refine g_get hv 0 rfl rfl rfl rfl ?_ | refine g_get hv 1 rfl rfl rfl rfl ?_ | refine g_get hv 2 rfl rfl rfl rfl ?_ | refine g_get hv 3 rfl rfl rfl rfl ?_)
      refine g_callV hv [0, 2] 0 rfl rfl rfl rfl rfl rfl rfl rfl (by decide) (s_sent sta d s x o (nI ct) (nI n) G hG hx7 ho) (fun v w' h hp hk hv => ?_)
      obtain ⟨rfl, rfl⟩ := hp
      have hv : mj_Vw h0 (wcw s ct n K G E) h := hv
      have hnx := ih (x + 1) h (by omega) hv
      rw [nI_succ] at hnx
      refine g_run 1 rfl ?_
      refine g_ic rfl (fun cq => ?_) (fun cq => ?_)
      · have cq : ¬ snt (G x o) = nI m := cq
        have hne : ¬ G x o = some m := fun e => cq ((snt_eq hm (hG x o)).mpr e)
        refine g_run 2 rfl ?_
        rw [sm_skip (p := fun k => decide (G k o = some m)) (decide_eq_false hne)] at hnx
        exact hnx
      · have cq : ¬ ¬ snt (G x o) = nI m := cq
        have he : G x o = some m := (snt_eq hm (hG x o)).mp (Decidable.not_not.mp cq)
        repeat (first | refine g_px rfl rfl rfl ?_ | refine g_get hv 0 rfl rfl rfl rfl ?_ | refine g_get hv 1 rfl rfl rfl rfl ?_ | refine g_get hv 2 rfl rfl rfl rfl ?_ | refine g_get hv 3 rfl rfl rfl rfl ?_)
        refine g_n7 hv 3 hx7 rfl rfl ?_
        refine g_run 5 rfl ?_
        rw [sm_congr (p := fun k => decide (G k o = some m)) (decide_eq_true he), ← add_l (by have := hE x; omega)] at hnx
        exact hnx
  refine g_run 4 rfl ?_
  exact loop ct 0 h0 (by omega) hv
/-- does a man go: taken and sends none, or goes for another -/
def gos (n T : Nat) (g : Nat → Option Nat) (m : Nat) : Bool := if T.testBit m then (g m).isNone else (sdr g m n 0).isSome
theorem sdr_lt {g : Nat → Option Nat} {m : Nat} : ∀ {j k q : Nat}, sdr g m j k = some q → q < k + j
  | 0, k, q, h => by cases h
  | j + 1, k, q, h => by
    rw [sdr] at h
    split at h
    · cases h; omega
    · have := sdr_lt h; omega
theorem s_wGoing (hK : bd 64 K) (hG : ∀ k, gok (G k)) (hE : bd 1000 E) (hct : ct ≤ 720) (hm : m < 6) (hn : n ≤ 6) :
    mj_Sx sta (d + 3) 12 [.ref s, .int (nI m)] (wcw s ct n K G E) (fun v w => v = some (.long (lN (fb_sm (fun k => if gos n (K k) (G k) m then E k else 0) ct))) ∧ w = wcw s ct n K G E) := by
  refine mj_Sx.mk m_X0_weightGoing (by decide) n_X0_weightGoing rfl (fun h0 hv => ?_)
  have loop : ∀ j x h, x + j = ct → mj_Vw h0 (wcw s ct n K G E) h → mj_go sta (mj_Cl sta (d + 2)) m_X0_weightGoing (mj_rx m_X0_weightGoing h0 [s, s + 4, s + 5, s + 6] (fun v w => v = some (.long (lN (fb_sm (fun k => if gos n (K k) (G k) m then E k else 0) ct))) ∧ w = wcw s ct n K G E)) 5 [some (.ref s), some (.int (nI m)), some (.long (lN (fb_sm (fun k => if gos n (K k) (G k) m then E k else 0) x))), none, some (.int (nI x))] [] h := by
    intro j
    induction j with
    | zero =>
      intro x h hx hv
      have hx : x = ct := by omega
      subst hx
      repeat (first | refine g_px rfl rfl rfl ?_ | refine g_get hv 0 rfl rfl rfl rfl ?_ | refine g_get hv 1 rfl rfl rfl rfl ?_ | refine g_get hv 2 rfl rfl rfl rfl ?_ | refine g_get hv 3 rfl rfl rfl rfl ?_)
      refine g_ic rfl (fun cq => ?_) (fun cq => absurd (nI_le (Nat.le_refl x) (by omega)) cq)
      repeat (first | refine g_px rfl rfl rfl ?_ | refine g_get hv 0 rfl rfl rfl rfl ?_ | refine g_get hv 1 rfl rfl rfl rfl ?_ | refine g_get hv 2 rfl rfl rfl rfl ?_ | refine g_get hv 3 rfl rfl rfl rfl ?_)
      exact g_lret hv rfl rfl rfl ⟨rfl, rfl⟩
    | succ j ih =>
      intro x h hx hv
      have hx7 : x < 720 := by omega
      have skip : ∀ h, gos n (K x) (G x) m = false → mj_Vw h0 (wcw s ct n K G E) h → mj_go sta (mj_Cl sta (d + 2)) m_X0_weightGoing (mj_rx m_X0_weightGoing h0 [s, s + 4, s + 5, s + 6] (fun v w => v = some (.long (lN (fb_sm (fun k => if gos n (K k) (G k) m then E k else 0) ct))) ∧ w = wcw s ct n K G E)) 58 [some (.ref s), some (.int (nI m)), some (.long (lN (fb_sm (fun k => if gos n (K k) (G k) m then E k else 0) x))), none, some (.int (nI x))] [] h := by
        intro h ht hv
        refine g_run 2 rfl ?_
        have hnx := ih (x + 1) h (by omega) hv
        rw [nI_succ, sm_skip (p := fun k => gos n (K k) (G k) m) ht] at hnx
        exact hnx
      have yes : ∀ h, gos n (K x) (G x) m = true → mj_Vw h0 (wcw s ct n K G E) h → mj_go sta (mj_Cl sta (d + 2)) m_X0_weightGoing (mj_rx m_X0_weightGoing h0 [s, s + 4, s + 5, s + 6] (fun v w => v = some (.long (lN (fb_sm (fun k => if gos n (K k) (G k) m then E k else 0) ct))) ∧ w = wcw s ct n K G E)) 47 [some (.ref s), some (.int (nI m)), some (.long (lN (fb_sm (fun k => if gos n (K k) (G k) m then E k else 0) x))), none, some (.int (nI x))] [] h := by
        intro h ht hv
        repeat (first | refine g_px rfl rfl rfl ?_ | refine g_get hv 0 rfl rfl rfl rfl ?_ | refine g_get hv 1 rfl rfl rfl rfl ?_ | refine g_get hv 2 rfl rfl rfl rfl ?_ | refine g_get hv 3 rfl rfl rfl rfl ?_)
        refine g_n7 hv 3 hx7 rfl rfl ?_
        refine g_run 5 rfl ?_
        have hnx := ih (x + 1) h (by omega) hv
        rw [nI_succ, sm_congr (p := fun k => gos n (K k) (G k) m) ht, ← add_l (by have := hE x; omega)] at hnx
        exact hnx
      repeat (first | refine g_px rfl rfl rfl ?_ | refine g_get hv 0 rfl rfl rfl rfl ?_ | refine g_get hv 1 rfl rfl rfl rfl ?_ | refine g_get hv 2 rfl rfl rfl rfl ?_ | refine g_get hv 3 rfl rfl rfl rfl ?_)
      refine g_ic rfl (fun cq => absurd cq (nI_ge (a := x) (b := ct) (by omega) (by omega))) (fun cq => ?_)
      repeat (first | refine g_px rfl rfl rfl ?_ | refine g_get hv 0 rfl rfl rfl rfl ?_ | refine g_get hv 1 rfl rfl rfl rfl ?_ | refine g_get hv 2 rfl rfl rfl rfl ?_ | refine g_get hv 3 rfl rfl rfl rfl ?_)
      refine g_callV hv [0, 1] 0 rfl rfl rfl rfl rfl rfl rfl rfl (by decide) (s_isTaken sta (d + 1) s x m (nI ct) (nI n) K hK hx7 hm) (fun v w' h hp hk hv => ?_)
      obtain ⟨rfl, rfl⟩ := hp
      have hv : mj_Vw h0 (wcw s ct n K G E) h := hv
      refine g_if rfl (fun cq => ?_) (fun cq => ?_)
      · have cq : bl ((K x).testBit m) = 0 := cq
        have ht : (K x).testBit m = false := by
          cases q : (K x).testBit m with
          | false => rfl
          | true => rw [q] at cq; exact absurd cq (by decide)
        repeat (first | refine g_px rfl rfl rfl ?_ | refine g_get hv 0 rfl rfl rfl rfl ?_ | refine g_get hv 1 rfl rfl rfl rfl ?_ | refine g_get hv 2 rfl rfl rfl rfl ?_ | refine g_get hv 3 rfl rfl rfl rfl ?_)
        refine g_callV hv [0, 2] 0 rfl rfl rfl rfl rfl rfl rfl rfl (by decide) (s_sender sta d s x m n (nI ct) G hG hx7 hm hn) (fun v w' h hp hk hv => ?_)
        obtain ⟨rfl, rfl⟩ := hp
        have hv : mj_Vw h0 (wcw s ct n K G E) h := hv
        have hs6 : ∀ q, sdr (G x) m n 0 = some q → q < 6 := fun q hq => by have := sdr_lt hq; omega
        refine g_if rfl (fun cq => ?_) (fun cq => ?_)
        · have e := (snd_nn hs6).mp cq
          exact skip h (by rw [gos, ht, e]; rfl) hv
        · have cq : ¬ snd (sdr (G x) m n 0) < 0 := cq
          cases e : sdr (G x) m n 0 with
          | none => rw [e] at cq; exact absurd (show snd none < 0 by decide) cq
          | some q => exact yes h (by rw [gos, ht, e]; rfl) hv
      · have cq : ¬ bl ((K x).testBit m) = 0 := cq
        have ht : (K x).testBit m = true := by
          cases q : (K x).testBit m with
          | true => rfl
          | false => rw [q] at cq; exact absurd (by decide) cq
        repeat (first | refine g_px rfl rfl rfl ?_ | refine g_get hv 0 rfl rfl rfl rfl ?_ | refine g_get hv 1 rfl rfl rfl rfl ?_ | refine g_get hv 2 rfl rfl rfl rfl ?_ | refine g_get hv 3 rfl rfl rfl rfl ?_)
        refine g_callV hv [0, 2] 0 rfl rfl rfl rfl rfl rfl rfl rfl (by decide) (s_sent sta (d + 1) s x m (nI ct) (nI n) G hG hx7 hm) (fun v w' h hp hk hv => ?_)
        obtain ⟨rfl, rfl⟩ := hp
        have hv : mj_Vw h0 (wcw s ct n K G E) h := hv
        refine g_if rfl (fun cq => ?_) (fun cq => ?_)
        · have cq : 0 ≤ snt (G x m) := cq
          cases e : G x m with
          | none => rw [e] at cq; exact absurd cq (by decide)
          | some q => exact skip h (by rw [gos, ht, e]; rfl) hv
        · have cq : ¬ 0 ≤ snt (G x m) := cq
          refine g_run 1 rfl ?_
          cases e : G x m with
          | none => exact yes h (by rw [gos, ht, e]; rfl) hv
          | some q => rw [e] at cq; exact absurd (nI_pos' (by have := hG x m q e; omega)) cq
  refine g_run 4 rfl ?_
  exact loop ct 0 h0 (by omega) hv
end Weights
end
section
/-! tools: constants, bits, frames -/
theorem k_i (n : Nat) : Int32.ofInt (OfNat.ofNat n : Int) = nI n := rfl
theorem k_6 : (Int8.ofInt 6).toInt32 = nI 6 := rfl
theorem k_7 : (Int8.ofInt 7).toInt32 = nI 7 := rfl
theorem k_8 : (Int8.ofInt 8).toInt32 = nI 8 := rfl
theorem k_9 : (Int8.ofInt 9).toInt32 = nI 9 := rfl
theorem k_10 : (Int8.ofInt 10).toInt32 = nI 10 := rfl
theorem k_12 : (Int8.ofInt 12).toInt32 = nI 12 := rfl
theorem k_15 : (Int8.ofInt 15).toInt32 = nI 15 := rfl
theorem k_16 : (Int8.ofInt 16).toInt32 = nI 16 := rfl
theorem k_18 : (Int8.ofInt 18).toInt32 = nI 18 := rfl
theorem k_20 : (Int8.ofInt 20).toInt32 = nI 20 := rfl
theorem k_24 : (Int8.ofInt 24).toInt32 = nI 24 := rfl
theorem k_25 : (Int8.ofInt 25).toInt32 = nI 25 := rfl
theorem k_26 : (Int8.ofInt 26).toInt32 = nI 26 := rfl
theorem k_27 : (Int8.ofInt 27).toInt32 = nI 27 := rfl
theorem k_28 : (Int8.ofInt 28).toInt32 = nI 28 := rfl
theorem k_32 : (Int8.ofInt 32).toInt32 = nI 32 := rfl
theorem k_36 : (Int8.ofInt 36).toInt32 = nI 36 := rfl
theorem k_48 : (Int8.ofInt 48).toInt32 = nI 48 := rfl
theorem k_57 : (Int8.ofInt 57).toInt32 = nI 57 := rfl
theorem k_59 : (Int8.ofInt 59).toInt32 = nI 59 := rfl
theorem k_63 : (Int8.ofInt 63).toInt32 = nI 63 := rfl
theorem k_74 : (Int8.ofInt 74).toInt32 = nI 74 := rfl
theorem k_75 : (Int8.ofInt 75).toInt32 = nI 75 := rfl
theorem k_84 : (Int8.ofInt 84).toInt32 = nI 84 := rfl
theorem k_90 : (Int8.ofInt 90).toInt32 = nI 90 := rfl
theorem k_97 : (Int8.ofInt 97).toInt32 = nI 97 := rfl
theorem k_99 : (Int8.ofInt 99).toInt32 = nI 99 := rfl
theorem k_100 : (Int8.ofInt 100).toInt32 = nI 100 := rfl
theorem k_122 : (Int8.ofInt 122).toInt32 = nI 122 := rfl
theorem k_200 : (Int16.ofInt 200).toInt32 = nI 200 := rfl
theorem k_255 : (Int16.ofInt 255).toInt32 = nI 255 := rfl
theorem k_420 : (Int16.ofInt 420).toInt32 = nI 420 := rfl
theorem k_448 : (Int16.ofInt 448).toInt32 = nI 448 := rfl
theorem k_720 : (Int16.ofInt 720).toInt32 = nI 720 := rfl
theorem k_800 : (Int16.ofInt 800).toInt32 = nI 800 := rfl
theorem k_999 : (Int16.ofInt 999).toInt32 = nI 999 := rfl
theorem k_z : (0 : Int32) = nI 0 := rfl
theorem k_o : (1 : Int32) = nI 1 := rfl
theorem k_31 {k : Nat} (h : k < 32) : nI k &&& 31 = nI k := by
  rw [show (31 : Int32) = nI (2 ^ 5 - 1) from rfl, fa_mask, Nat.mod_eq_of_lt (by simpa using h)]
theorem smod_k {k : Nat} (h : k < 32) : ((nI k).toBitVec.smod 32).toNat = k := by
  have : ∀ k, k < 32 → ((nI k).toBitVec.smod 32).toNat = k := by decide +kernel
  exact this k h
theorem k_shr {b k : Nat} (hb : b < 2 ^ 31) (hk : k < 32) : nI b >>> (nI k &&& 31) = nI (b / 2 ^ k) := by
  rw [k_31 hk]
  exact pk_shrN hb _ k (smod_k hk)
theorem bl_nI (b : Bool) : bl b = nI (if b then 1 else 0) := by cases b <;> rfl
/-- a bit -/
theorem k_bit {b k : Nat} (hb : b < 2 ^ 31) (hk : k < 32) : (nI b >>> (nI k &&& 31)) &&& Int32.ofInt 1 = bl (b.testBit k) := by
  rw [k_shr hb hk, show Int32.ofInt 1 = nI (2 ^ 1 - 1) from rfl, fa_mask, bl_nI]
  congr 1
  rw [Nat.testBit_eq_decide_div_mod_eq]
  have := Nat.mod_lt (b / 2 ^ k) (show 0 < 2 ^ 1 by decide)
  simp only [decide_eq_true_eq]
  split <;> omega
theorem k_shl {k : Nat} (hk : k < 31) : Int32.ofInt 1 <<< (nI k &&& 31) = nI (2 ^ k) := by
  rw [k_31 (by omega)]
  have := pk_shlN (n := 1) (nI k) k (smod_k (by omega)) (by
    have := Nat.pow_lt_pow_right (a := 2) (by decide) (show k < 32 by omega)
    omega)
  rw [Nat.one_mul] at this
  exact this
theorem bl_1 (b : Bool) : (bl b = 1 ↔ b = true) := by cases b <;> decide
theorem bl_0 (b : Bool) : (bl b = 0 ↔ b = false) := by cases b <;> decide
theorem bl_n1 (b : Bool) : (bl b = nI 1 ↔ b = true) := bl_1 b
theorem bl_n0 (b : Bool) : (bl b = nI 0 ↔ b = false) := bl_0 b
theorem bl_i1 (b : Bool) : (bl b = Int32.ofInt 1 ↔ b = true) := bl_1 b
theorem bl_ns (b : Bool) : narrow .boolean (.int (bl b)) = .int (bl b) := by cases b <;> rfl
theorem nI_lt0 {a : Nat} (ha : a < 2 ^ 31) : (nI a < 0) = False := eq_false (nI_pos ha)
theorem nI_0le {a : Nat} (ha : a < 2 ^ 31) : (0 ≤ nI a) = True := eq_true (nI_pos' ha)
theorem nI_eq0 {a : Nat} (ha : a < 2 ^ 31) : (nI a = 0) ↔ a = 0 := nI_eq (b := 0) ha (by decide)
theorem nI_eqT {a : Nat} (ha : a < 2 ^ 31) : (nI a = 1) ↔ a = 1 := nI_eq (b := 1) ha (by decide)
/-- a contract over more cells -/
theorem mj_Sx.fr {sta : mj_S} {d mid : Nat} {as : List Value} {w wc : mj_W} {Post : Option Value → mj_W → Prop} (is : List Nat) (hS : mj_Sx sta d mid as wc Post) (hpk : mj_pk w is = wc) (hil : wc.length = is.length) (hnd : is.Nodup) : mj_Sx sta d mid as w (fun v w' => ∃ wc', Post v wc' ∧ mj_ks wc' = mj_ks wc ∧ w' = mj_pb w is wc') := by
  subst hpk
  intro h hv
  obtain ⟨v, w', h', h1, h2, h3, h4⟩ := hS h (hv.V.pick hil hnd)
  have h5 := hv.V.call hil hnd h2 h3
  have hks : mj_ks (mj_pb w is w') = mj_ks w := mj_pb_ks (fun t j ht x hx => by
    obtain ⟨y, hy, hy2⟩ := mj_pk_at hil ht
    have e1 : mj_nth (mj_ks w') t = some x.1 := mj_ks_at (e := x.2) hx
    have e2 : mj_nth (mj_ks (mj_pk w is)) t = some y.1 := mj_ks_at (e := y.2) hy2
    rw [h2, e2] at e1
    exact ⟨y.2, by rw [hy, ← Option.some.inj e1]⟩)
  exact ⟨v, _, h', ⟨w', h1, h2, rfl⟩, hks, h5, h4⟩
theorem mj_Sx.post {sta : mj_S} {d mid : Nat} {as : List Value} {w : mj_W} {P Q : Option Value → mj_W → Prop} (hS : mj_Sx sta d mid as w P) (hq : ∀ v w', P v w' → mj_ks w' = mj_ks w → Q v w') : mj_Sx sta d mid as w Q := fun h hv => by
  obtain ⟨v, w', h', h1, h2, h3, h4⟩ := hS h hv
  exact ⟨v, w', h', hq v w' h1 h2, h2, h3, h4⟩
/-- short words -/
abbrev lr (a : Nat) : Option Value := some (.ref a)
abbrev ln (k : Nat) : Option Value := some (.int (nI k))
abbrev li (x : Int32) : Option Value := some (.int x)
abbrev ll (k : Nat) : Option Value := some (.long (lN k))
abbrev vn (k : Nat) : Value := .int (nI k)
abbrev vi (x : Int32) : Value := .int x
/-- how many bits -/
def pop (b : Nat) : Nat := fb_ct (fun k => b.testBit k) 6
theorem s_bits (sta : mj_S) (d b : Nat) (hb : b < 64) : mj_Sx sta (d + 1) 284 [(.int (nI b))] [] (fun v w => v = some ((.int (nI (pop b)))) ∧ w = []) := by
  refine mj_Sx.mk m_J6_bitCount (by decide) n_J6_bitCount rfl (fun h0 hv => ?_)
  generalize hT : mj_rx m_J6_bitCount h0 _ _ = T
  repeat (first | refine g_px rfl rfl rfl ?_)
  subst hT
  refine g_iret hv rfl rfl rfl rfl ?_
  refine ⟨congrArg (fun x => some (Value.int x)) ?_, rfl⟩
  clear hv
  revert b
  decide +kernel
end
section
/-! Cases: weights, losses; Laws.put -/
section Weights2
variable (sta : mj_S) (d s b ct n cl : Nat) (t : Nat) (kn sp hd hi er sh wn : Int32) (K : Nat → Nat) (G : Nat → Nat → Option Nat) (E W A : Nat → Nat)
abbrev wcx (s b ct n t : Nat) (K : Nat → Nat) (G : Nat → Nat → Option Nat) (E : Nat → Nat) (kn sp hd hi er sh wn : Int32) (W A : Nat → Nat) : mj_W := wcl s b (nI ct) n K G (nI t) kn sp hd hi er sh wn W A ++ [(s + 6, a7 E)]
theorem lsc_lt {cl T : Nat} {g : Nat → Option Nat} {W A : Nat → Nat} (hW : bd 1000 W) (hA : bd 1000 A) (m : Nat) : lsc cl T g W A m < 1000 := by
  unfold lsc
  split
  · exact los_lt hW hA m
  · omega
theorem lss_lt {cl T : Nat} {g : Nat → Option Nat} {W A : Nat → Nat} (hW : bd 1000 W) (hA : bd 1000 A) {n : Nat} (hn : n ≤ 6) : fb_sm (lsc cl T g W A) n ≤ 6000 := by
  have := fb_sm_bound (f := lsc cl T g W A) (c := 999) (n := n) (fun k _ => by have := lsc_lt (cl := cl) (T := T) (g := g) hW hA k; omega)
  omega
theorem s_wLosing (mu : Nat) (hmu : mu < 1000) (hK : bd 64 K) (hG : ∀ k, gok (G k)) (hE : bd 1000 E) (hct : ct ≤ 720) (hn : n ≤ 6) (hW : bd 1000 W) (hA : bd 1000 A) :
    mj_Sx sta (d + 3) 14 [.ref s, .ref b, (.int (nI cl)), (.int (nI mu))] (wcx s b ct n t K G E kn sp hd hi er sh wn W A) (fun v w => v = some (.long (lN (fb_sm (fun k => if decide (mu < fb_sm (lsc cl (K k) (G k) W A) n) then E k else 0) ct))) ∧ w = wcx s b ct n t K G E kn sp hd hi er sh wn W A) := by
  refine mj_Sx.mk m_X0_weightLosing (by decide) n_X0_weightLosing rfl (fun h0 hv => ?_)
  generalize hT : mj_rx m_X0_weightLosing h0 _ _ = T
  have loop : ∀ j x h, x + j = ct → mj_Vw h0 (wcx s b ct n t K G E kn sp hd hi er sh wn W A) h → mj_go sta (mj_Cl sta (d + 2)) m_X0_weightLosing T 6 [some (.ref s), some (.ref b), some (.int (nI cl)), some (.int (nI mu)), some (.long (lN (fb_sm (fun k => if decide (mu < fb_sm (lsc cl (K k) (G k) W A) n) then E k else 0) x))), none, some (.int (nI x))] [] h := by
    intro j
    induction j with
    | zero =>
      intro x h hx hv
      repeat (first | refine g_px rfl rfl rfl ?_ | refine g_get hv 0 rfl rfl rfl rfl ?_ | refine g_get hv 1 rfl rfl rfl rfl ?_ | refine g_get hv 2 rfl rfl rfl rfl ?_ | refine g_get hv 3 rfl rfl rfl rfl ?_)
      refine g_ic rfl (fun cq => ?_) (fun cq => ?_)
      · have hx : x = ct := by omega
        subst hx
        repeat (first | refine g_px rfl rfl rfl ?_ | refine g_get hv 0 rfl rfl rfl rfl ?_ | refine g_get hv 1 rfl rfl rfl rfl ?_ | refine g_get hv 2 rfl rfl rfl rfl ?_ | refine g_get hv 3 rfl rfl rfl rfl ?_)
        subst hT
        exact g_lret hv rfl rfl rfl ⟨rfl, rfl⟩
      · simp (disch := omega) only [mj_cp, k_6, k_7, k_8, k_9, k_10, k_12, k_15, k_16, k_18, k_20, k_24, k_25, k_26, k_27, k_28, k_32, k_36, k_48, k_57, k_59, k_63, k_74, k_75, k_84, k_90, k_97, k_99, k_100, k_122, k_200, k_255, k_420, k_448, k_720, k_800, k_999, k_bit, k_shl, fa_and, nI_add, bl_1, bl_0, bl_n1, bl_n0, bl_i1, nI_lt0, nI_0le, nI_eq0, nI_eqT, nI_leI, nI_ltI, nI_eq, Nat.not_le, Nat.not_lt, Bool.not_eq_true, Bool.not_eq_false, not_true_eq_false, not_false_eq_true, Decidable.not_not] at cq
        omega
    | succ j ih =>
      intro x h hx hv
      have hx7 : x < 720 := by omega
      have hl := lss_lt (cl := cl) (T := K x) (g := G x) hW hA hn
      repeat (first | refine g_px rfl rfl rfl ?_ | refine g_get hv 0 rfl rfl rfl rfl ?_ | refine g_get hv 1 rfl rfl rfl rfl ?_ | refine g_get hv 2 rfl rfl rfl rfl ?_ | refine g_get hv 3 rfl rfl rfl rfl ?_)
      refine g_ic rfl (fun cq => ?_) (fun cq => ?_)
      · simp (disch := omega) only [mj_cp, k_6, k_7, k_8, k_9, k_10, k_12, k_15, k_16, k_18, k_20, k_24, k_25, k_26, k_27, k_28, k_32, k_36, k_48, k_57, k_59, k_63, k_74, k_75, k_84, k_90, k_97, k_99, k_100, k_122, k_200, k_255, k_420, k_448, k_720, k_800, k_999, k_bit, k_shl, fa_and, nI_add, bl_1, bl_0, bl_n1, bl_n0, bl_i1, nI_lt0, nI_0le, nI_eq0, nI_eqT, nI_leI, nI_ltI, nI_eq, Nat.not_le, Nat.not_lt, Bool.not_eq_true, Bool.not_eq_false, not_true_eq_false, not_false_eq_true, Decidable.not_not] at cq
        omega
      · repeat (first | refine g_px rfl rfl rfl ?_ | refine g_get hv 0 rfl rfl rfl rfl ?_ | refine g_get hv 1 rfl rfl rfl rfl ?_ | refine g_get hv 2 rfl rfl rfl rfl ?_ | refine g_get hv 3 rfl rfl rfl rfl ?_)
        refine g_callV hv [0, 1, 2, 3, 4, 5] 0 rfl rfl rfl rfl rfl rfl rfl rfl (by decide) (s_clost sta d s b x cl n (nI ct) (nI t) kn sp hd hi er sh wn K G W A hG hK hx7 hn hW hA) (fun v w' h hp hk hv => ?_)
        obtain ⟨rfl, rfl⟩ := hp
        have hnx := ih (x + 1) h (by omega) hv
        rw [nI_succ] at hnx
        refine g_run 1 rfl ?_
        refine g_ic rfl (fun cq => ?_) (fun cq => ?_)
        · simp (disch := omega) only [mj_cp, k_6, k_7, k_8, k_9, k_10, k_12, k_15, k_16, k_18, k_20, k_24, k_25, k_26, k_27, k_28, k_32, k_36, k_48, k_57, k_59, k_63, k_74, k_75, k_84, k_90, k_97, k_99, k_100, k_122, k_200, k_255, k_420, k_448, k_720, k_800, k_999, k_bit, k_shl, fa_and, nI_add, bl_1, bl_0, bl_n1, bl_n0, bl_i1, nI_lt0, nI_0le, nI_eq0, nI_eqT, nI_leI, nI_ltI, nI_eq, Nat.not_le, Nat.not_lt, Bool.not_eq_true, Bool.not_eq_false, not_true_eq_false, not_false_eq_true, Decidable.not_not] at cq
          refine g_run 2 rfl ?_
          rw [sm_skip (p := fun k => decide (mu < fb_sm (lsc cl (K k) (G k) W A) n)) (decide_eq_false (by omega))] at hnx
          exact hnx
        · simp (disch := omega) only [mj_cp, k_6, k_7, k_8, k_9, k_10, k_12, k_15, k_16, k_18, k_20, k_24, k_25, k_26, k_27, k_28, k_32, k_36, k_48, k_57, k_59, k_63, k_74, k_75, k_84, k_90, k_97, k_99, k_100, k_122, k_200, k_255, k_420, k_448, k_720, k_800, k_999, k_bit, k_shl, fa_and, nI_add, bl_1, bl_0, bl_n1, bl_n0, bl_i1, nI_lt0, nI_0le, nI_eq0, nI_eqT, nI_leI, nI_ltI, nI_eq, Nat.not_le, Nat.not_lt, Bool.not_eq_true, Bool.not_eq_false, not_true_eq_false, not_false_eq_true, Decidable.not_not] at cq
          repeat (first | refine g_px rfl rfl rfl ?_ | refine g_get hv 0 rfl rfl rfl rfl ?_ | refine g_get hv 1 rfl rfl rfl rfl ?_ | refine g_get hv 2 rfl rfl rfl rfl ?_ | refine g_get hv 3 rfl rfl rfl rfl ?_)
          refine g_n7 hv 6 hx7 rfl rfl ?_
          refine g_run 5 rfl ?_
          rw [sm_congr (p := fun k => decide (mu < fb_sm (lsc cl (K k) (G k) W A) n)) (decide_eq_true (by omega)), ← add_l (by have := hE x; omega)] at hnx
          exact hnx
  refine g_run 4 rfl ?_
  exact loop ct 0 h0 (by omega) hv
theorem pop_lt (b : Nat) : pop b ≤ 6 := fb_ct_le _ _
theorem s_wUnfilled (ht : t ≤ 6) (hK : bd 64 K) (hE : bd 1000 E) (hct : ct ≤ 720) :
    mj_Sx sta (d + 2) 15 [.ref s, .ref b] (wcx s b ct n t K G E kn sp hd hi er sh wn W A) (fun v w => v = some (.long (lN (fb_sm (fun k => if decide (pop (K k) < t) then E k else 0) ct))) ∧ w = wcx s b ct n t K G E kn sp hd hi er sh wn W A) := by
  refine mj_Sx.mk m_X0_weightUnfilled (by decide) n_X0_weightUnfilled rfl (fun h0 hv => ?_)
  generalize hT : mj_rx m_X0_weightUnfilled h0 _ _ = T
  have loop : ∀ j x h, x + j = ct → mj_Vw h0 (wcx s b ct n t K G E kn sp hd hi er sh wn W A) h → mj_go sta (mj_Cl sta (d + 1)) m_X0_weightUnfilled T 5 [some (.ref s), some (.ref b), some (.long (lN (fb_sm (fun k => if decide (pop (K k) < t) then E k else 0) x))), none, some (.int (nI x))] [] h := by
    intro j
    induction j with
    | zero =>
      intro x h hx hv
      repeat (first | refine g_px rfl rfl rfl ?_ | refine g_get hv 0 rfl rfl rfl rfl ?_ | refine g_get hv 1 rfl rfl rfl rfl ?_ | refine g_get hv 2 rfl rfl rfl rfl ?_ | refine g_get hv 3 rfl rfl rfl rfl ?_)
      refine g_ic rfl (fun cq => ?_) (fun cq => ?_)
      · have hx : x = ct := by omega
        subst hx
        repeat (first | refine g_px rfl rfl rfl ?_ | refine g_get hv 0 rfl rfl rfl rfl ?_ | refine g_get hv 1 rfl rfl rfl rfl ?_ | refine g_get hv 2 rfl rfl rfl rfl ?_ | refine g_get hv 3 rfl rfl rfl rfl ?_)
        subst hT
        exact g_lret hv rfl rfl rfl ⟨rfl, rfl⟩
      · simp (disch := omega) only [mj_cp, k_6, k_7, k_8, k_9, k_10, k_12, k_15, k_16, k_18, k_20, k_24, k_25, k_26, k_27, k_28, k_32, k_36, k_48, k_57, k_59, k_63, k_74, k_75, k_84, k_90, k_97, k_99, k_100, k_122, k_200, k_255, k_420, k_448, k_720, k_800, k_999, k_bit, k_shl, fa_and, nI_add, bl_1, bl_0, bl_n1, bl_n0, bl_i1, nI_lt0, nI_0le, nI_eq0, nI_eqT, nI_leI, nI_ltI, nI_eq, Nat.not_le, Nat.not_lt, Bool.not_eq_true, Bool.not_eq_false, not_true_eq_false, not_false_eq_true, Decidable.not_not] at cq
        omega
    | succ j ih =>
      intro x h hx hv
      have hx7 : x < 720 := by omega
      have hl := pop_lt (K x)
      repeat (first | refine g_px rfl rfl rfl ?_ | refine g_get hv 0 rfl rfl rfl rfl ?_ | refine g_get hv 1 rfl rfl rfl rfl ?_ | refine g_get hv 2 rfl rfl rfl rfl ?_ | refine g_get hv 3 rfl rfl rfl rfl ?_)
      refine g_ic rfl (fun cq => ?_) (fun cq => ?_)
      · simp (disch := omega) only [mj_cp, k_6, k_7, k_8, k_9, k_10, k_12, k_15, k_16, k_18, k_20, k_24, k_25, k_26, k_27, k_28, k_32, k_36, k_48, k_57, k_59, k_63, k_74, k_75, k_84, k_90, k_97, k_99, k_100, k_122, k_200, k_255, k_420, k_448, k_720, k_800, k_999, k_bit, k_shl, fa_and, nI_add, bl_1, bl_0, bl_n1, bl_n0, bl_i1, nI_lt0, nI_0le, nI_eq0, nI_eqT, nI_leI, nI_ltI, nI_eq, Nat.not_le, Nat.not_lt, Bool.not_eq_true, Bool.not_eq_false, not_true_eq_false, not_false_eq_true, Decidable.not_not] at cq
        omega
      · repeat (first | refine g_px rfl rfl rfl ?_ | refine g_get hv 0 rfl rfl rfl rfl ?_ | refine g_get hv 1 rfl rfl rfl rfl ?_ | refine g_get hv 2 rfl rfl rfl rfl ?_ | refine g_get hv 3 rfl rfl rfl rfl ?_)
        refine g_n7 hv 1 hx7 rfl rfl ?_
        refine g_callS hv [] rfl rfl rfl rfl rfl rfl rfl (by decide) (s_bits sta d (K x) (hK x)) (fun v w' h hp hk hv => ?_)
        obtain ⟨rfl, rfl⟩ := hp
        have hnx := ih (x + 1) h (by omega) hv
        rw [nI_succ] at hnx
        repeat (first | refine g_px rfl rfl rfl ?_ | refine g_get hv 0 rfl rfl rfl rfl ?_ | refine g_get hv 1 rfl rfl rfl rfl ?_ | refine g_get hv 2 rfl rfl rfl rfl ?_ | refine g_get hv 3 rfl rfl rfl rfl ?_)
        refine g_ic rfl (fun cq => ?_) (fun cq => ?_)
        · simp (disch := omega) only [mj_cp, k_6, k_7, k_8, k_9, k_10, k_12, k_15, k_16, k_18, k_20, k_24, k_25, k_26, k_27, k_28, k_32, k_36, k_48, k_57, k_59, k_63, k_74, k_75, k_84, k_90, k_97, k_99, k_100, k_122, k_200, k_255, k_420, k_448, k_720, k_800, k_999, k_bit, k_shl, fa_and, nI_add, bl_1, bl_0, bl_n1, bl_n0, bl_i1, nI_lt0, nI_0le, nI_eq0, nI_eqT, nI_leI, nI_ltI, nI_eq, Nat.not_le, Nat.not_lt, Bool.not_eq_true, Bool.not_eq_false, not_true_eq_false, not_false_eq_true, Decidable.not_not] at cq
          refine g_run 2 rfl ?_
          rw [sm_skip (p := fun k => decide (pop (K k) < t)) (decide_eq_false (by omega))] at hnx
          exact hnx
        · simp (disch := omega) only [mj_cp, k_6, k_7, k_8, k_9, k_10, k_12, k_15, k_16, k_18, k_20, k_24, k_25, k_26, k_27, k_28, k_32, k_36, k_48, k_57, k_59, k_63, k_74, k_75, k_84, k_90, k_97, k_99, k_100, k_122, k_200, k_255, k_420, k_448, k_720, k_800, k_999, k_bit, k_shl, fa_and, nI_add, bl_1, bl_0, bl_n1, bl_n0, bl_i1, nI_lt0, nI_0le, nI_eq0, nI_eqT, nI_leI, nI_ltI, nI_eq, Nat.not_le, Nat.not_lt, Bool.not_eq_true, Bool.not_eq_false, not_true_eq_false, not_false_eq_true, Decidable.not_not] at cq
          repeat (first | refine g_px rfl rfl rfl ?_ | refine g_get hv 0 rfl rfl rfl rfl ?_ | refine g_get hv 1 rfl rfl rfl rfl ?_ | refine g_get hv 2 rfl rfl rfl rfl ?_ | refine g_get hv 3 rfl rfl rfl rfl ?_)
          refine g_n7 hv 6 hx7 rfl rfl ?_
          refine g_run 5 rfl ?_
          rw [sm_congr (p := fun k => decide (pop (K k) < t)) (decide_eq_true (by omega)), ← add_l (by have := hE x; omega)] at hnx
          exact hnx
  refine g_run 4 rfl ?_
  exact loop ct 0 h0 (by omega) hv
theorem s_lossOf (hK : bd 64 K) (hG : ∀ k, gok (G k)) (hE : bd 1000 E) (hct : ct ≤ 720) (hn : n ≤ 6) (hW : bd 1000 W) (hA : bd 1000 A) :
    mj_Sx sta (d + 3) 16 [.ref s, .ref b, (.int (nI cl))] (wcx s b ct n t K G E kn sp hd hi er sh wn W A) (fun v w => v = some (.long (lN (fb_sm (fun k => E k * fb_sm (lsc cl (K k) (G k) W A) n) ct))) ∧ w = wcx s b ct n t K G E kn sp hd hi er sh wn W A) := by
  refine mj_Sx.mk m_X0_lossOf (by decide) n_X0_lossOf rfl (fun h0 hv => ?_)
  generalize hT : mj_rx m_X0_lossOf h0 _ _ = T
  have loop : ∀ j x h, x + j = ct → mj_Vw h0 (wcx s b ct n t K G E kn sp hd hi er sh wn W A) h → mj_go sta (mj_Cl sta (d + 2)) m_X0_lossOf T 5 [some (.ref s), some (.ref b), some (.int (nI cl)), some (.long (lN (fb_sm (fun k => E k * fb_sm (lsc cl (K k) (G k) W A) n) x))), none, some (.int (nI x))] [] h := by
    intro j
    induction j with
    | zero =>
      intro x h hx hv
      repeat (first | refine g_px rfl rfl rfl ?_ | refine g_get hv 0 rfl rfl rfl rfl ?_ | refine g_get hv 1 rfl rfl rfl rfl ?_ | refine g_get hv 2 rfl rfl rfl rfl ?_ | refine g_get hv 3 rfl rfl rfl rfl ?_)
      refine g_ic rfl (fun cq => ?_) (fun cq => ?_)
      · have hx : x = ct := by omega
        subst hx
        repeat (first | refine g_px rfl rfl rfl ?_ | refine g_get hv 0 rfl rfl rfl rfl ?_ | refine g_get hv 1 rfl rfl rfl rfl ?_ | refine g_get hv 2 rfl rfl rfl rfl ?_ | refine g_get hv 3 rfl rfl rfl rfl ?_)
        subst hT
        exact g_lret hv rfl rfl rfl ⟨rfl, rfl⟩
      · simp (disch := omega) only [mj_cp, k_6, k_7, k_8, k_9, k_10, k_12, k_15, k_16, k_18, k_20, k_24, k_25, k_26, k_27, k_28, k_32, k_36, k_48, k_57, k_59, k_63, k_74, k_75, k_84, k_90, k_97, k_99, k_100, k_122, k_200, k_255, k_420, k_448, k_720, k_800, k_999, k_bit, k_shl, fa_and, nI_add, bl_1, bl_0, bl_n1, bl_n0, bl_i1, nI_lt0, nI_0le, nI_eq0, nI_eqT, nI_leI, nI_ltI, nI_eq, Nat.not_le, Nat.not_lt, Bool.not_eq_true, Bool.not_eq_false, not_true_eq_false, not_false_eq_true, Decidable.not_not] at cq
        omega
    | succ j ih =>
      intro x h hx hv
      have hx7 : x < 720 := by omega
      have hl := lss_lt (cl := cl) (T := K x) (g := G x) hW hA hn
      repeat (first | refine g_px rfl rfl rfl ?_ | refine g_get hv 0 rfl rfl rfl rfl ?_ | refine g_get hv 1 rfl rfl rfl rfl ?_ | refine g_get hv 2 rfl rfl rfl rfl ?_ | refine g_get hv 3 rfl rfl rfl rfl ?_)
      refine g_ic rfl (fun cq => ?_) (fun cq => ?_)
      · simp (disch := omega) only [mj_cp, k_6, k_7, k_8, k_9, k_10, k_12, k_15, k_16, k_18, k_20, k_24, k_25, k_26, k_27, k_28, k_32, k_36, k_48, k_57, k_59, k_63, k_74, k_75, k_84, k_90, k_97, k_99, k_100, k_122, k_200, k_255, k_420, k_448, k_720, k_800, k_999, k_bit, k_shl, fa_and, nI_add, bl_1, bl_0, bl_n1, bl_n0, bl_i1, nI_lt0, nI_0le, nI_eq0, nI_eqT, nI_leI, nI_ltI, nI_eq, Nat.not_le, Nat.not_lt, Bool.not_eq_true, Bool.not_eq_false, not_true_eq_false, not_false_eq_true, Decidable.not_not] at cq
        omega
      · repeat (first | refine g_px rfl rfl rfl ?_ | refine g_get hv 0 rfl rfl rfl rfl ?_ | refine g_get hv 1 rfl rfl rfl rfl ?_ | refine g_get hv 2 rfl rfl rfl rfl ?_ | refine g_get hv 3 rfl rfl rfl rfl ?_)
        refine g_n7 hv 6 hx7 rfl rfl ?_
        repeat (first | refine g_px rfl rfl rfl ?_ | refine g_get hv 0 rfl rfl rfl rfl ?_ | refine g_get hv 1 rfl rfl rfl rfl ?_ | refine g_get hv 2 rfl rfl rfl rfl ?_ | refine g_get hv 3 rfl rfl rfl rfl ?_)
        refine g_callV hv [0, 1, 2, 3, 4, 5] 0 rfl rfl rfl rfl rfl rfl rfl rfl (by decide) (s_clost sta d s b x cl n (nI ct) (nI t) kn sp hd hi er sh wn K G W A hG hK hx7 hn hW hA) (fun v w' h hp hk hv => ?_)
        obtain ⟨rfl, rfl⟩ := hp
        have hnx := ih (x + 1) h (by omega) hv
        have hEx := hE x
        rw [nI_succ, fb_sm_succ, ← lN_add, ← lN_mul, ← nI_l (n := E x) (by omega), ← nI_l (n := fb_sm (lsc cl (K x) (G x) W A) n) (by omega)] at hnx
        refine g_run 6 rfl ?_
        exact hnx
  refine g_run 4 rfl ?_
  exact loop ct 0 h0 (by omega) hv
end Weights2
theorem s_lput (sta : mj_S) (d l k f : Nat) (b : Bool) (hm : Nat → Int64) (x : Int64) (hl : l < 16) : mj_Sx sta (d + 1) 27 [.ref 144, (.int (nI l)), .long x, .int (bl b)] (wlw (nI k) (nI f) hm) (fun v w => v = none ∧ w = wlw (nI (k ||| 2 ^ l)) (nI (if b then f ||| 2 ^ l else f)) (vp_updL hm l x)) := by
  refine mj_Sx.mk m_X3_put (by decide) n_X3_put rfl (fun h0 hv => ?_)
  generalize hT : mj_rx m_X3_put h0 _ _ = T
  repeat (first | refine g_px rfl rfl rfl ?_ | refine g_get hv 0 rfl rfl rfl rfl ?_ | refine g_get hv 1 rfl rfl rfl rfl ?_)
  simp (disch := omega) only [k_6, k_7, k_8, k_9, k_10, k_12, k_15, k_16, k_18, k_20, k_24, k_25, k_26, k_27, k_28, k_32, k_36, k_48, k_57, k_59, k_63, k_74, k_75, k_84, k_90, k_97, k_99, k_100, k_122, k_200, k_255, k_420, k_448, k_720, k_800, k_999, k_bit, k_shl, fa_or, fa_and, nI_add, pk_sub, pk_mul]
  refine g_put hv 0 rfl rfl rfl rfl rfl rfl (fun h hv => ?_)
  repeat (first | refine g_px rfl rfl rfl ?_ | refine g_get hv 0 rfl rfl rfl rfl ?_ | refine g_get hv 1 rfl rfl rfl rfl ?_)
  refine g_last hv 1 rfl rfl (vp_in_nI hl (by decide)) (fun h hv => ?_)
  rw [nI_clamp (by omega)] at hv
  repeat (first | refine g_px rfl rfl rfl ?_ | refine g_get hv 0 rfl rfl rfl rfl ?_ | refine g_get hv 1 rfl rfl rfl rfl ?_)
  refine g_if rfl (fun cq => ?_) (fun cq => ?_)
  · simp (disch := omega) only [mj_cp, k_6, k_7, k_8, k_9, k_10, k_12, k_15, k_16, k_18, k_20, k_24, k_25, k_26, k_27, k_28, k_32, k_36, k_48, k_57, k_59, k_63, k_74, k_75, k_84, k_90, k_97, k_99, k_100, k_122, k_200, k_255, k_420, k_448, k_720, k_800, k_999, k_bit, k_shl, fa_and, nI_add, bl_1, bl_0, bl_n1, bl_n0, bl_i1, nI_lt0, nI_0le, nI_eq0, nI_eqT, nI_leI, nI_ltI, nI_eq, Nat.not_le, Nat.not_lt, Bool.not_eq_true, Bool.not_eq_false, not_true_eq_false, not_false_eq_true, Decidable.not_not] at cq
    subst cq
    subst hT
    exact g_vret hv rfl rfl rfl ⟨rfl, rfl⟩
  · simp (disch := omega) only [mj_cp, k_6, k_7, k_8, k_9, k_10, k_12, k_15, k_16, k_18, k_20, k_24, k_25, k_26, k_27, k_28, k_32, k_36, k_48, k_57, k_59, k_63, k_74, k_75, k_84, k_90, k_97, k_99, k_100, k_122, k_200, k_255, k_420, k_448, k_720, k_800, k_999, k_bit, k_shl, fa_and, nI_add, bl_1, bl_0, bl_n1, bl_n0, bl_i1, nI_lt0, nI_0le, nI_eq0, nI_eqT, nI_leI, nI_ltI, nI_eq, Nat.not_le, Nat.not_lt, Bool.not_eq_true, Bool.not_eq_false, not_true_eq_false, not_false_eq_true, Decidable.not_not] at cq
    subst cq
    repeat (first | refine g_px rfl rfl rfl ?_ | refine g_get hv 0 rfl rfl rfl rfl ?_ | refine g_get hv 1 rfl rfl rfl rfl ?_)
    simp (disch := omega) only [k_6, k_7, k_8, k_9, k_10, k_12, k_15, k_16, k_18, k_20, k_24, k_25, k_26, k_27, k_28, k_32, k_36, k_48, k_57, k_59, k_63, k_74, k_75, k_84, k_90, k_97, k_99, k_100, k_122, k_200, k_255, k_420, k_448, k_720, k_800, k_999, k_bit, k_shl, fa_or, fa_and, nI_add, pk_sub, pk_mul]
    refine g_put hv 0 rfl rfl rfl rfl rfl rfl (fun h hv => ?_)
    subst hT
    exact g_vret hv rfl rfl rfl ⟨rfl, rfl⟩
end
