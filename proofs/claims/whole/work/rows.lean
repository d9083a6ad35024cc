section
-- ===== PART A: goes FIRST, ahead of the names: the tables' words, and 'selects' of the private methods out of them =====
/-- a private method of a class that the tables say can be made, by its rows of tables_1 -/
def lw_okq (q : MethodName × Nat) : Prop := (q.1.cls ≠ "java/lang/invoke/MethodHandle" ∧ q.1.cls ≠ "java/lang/invoke/VarHandle") ∧ Cond.instantiable q.1.cls q.2 ∈ tables_1 ∧ Cond.privateMethod q.1 ∈ tables_1 ∧ Cond.instanceMethod q.1 ∈ tables_1
theorem lw_p0 : lw_okq (⟨"LowNumber", "refuse", "(I)I"⟩, 15) := ⟨⟨by decide +kernel, by decide +kernel⟩, List.mem_of_getElem? (i := 23) (by decide +kernel), List.mem_of_getElem? (i := 398) (by decide +kernel), List.mem_of_getElem? (i := 399) (by decide +kernel)⟩
theorem lw_p1 : lw_okq (⟨"LowNumber$Tape", "step", "()V"⟩, 12) := ⟨⟨by decide +kernel, by decide +kernel⟩, List.mem_of_getElem? (i := 31) (by decide +kernel), List.mem_of_getElem? (i := 413) (by decide +kernel), List.mem_of_getElem? (i := 414) (by decide +kernel)⟩
theorem lw_p2 : lw_okq (⟨"LowNumber$Tape", "runEnd", "(II)I"⟩, 12) := ⟨⟨by decide +kernel, by decide +kernel⟩, List.mem_of_getElem? (i := 31) (by decide +kernel), List.mem_of_getElem? (i := 420) (by decide +kernel), List.mem_of_getElem? (i := 421) (by decide +kernel)⟩
theorem lw_p3 : lw_okq (⟨"LowNumber$Tape", "readLine", "(LLowNumber$Draft;)Z"⟩, 12) := ⟨⟨by decide +kernel, by decide +kernel⟩, List.mem_of_getElem? (i := 31) (by decide +kernel), List.mem_of_getElem? (i := 424) (by decide +kernel), List.mem_of_getElem? (i := 425) (by decide +kernel)⟩
theorem lw_p4 : lw_okq (⟨"LowNumber$Tape", "lineKind", "()I"⟩, 12) := ⟨⟨by decide +kernel, by decide +kernel⟩, List.mem_of_getElem? (i := 31) (by decide +kernel), List.mem_of_getElem? (i := 428) (by decide +kernel), List.mem_of_getElem? (i := 429) (by decide +kernel)⟩
theorem lw_p5 : lw_okq (⟨"LowNumber$Tape", "isWord", "(Ljava/lang/String;)Z"⟩, 12) := ⟨⟨by decide +kernel, by decide +kernel⟩, List.mem_of_getElem? (i := 31) (by decide +kernel), List.mem_of_getElem? (i := 433) (by decide +kernel), List.mem_of_getElem? (i := 434) (by decide +kernel)⟩
theorem lw_p6 : lw_okq (⟨"LowNumber$Tape", "fail", "(I)Z"⟩, 12) := ⟨⟨by decide +kernel, by decide +kernel⟩, List.mem_of_getElem? (i := 31) (by decide +kernel), List.mem_of_getElem? (i := 490) (by decide +kernel), List.mem_of_getElem? (i := 491) (by decide +kernel)⟩
theorem lw_p7 : lw_okq (⟨"LowNumber$Tape", "readTakes", "(LLowNumber$Draft;)Z"⟩, 12) := ⟨⟨by decide +kernel, by decide +kernel⟩, List.mem_of_getElem? (i := 31) (by decide +kernel), List.mem_of_getElem? (i := 494) (by decide +kernel), List.mem_of_getElem? (i := 495) (by decide +kernel)⟩
theorem lw_p8 : lw_okq (⟨"LowNumber$Tape", "passWord", "(Ljava/lang/String;)Z"⟩, 12) := ⟨⟨by decide +kernel, by decide +kernel⟩, List.mem_of_getElem? (i := 31) (by decide +kernel), List.mem_of_getElem? (i := 499) (by decide +kernel), List.mem_of_getElem? (i := 500) (by decide +kernel)⟩
theorem lw_p9 : lw_okq (⟨"LowNumber$Tape", "passWhole", "(I)Z"⟩, 12) := ⟨⟨by decide +kernel, by decide +kernel⟩, List.mem_of_getElem? (i := 31) (by decide +kernel), List.mem_of_getElem? (i := 503) (by decide +kernel), List.mem_of_getElem? (i := 504) (by decide +kernel)⟩
theorem lw_p10 : lw_okq (⟨"LowNumber$Tape", "readMan", "(LLowNumber$Draft;)Z"⟩, 12) := ⟨⟨by decide +kernel, by decide +kernel⟩, List.mem_of_getElem? (i := 31) (by decide +kernel), List.mem_of_getElem? (i := 507) (by decide +kernel), List.mem_of_getElem? (i := 508) (by decide +kernel)⟩
theorem lw_p11 : lw_okq (⟨"LowNumber$Tape", "namedMan", "(LLowNumber$Draft;)I"⟩, 12) := ⟨⟨by decide +kernel, by decide +kernel⟩, List.mem_of_getElem? (i := 31) (by decide +kernel), List.mem_of_getElem? (i := 511) (by decide +kernel), List.mem_of_getElem? (i := 512) (by decide +kernel)⟩
theorem lw_p12 : lw_okq (⟨"LowNumber$Tape", "isNamed", "(I)Z"⟩, 12) := ⟨⟨by decide +kernel, by decide +kernel⟩, List.mem_of_getElem? (i := 31) (by decide +kernel), List.mem_of_getElem? (i := 515) (by decide +kernel), List.mem_of_getElem? (i := 516) (by decide +kernel)⟩
theorem lw_p13 : lw_okq (⟨"LowNumber$Tape", "namedSort", "()I"⟩, 12) := ⟨⟨by decide +kernel, by decide +kernel⟩, List.mem_of_getElem? (i := 31) (by decide +kernel), List.mem_of_getElem? (i := 519) (by decide +kernel), List.mem_of_getElem? (i := 520) (by decide +kernel)⟩
theorem lw_p14 : lw_okq (⟨"LowNumber$Tape", "readKin", "(LLowNumber$Draft;)Z"⟩, 12) := ⟨⟨by decide +kernel, by decide +kernel⟩, List.mem_of_getElem? (i := 31) (by decide +kernel), List.mem_of_getElem? (i := 530) (by decide +kernel), List.mem_of_getElem? (i := 531) (by decide +kernel)⟩
theorem lw_p15 : lw_okq (⟨"LowNumber$Tape", "isToldMan", "(LLowNumber$Draft;)Z"⟩, 12) := ⟨⟨by decide +kernel, by decide +kernel⟩, List.mem_of_getElem? (i := 31) (by decide +kernel), List.mem_of_getElem? (i := 534) (by decide +kernel), List.mem_of_getElem? (i := 535) (by decide +kernel)⟩
def lw_privs_1 : List (MethodName × Nat) := [(⟨"LowNumber", "refuse", "(I)I"⟩, 15), (⟨"LowNumber$Tape", "step", "()V"⟩, 12), (⟨"LowNumber$Tape", "runEnd", "(II)I"⟩, 12), (⟨"LowNumber$Tape", "readLine", "(LLowNumber$Draft;)Z"⟩, 12), (⟨"LowNumber$Tape", "lineKind", "()I"⟩, 12), (⟨"LowNumber$Tape", "isWord", "(Ljava/lang/String;)Z"⟩, 12), (⟨"LowNumber$Tape", "fail", "(I)Z"⟩, 12), (⟨"LowNumber$Tape", "readTakes", "(LLowNumber$Draft;)Z"⟩, 12), (⟨"LowNumber$Tape", "passWord", "(Ljava/lang/String;)Z"⟩, 12), (⟨"LowNumber$Tape", "passWhole", "(I)Z"⟩, 12), (⟨"LowNumber$Tape", "readMan", "(LLowNumber$Draft;)Z"⟩, 12), (⟨"LowNumber$Tape", "namedMan", "(LLowNumber$Draft;)I"⟩, 12), (⟨"LowNumber$Tape", "isNamed", "(I)Z"⟩, 12), (⟨"LowNumber$Tape", "namedSort", "()I"⟩, 12), (⟨"LowNumber$Tape", "readKin", "(LLowNumber$Draft;)Z"⟩, 12), (⟨"LowNumber$Tape", "isToldMan", "(LLowNumber$Draft;)Z"⟩, 12)]
theorem lw_r1 : ∀ q ∈ lw_privs_1, lw_okq q := List.forall_mem_cons.mpr ⟨lw_p0, List.forall_mem_cons.mpr ⟨lw_p1, List.forall_mem_cons.mpr ⟨lw_p2, List.forall_mem_cons.mpr ⟨lw_p3, List.forall_mem_cons.mpr ⟨lw_p4, List.forall_mem_cons.mpr ⟨lw_p5, List.forall_mem_cons.mpr ⟨lw_p6, List.forall_mem_cons.mpr ⟨lw_p7, List.forall_mem_cons.mpr ⟨lw_p8, List.forall_mem_cons.mpr ⟨lw_p9, List.forall_mem_cons.mpr ⟨lw_p10, List.forall_mem_cons.mpr ⟨lw_p11, List.forall_mem_cons.mpr ⟨lw_p12, List.forall_mem_cons.mpr ⟨lw_p13, List.forall_mem_cons.mpr ⟨lw_p14, List.forall_mem_cons.mpr ⟨lw_p15, fun _ h => absurd h List.not_mem_nil⟩⟩⟩⟩⟩⟩⟩⟩⟩⟩⟩⟩⟩⟩⟩⟩
theorem lw_p16 : lw_okq (⟨"LowNumber$Tape", "readSpares", "(LLowNumber$Draft;)Z"⟩, 12) := ⟨⟨by decide +kernel, by decide +kernel⟩, List.mem_of_getElem? (i := 31) (by decide +kernel), List.mem_of_getElem? (i := 538) (by decide +kernel), List.mem_of_getElem? (i := 539) (by decide +kernel)⟩
theorem lw_p17 : lw_okq (⟨"LowNumber$Tape", "readDoctor", "(LLowNumber$Draft;)Z"⟩, 12) := ⟨⟨by decide +kernel, by decide +kernel⟩, List.mem_of_getElem? (i := 31) (by decide +kernel), List.mem_of_getElem? (i := 542) (by decide +kernel), List.mem_of_getElem? (i := 543) (by decide +kernel)⟩
theorem lw_p18 : lw_okq (⟨"LowNumber$Tape", "readWent", "(LLowNumber$Draft;)Z"⟩, 12) := ⟨⟨by decide +kernel, by decide +kernel⟩, List.mem_of_getElem? (i := 31) (by decide +kernel), List.mem_of_getElem? (i := 549) (by decide +kernel), List.mem_of_getElem? (i := 550) (by decide +kernel)⟩
theorem lw_p19 : lw_okq (⟨"LowNumber", "changed", "()V"⟩, 15) := ⟨⟨by decide +kernel, by decide +kernel⟩, List.mem_of_getElem? (i := 23) (by decide +kernel), List.mem_of_getElem? (i := 561) (by decide +kernel), List.mem_of_getElem? (i := 562) (by decide +kernel)⟩
theorem lw_p20 : lw_okq (⟨"LowNumber", "answer", "(I)I"⟩, 15) := ⟨⟨by decide +kernel, by decide +kernel⟩, List.mem_of_getElem? (i := 23) (by decide +kernel), List.mem_of_getElem? (i := 569) (by decide +kernel), List.mem_of_getElem? (i := 570) (by decide +kernel)⟩
theorem lw_p21 : lw_okq (⟨"LowNumber", "isMan", "(I)Z"⟩, 15) := ⟨⟨by decide +kernel, by decide +kernel⟩, List.mem_of_getElem? (i := 23) (by decide +kernel), List.mem_of_getElem? (i := 585) (by decide +kernel), List.mem_of_getElem? (i := 586) (by decide +kernel)⟩
theorem lw_p22 : lw_okq (⟨"LowNumber", "levyBy", "(I)I"⟩, 15) := ⟨⟨by decide +kernel, by decide +kernel⟩, List.mem_of_getElem? (i := 23) (by decide +kernel), List.mem_of_getElem? (i := 613) (by decide +kernel), List.mem_of_getElem? (i := 614) (by decide +kernel)⟩
theorem lw_p23 : lw_okq (⟨"LowNumber", "readRow", "(I)Z"⟩, 15) := ⟨⟨by decide +kernel, by decide +kernel⟩, List.mem_of_getElem? (i := 23) (by decide +kernel), List.mem_of_getElem? (i := 617) (by decide +kernel), List.mem_of_getElem? (i := 618) (by decide +kernel)⟩
theorem lw_p24 : lw_okq (⟨"LowNumber$Levy", "callMen", "(LLowNumber$Draft;LLowNumber$Now;I[I)V"⟩, 4) := ⟨⟨by decide +kernel, by decide +kernel⟩, List.mem_of_getElem? (i := 237) (by decide +kernel), List.mem_of_getElem? (i := 625) (by decide +kernel), List.mem_of_getElem? (i := 626) (by decide +kernel)⟩
theorem lw_p25 : lw_okq (⟨"LowNumber", "table", "()LLowNumber$Cases;"⟩, 15) := ⟨⟨by decide +kernel, by decide +kernel⟩, List.mem_of_getElem? (i := 23) (by decide +kernel), List.mem_of_getElem? (i := 672) (by decide +kernel), List.mem_of_getElem? (i := 673) (by decide +kernel)⟩
theorem lw_p26 : lw_okq (⟨"LowNumber$Cases", "isTaken", "(II)Z"⟩, 7) := ⟨⟨by decide +kernel, by decide +kernel⟩, List.mem_of_getElem? (i := 263) (by decide +kernel), List.mem_of_getElem? (i := 692) (by decide +kernel), List.mem_of_getElem? (i := 693) (by decide +kernel)⟩
theorem lw_p27 : lw_okq (⟨"LowNumber", "odds", "(JZ)J"⟩, 15) := ⟨⟨by decide +kernel, by decide +kernel⟩, List.mem_of_getElem? (i := 23) (by decide +kernel), List.mem_of_getElem? (i := 696) (by decide +kernel), List.mem_of_getElem? (i := 697) (by decide +kernel)⟩
theorem lw_p28 : lw_okq (⟨"LowNumber", "part", "(JJZ)J"⟩, 15) := ⟨⟨by decide +kernel, by decide +kernel⟩, List.mem_of_getElem? (i := 23) (by decide +kernel), List.mem_of_getElem? (i := 701) (by decide +kernel), List.mem_of_getElem? (i := 702) (by decide +kernel)⟩
theorem lw_p29 : lw_okq (⟨"LowNumber$Cases", "sent", "(II)I"⟩, 7) := ⟨⟨by decide +kernel, by decide +kernel⟩, List.mem_of_getElem? (i := 263) (by decide +kernel), List.mem_of_getElem? (i := 716) (by decide +kernel), List.mem_of_getElem? (i := 717) (by decide +kernel)⟩
theorem lw_p30 : lw_okq (⟨"LowNumber$Cases", "sender", "(II)I"⟩, 7) := ⟨⟨by decide +kernel, by decide +kernel⟩, List.mem_of_getElem? (i := 263) (by decide +kernel), List.mem_of_getElem? (i := 720) (by decide +kernel), List.mem_of_getElem? (i := 721) (by decide +kernel)⟩
theorem lw_p31 : lw_okq (⟨"LowNumber$Cases", "lost", "(LLowNumber$Draft;II)I"⟩, 7) := ⟨⟨by decide +kernel, by decide +kernel⟩, List.mem_of_getElem? (i := 263) (by decide +kernel), List.mem_of_getElem? (i := 740) (by decide +kernel), List.mem_of_getElem? (i := 741) (by decide +kernel)⟩
def lw_privs_2 : List (MethodName × Nat) := [(⟨"LowNumber$Tape", "readSpares", "(LLowNumber$Draft;)Z"⟩, 12), (⟨"LowNumber$Tape", "readDoctor", "(LLowNumber$Draft;)Z"⟩, 12), (⟨"LowNumber$Tape", "readWent", "(LLowNumber$Draft;)Z"⟩, 12), (⟨"LowNumber", "changed", "()V"⟩, 15), (⟨"LowNumber", "answer", "(I)I"⟩, 15), (⟨"LowNumber", "isMan", "(I)Z"⟩, 15), (⟨"LowNumber", "levyBy", "(I)I"⟩, 15), (⟨"LowNumber", "readRow", "(I)Z"⟩, 15), (⟨"LowNumber$Levy", "callMen", "(LLowNumber$Draft;LLowNumber$Now;I[I)V"⟩, 4), (⟨"LowNumber", "table", "()LLowNumber$Cases;"⟩, 15), (⟨"LowNumber$Cases", "isTaken", "(II)Z"⟩, 7), (⟨"LowNumber", "odds", "(JZ)J"⟩, 15), (⟨"LowNumber", "part", "(JJZ)J"⟩, 15), (⟨"LowNumber$Cases", "sent", "(II)I"⟩, 7), (⟨"LowNumber$Cases", "sender", "(II)I"⟩, 7), (⟨"LowNumber$Cases", "lost", "(LLowNumber$Draft;II)I"⟩, 7)]
theorem lw_r2 : ∀ q ∈ lw_privs_2, lw_okq q := List.forall_mem_cons.mpr ⟨lw_p16, List.forall_mem_cons.mpr ⟨lw_p17, List.forall_mem_cons.mpr ⟨lw_p18, List.forall_mem_cons.mpr ⟨lw_p19, List.forall_mem_cons.mpr ⟨lw_p20, List.forall_mem_cons.mpr ⟨lw_p21, List.forall_mem_cons.mpr ⟨lw_p22, List.forall_mem_cons.mpr ⟨lw_p23, List.forall_mem_cons.mpr ⟨lw_p24, List.forall_mem_cons.mpr ⟨lw_p25, List.forall_mem_cons.mpr ⟨lw_p26, List.forall_mem_cons.mpr ⟨lw_p27, List.forall_mem_cons.mpr ⟨lw_p28, List.forall_mem_cons.mpr ⟨lw_p29, List.forall_mem_cons.mpr ⟨lw_p30, List.forall_mem_cons.mpr ⟨lw_p31, fun _ h => absurd h List.not_mem_nil⟩⟩⟩⟩⟩⟩⟩⟩⟩⟩⟩⟩⟩⟩⟩⟩
theorem lw_p32 : lw_okq (⟨"LowNumber", "isClub", "(I)Z"⟩, 15) := ⟨⟨by decide +kernel, by decide +kernel⟩, List.mem_of_getElem? (i := 23) (by decide +kernel), List.mem_of_getElem? (i := 748) (by decide +kernel), List.mem_of_getElem? (i := 749) (by decide +kernel)⟩
theorem lw_p33 : lw_okq (⟨"LowNumber", "allMen", "()I"⟩, 15) := ⟨⟨by decide +kernel, by decide +kernel⟩, List.mem_of_getElem? (i := 23) (by decide +kernel), List.mem_of_getElem? (i := 752) (by decide +kernel), List.mem_of_getElem? (i := 753) (by decide +kernel)⟩
theorem lw_p34 : lw_okq (⟨"LowNumber", "learn", "(I)V"⟩, 15) := ⟨⟨by decide +kernel, by decide +kernel⟩, List.mem_of_getElem? (i := 23) (by decide +kernel), List.mem_of_getElem? (i := 798) (by decide +kernel), List.mem_of_getElem? (i := 799) (by decide +kernel)⟩
theorem lw_p35 : lw_okq (⟨"LowNumber", "look", "()LLowNumber$Witness;"⟩, 15) := ⟨⟨by decide +kernel, by decide +kernel⟩, List.mem_of_getElem? (i := 23) (by decide +kernel), List.mem_of_getElem? (i := 822) (by decide +kernel), List.mem_of_getElem? (i := 823) (by decide +kernel)⟩
theorem lw_p36 : lw_okq (⟨"LowNumber$Witness", "clear", "()V"⟩, 3) := ⟨⟨by decide +kernel, by decide +kernel⟩, List.mem_of_getElem? (i := 316) (by decide +kernel), List.mem_of_getElem? (i := 830) (by decide +kernel), List.mem_of_getElem? (i := 831) (by decide +kernel)⟩
theorem lw_p37 : lw_okq (⟨"LowNumber", "isTold", "(I)Z"⟩, 15) := ⟨⟨by decide +kernel, by decide +kernel⟩, List.mem_of_getElem? (i := 23) (by decide +kernel), List.mem_of_getElem? (i := 842) (by decide +kernel), List.mem_of_getElem? (i := 843) (by decide +kernel)⟩
theorem lw_p38 : lw_okq (⟨"LowNumber", "countDraws", "(IIIZ)I"⟩, 15) := ⟨⟨by decide +kernel, by decide +kernel⟩, List.mem_of_getElem? (i := 23) (by decide +kernel), List.mem_of_getElem? (i := 920) (by decide +kernel), List.mem_of_getElem? (i := 921) (by decide +kernel)⟩
theorem lw_p39 : lw_okq (⟨"LowNumber", "levyByDraws", "(I)I"⟩, 15) := ⟨⟨by decide +kernel, by decide +kernel⟩, List.mem_of_getElem? (i := 23) (by decide +kernel), List.mem_of_getElem? (i := 931) (by decide +kernel), List.mem_of_getElem? (i := 932) (by decide +kernel)⟩
theorem lw_p40 : lw_okq (⟨"LowNumber", "deny", "(I)Z"⟩, 15) := ⟨⟨by decide +kernel, by decide +kernel⟩, List.mem_of_getElem? (i := 23) (by decide +kernel), List.mem_of_getElem? (i := 948) (by decide +kernel), List.mem_of_getElem? (i := 949) (by decide +kernel)⟩
theorem lw_p41 : lw_okq (⟨"LowNumber", "grant", "()Z"⟩, 15) := ⟨⟨by decide +kernel, by decide +kernel⟩, List.mem_of_getElem? (i := 23) (by decide +kernel), List.mem_of_getElem? (i := 958) (by decide +kernel), List.mem_of_getElem? (i := 959) (by decide +kernel)⟩
theorem lw_p42 : lw_okq (⟨"LowNumber", "senderOf", "(I)I"⟩, 15) := ⟨⟨by decide +kernel, by decide +kernel⟩, List.mem_of_getElem? (i := 23) (by decide +kernel), List.mem_of_getElem? (i := 974) (by decide +kernel), List.mem_of_getElem? (i := 975) (by decide +kernel)⟩
theorem lw_p43 : lw_okq (⟨"LowNumber", "sizeOfDraft", "(I)I"⟩, 15) := ⟨⟨by decide +kernel, by decide +kernel⟩, List.mem_of_getElem? (i := 23) (by decide +kernel), List.mem_of_getElem? (i := 1018) (by decide +kernel), List.mem_of_getElem? (i := 1019) (by decide +kernel)⟩
theorem lw_p44 : lw_okq (⟨"java/lang/Throwable", "fillInStackTrace", "(I)Ljava/lang/Throwable;"⟩, 6) := ⟨⟨by decide +kernel, by decide +kernel⟩, List.mem_of_getElem? (i := 1070) (by decide +kernel), List.mem_of_getElem? (i := 1068) (by decide +kernel), List.mem_of_getElem? (i := 1069) (by decide +kernel)⟩
theorem lw_p45 : lw_okq (⟨"LowNumberModel", "refused", "(I)I"⟩, 38) := ⟨⟨by decide +kernel, by decide +kernel⟩, List.mem_of_getElem? (i := 1099) (by decide +kernel), List.mem_of_getElem? (i := 1232) (by decide +kernel), List.mem_of_getElem? (i := 1233) (by decide +kernel)⟩
theorem lw_p46 : lw_okq (⟨"LowNumberModel", "goesOn", "()V"⟩, 38) := ⟨⟨by decide +kernel, by decide +kernel⟩, List.mem_of_getElem? (i := 1099) (by decide +kernel), List.mem_of_getElem? (i := 1299) (by decide +kernel), List.mem_of_getElem? (i := 1300) (by decide +kernel)⟩
theorem lw_p47 : lw_okq (⟨"LowNumberModel", "byteAt", "(I)I"⟩, 38) := ⟨⟨by decide +kernel, by decide +kernel⟩, List.mem_of_getElem? (i := 1099) (by decide +kernel), List.mem_of_getElem? (i := 1303) (by decide +kernel), List.mem_of_getElem? (i := 1304) (by decide +kernel)⟩
def lw_privs_3 : List (MethodName × Nat) := [(⟨"LowNumber", "isClub", "(I)Z"⟩, 15), (⟨"LowNumber", "allMen", "()I"⟩, 15), (⟨"LowNumber", "learn", "(I)V"⟩, 15), (⟨"LowNumber", "look", "()LLowNumber$Witness;"⟩, 15), (⟨"LowNumber$Witness", "clear", "()V"⟩, 3), (⟨"LowNumber", "isTold", "(I)Z"⟩, 15), (⟨"LowNumber", "countDraws", "(IIIZ)I"⟩, 15), (⟨"LowNumber", "levyByDraws", "(I)I"⟩, 15), (⟨"LowNumber", "deny", "(I)Z"⟩, 15), (⟨"LowNumber", "grant", "()Z"⟩, 15), (⟨"LowNumber", "senderOf", "(I)I"⟩, 15), (⟨"LowNumber", "sizeOfDraft", "(I)I"⟩, 15), (⟨"java/lang/Throwable", "fillInStackTrace", "(I)Ljava/lang/Throwable;"⟩, 6), (⟨"LowNumberModel", "refused", "(I)I"⟩, 38), (⟨"LowNumberModel", "goesOn", "()V"⟩, 38), (⟨"LowNumberModel", "byteAt", "(I)I"⟩, 38)]
theorem lw_r3 : ∀ q ∈ lw_privs_3, lw_okq q := List.forall_mem_cons.mpr ⟨lw_p32, List.forall_mem_cons.mpr ⟨lw_p33, List.forall_mem_cons.mpr ⟨lw_p34, List.forall_mem_cons.mpr ⟨lw_p35, List.forall_mem_cons.mpr ⟨lw_p36, List.forall_mem_cons.mpr ⟨lw_p37, List.forall_mem_cons.mpr ⟨lw_p38, List.forall_mem_cons.mpr ⟨lw_p39, List.forall_mem_cons.mpr ⟨lw_p40, List.forall_mem_cons.mpr ⟨lw_p41, List.forall_mem_cons.mpr ⟨lw_p42, List.forall_mem_cons.mpr ⟨lw_p43, List.forall_mem_cons.mpr ⟨lw_p44, List.forall_mem_cons.mpr ⟨lw_p45, List.forall_mem_cons.mpr ⟨lw_p46, List.forall_mem_cons.mpr ⟨lw_p47, fun _ h => absurd h List.not_mem_nil⟩⟩⟩⟩⟩⟩⟩⟩⟩⟩⟩⟩⟩⟩⟩⟩
theorem lw_p48 : lw_okq (⟨"LowNumberModel", "readAll", "()V"⟩, 38) := ⟨⟨by decide +kernel, by decide +kernel⟩, List.mem_of_getElem? (i := 1099) (by decide +kernel), List.mem_of_getElem? (i := 1314) (by decide +kernel), List.mem_of_getElem? (i := 1315) (by decide +kernel)⟩
theorem lw_p49 : lw_okq (⟨"LowNumberModel", "readLine", "()V"⟩, 38) := ⟨⟨by decide +kernel, by decide +kernel⟩, List.mem_of_getElem? (i := 1099) (by decide +kernel), List.mem_of_getElem? (i := 1318) (by decide +kernel), List.mem_of_getElem? (i := 1319) (by decide +kernel)⟩
theorem lw_p50 : lw_okq (⟨"LowNumberModel", "isWord", "(Ljava/lang/String;)Z"⟩, 38) := ⟨⟨by decide +kernel, by decide +kernel⟩, List.mem_of_getElem? (i := 1099) (by decide +kernel), List.mem_of_getElem? (i := 1323) (by decide +kernel), List.mem_of_getElem? (i := 1324) (by decide +kernel)⟩
theorem lw_p51 : lw_okq (⟨"LowNumberModel", "readDraft", "()V"⟩, 38) := ⟨⟨by decide +kernel, by decide +kernel⟩, List.mem_of_getElem? (i := 1099) (by decide +kernel), List.mem_of_getElem? (i := 1332) (by decide +kernel), List.mem_of_getElem? (i := 1333) (by decide +kernel)⟩
theorem lw_p52 : lw_okq (⟨"LowNumberModel", "flaw", "(I)V"⟩, 38) := ⟨⟨by decide +kernel, by decide +kernel⟩, List.mem_of_getElem? (i := 1099) (by decide +kernel), List.mem_of_getElem? (i := 1336) (by decide +kernel), List.mem_of_getElem? (i := 1337) (by decide +kernel)⟩
theorem lw_p53 : lw_okq (⟨"LowNumberModel", "readPart", "(Ljava/lang/String;II)I"⟩, 38) := ⟨⟨by decide +kernel, by decide +kernel⟩, List.mem_of_getElem? (i := 1099) (by decide +kernel), List.mem_of_getElem? (i := 1341) (by decide +kernel), List.mem_of_getElem? (i := 1342) (by decide +kernel)⟩
theorem lw_p54 : lw_okq (⟨"LowNumberModel", "needs", "(Ljava/lang/String;)V"⟩, 38) := ⟨⟨by decide +kernel, by decide +kernel⟩, List.mem_of_getElem? (i := 1099) (by decide +kernel), List.mem_of_getElem? (i := 1345) (by decide +kernel), List.mem_of_getElem? (i := 1346) (by decide +kernel)⟩
theorem lw_p55 : lw_okq (⟨"LowNumberModel", "readWhole", "(II)I"⟩, 38) := ⟨⟨by decide +kernel, by decide +kernel⟩, List.mem_of_getElem? (i := 1099) (by decide +kernel), List.mem_of_getElem? (i := 1349) (by decide +kernel), List.mem_of_getElem? (i := 1350) (by decide +kernel)⟩
theorem lw_p56 : lw_okq (⟨"LowNumberModel", "readMan", "()V"⟩, 38) := ⟨⟨by decide +kernel, by decide +kernel⟩, List.mem_of_getElem? (i := 1099) (by decide +kernel), List.mem_of_getElem? (i := 1357) (by decide +kernel), List.mem_of_getElem? (i := 1358) (by decide +kernel)⟩
theorem lw_p57 : lw_okq (⟨"LowNumberModel", "lineBegins", "(II)V"⟩, 38) := ⟨⟨by decide +kernel, by decide +kernel⟩, List.mem_of_getElem? (i := 1099) (by decide +kernel), List.mem_of_getElem? (i := 1361) (by decide +kernel), List.mem_of_getElem? (i := 1362) (by decide +kernel)⟩
theorem lw_p58 : lw_okq (⟨"LowNumberModel", "isName", "()Z"⟩, 38) := ⟨⟨by decide +kernel, by decide +kernel⟩, List.mem_of_getElem? (i := 1099) (by decide +kernel), List.mem_of_getElem? (i := 1365) (by decide +kernel), List.mem_of_getElem? (i := 1366) (by decide +kernel)⟩
theorem lw_p59 : lw_okq (⟨"LowNumberModel", "sortAtHand", "()I"⟩, 38) := ⟨⟨by decide +kernel, by decide +kernel⟩, List.mem_of_getElem? (i := 1099) (by decide +kernel), List.mem_of_getElem? (i := 1377) (by decide +kernel), List.mem_of_getElem? (i := 1378) (by decide +kernel)⟩
theorem lw_p60 : lw_okq (⟨"LowNumberModel", "readKin", "()V"⟩, 38) := ⟨⟨by decide +kernel, by decide +kernel⟩, List.mem_of_getElem? (i := 1099) (by decide +kernel), List.mem_of_getElem? (i := 1388) (by decide +kernel), List.mem_of_getElem? (i := 1389) (by decide +kernel)⟩
theorem lw_p61 : lw_okq (⟨"LowNumberModel", "knownMan", "()I"⟩, 38) := ⟨⟨by decide +kernel, by decide +kernel⟩, List.mem_of_getElem? (i := 1099) (by decide +kernel), List.mem_of_getElem? (i := 1392) (by decide +kernel), List.mem_of_getElem? (i := 1393) (by decide +kernel)⟩
theorem lw_p62 : lw_okq (⟨"LowNumberModel", "readSpares", "()V"⟩, 38) := ⟨⟨by decide +kernel, by decide +kernel⟩, List.mem_of_getElem? (i := 1099) (by decide +kernel), List.mem_of_getElem? (i := 1399) (by decide +kernel), List.mem_of_getElem? (i := 1400) (by decide +kernel)⟩
theorem lw_p63 : lw_okq (⟨"LowNumberModel", "readDoctor", "()V"⟩, 38) := ⟨⟨by decide +kernel, by decide +kernel⟩, List.mem_of_getElem? (i := 1099) (by decide +kernel), List.mem_of_getElem? (i := 1403) (by decide +kernel), List.mem_of_getElem? (i := 1404) (by decide +kernel)⟩
def lw_privs_4 : List (MethodName × Nat) := [(⟨"LowNumberModel", "readAll", "()V"⟩, 38), (⟨"LowNumberModel", "readLine", "()V"⟩, 38), (⟨"LowNumberModel", "isWord", "(Ljava/lang/String;)Z"⟩, 38), (⟨"LowNumberModel", "readDraft", "()V"⟩, 38), (⟨"LowNumberModel", "flaw", "(I)V"⟩, 38), (⟨"LowNumberModel", "readPart", "(Ljava/lang/String;II)I"⟩, 38), (⟨"LowNumberModel", "needs", "(Ljava/lang/String;)V"⟩, 38), (⟨"LowNumberModel", "readWhole", "(II)I"⟩, 38), (⟨"LowNumberModel", "readMan", "()V"⟩, 38), (⟨"LowNumberModel", "lineBegins", "(II)V"⟩, 38), (⟨"LowNumberModel", "isName", "()Z"⟩, 38), (⟨"LowNumberModel", "sortAtHand", "()I"⟩, 38), (⟨"LowNumberModel", "readKin", "()V"⟩, 38), (⟨"LowNumberModel", "knownMan", "()I"⟩, 38), (⟨"LowNumberModel", "readSpares", "()V"⟩, 38), (⟨"LowNumberModel", "readDoctor", "()V"⟩, 38)]
theorem lw_r4 : ∀ q ∈ lw_privs_4, lw_okq q := List.forall_mem_cons.mpr ⟨lw_p48, List.forall_mem_cons.mpr ⟨lw_p49, List.forall_mem_cons.mpr ⟨lw_p50, List.forall_mem_cons.mpr ⟨lw_p51, List.forall_mem_cons.mpr ⟨lw_p52, List.forall_mem_cons.mpr ⟨lw_p53, List.forall_mem_cons.mpr ⟨lw_p54, List.forall_mem_cons.mpr ⟨lw_p55, List.forall_mem_cons.mpr ⟨lw_p56, List.forall_mem_cons.mpr ⟨lw_p57, List.forall_mem_cons.mpr ⟨lw_p58, List.forall_mem_cons.mpr ⟨lw_p59, List.forall_mem_cons.mpr ⟨lw_p60, List.forall_mem_cons.mpr ⟨lw_p61, List.forall_mem_cons.mpr ⟨lw_p62, List.forall_mem_cons.mpr ⟨lw_p63, fun _ h => absurd h List.not_mem_nil⟩⟩⟩⟩⟩⟩⟩⟩⟩⟩⟩⟩⟩⟩⟩⟩
theorem lw_p64 : lw_okq (⟨"LowNumberModel", "readWent", "()V"⟩, 38) := ⟨⟨by decide +kernel, by decide +kernel⟩, List.mem_of_getElem? (i := 1099) (by decide +kernel), List.mem_of_getElem? (i := 1410) (by decide +kernel), List.mem_of_getElem? (i := 1411) (by decide +kernel)⟩
theorem lw_p65 : lw_okq (⟨"LowNumberModel", "eatsSemicolon", "()Z"⟩, 38) := ⟨⟨by decide +kernel, by decide +kernel⟩, List.mem_of_getElem? (i := 1099) (by decide +kernel), List.mem_of_getElem? (i := 1418) (by decide +kernel), List.mem_of_getElem? (i := 1419) (by decide +kernel)⟩
theorem lw_p66 : lw_okq (⟨"LowNumberModel", "good", "(I)I"⟩, 38) := ⟨⟨by decide +kernel, by decide +kernel⟩, List.mem_of_getElem? (i := 1099) (by decide +kernel), List.mem_of_getElem? (i := 1422) (by decide +kernel), List.mem_of_getElem? (i := 1423) (by decide +kernel)⟩
theorem lw_p67 : lw_okq (⟨"LowNumberModel", "isMan", "(I)Z"⟩, 38) := ⟨⟨by decide +kernel, by decide +kernel⟩, List.mem_of_getElem? (i := 1099) (by decide +kernel), List.mem_of_getElem? (i := 1438) (by decide +kernel), List.mem_of_getElem? (i := 1439) (by decide +kernel)⟩
theorem lw_p68 : lw_okq (⟨"LowNumberModel", "asNow", "()V"⟩, 38) := ⟨⟨by decide +kernel, by decide +kernel⟩, List.mem_of_getElem? (i := 1099) (by decide +kernel), List.mem_of_getElem? (i := 1454) (by decide +kernel), List.mem_of_getElem? (i := 1455) (by decide +kernel)⟩
theorem lw_p69 : lw_okq (⟨"LowNumberModel", "cheapest", "(II)I"⟩, 38) := ⟨⟨by decide +kernel, by decide +kernel⟩, List.mem_of_getElem? (i := 1099) (by decide +kernel), List.mem_of_getElem? (i := 1458) (by decide +kernel), List.mem_of_getElem? (i := 1459) (by decide +kernel)⟩
theorem lw_p70 : lw_okq (⟨"LowNumberModel", "refusesRow", "(ZI)I"⟩, 38) := ⟨⟨by decide +kernel, by decide +kernel⟩, List.mem_of_getElem? (i := 1099) (by decide +kernel), List.mem_of_getElem? (i := 1466) (by decide +kernel), List.mem_of_getElem? (i := 1467) (by decide +kernel)⟩
theorem lw_p71 : lw_okq (⟨"LowNumberModel", "lays", "(I)Z"⟩, 38) := ⟨⟨by decide +kernel, by decide +kernel⟩, List.mem_of_getElem? (i := 1099) (by decide +kernel), List.mem_of_getElem? (i := 1470) (by decide +kernel), List.mem_of_getElem? (i := 1471) (by decide +kernel)⟩
theorem lw_p72 : lw_okq (⟨"LowNumberModel", "everybody", "()I"⟩, 38) := ⟨⟨by decide +kernel, by decide +kernel⟩, List.mem_of_getElem? (i := 1099) (by decide +kernel), List.mem_of_getElem? (i := 1474) (by decide +kernel), List.mem_of_getElem? (i := 1475) (by decide +kernel)⟩
theorem lw_p73 : lw_okq (⟨"LowNumberModel", "playsNow", "()V"⟩, 38) := ⟨⟨by decide +kernel, by decide +kernel⟩, List.mem_of_getElem? (i := 1099) (by decide +kernel), List.mem_of_getElem? (i := 1478) (by decide +kernel), List.mem_of_getElem? (i := 1479) (by decide +kernel)⟩
theorem lw_p74 : lw_okq (⟨"LowNumberModel", "plays", "()V"⟩, 38) := ⟨⟨by decide +kernel, by decide +kernel⟩, List.mem_of_getElem? (i := 1099) (by decide +kernel), List.mem_of_getElem? (i := 1482) (by decide +kernel), List.mem_of_getElem? (i := 1483) (by decide +kernel)⟩
theorem lw_p75 : lw_okq (⟨"LowNumberModel", "going", "()I"⟩, 38) := ⟨⟨by decide +kernel, by decide +kernel⟩, List.mem_of_getElem? (i := 1099) (by decide +kernel), List.mem_of_getElem? (i := 1493) (by decide +kernel), List.mem_of_getElem? (i := 1494) (by decide +kernel)⟩
theorem lw_p76 : lw_okq (⟨"LowNumberModel", "lossOf", "(I)I"⟩, 38) := ⟨⟨by decide +kernel, by decide +kernel⟩, List.mem_of_getElem? (i := 1099) (by decide +kernel), List.mem_of_getElem? (i := 1505) (by decide +kernel), List.mem_of_getElem? (i := 1506) (by decide +kernel)⟩
theorem lw_p77 : lw_okq (⟨"LowNumberModel", "firstRow", "()V"⟩, 38) := ⟨⟨by decide +kernel, by decide +kernel⟩, List.mem_of_getElem? (i := 1099) (by decide +kernel), List.mem_of_getElem? (i := 1513) (by decide +kernel), List.mem_of_getElem? (i := 1514) (by decide +kernel)⟩
theorem lw_p78 : lw_okq (⟨"LowNumberModel", "codeOfRow", "()I"⟩, 38) := ⟨⟨by decide +kernel, by decide +kernel⟩, List.mem_of_getElem? (i := 1099) (by decide +kernel), List.mem_of_getElem? (i := 1517) (by decide +kernel), List.mem_of_getElem? (i := 1518) (by decide +kernel)⟩
theorem lw_p79 : lw_okq (⟨"LowNumberModel", "nextRow", "()Z"⟩, 38) := ⟨⟨by decide +kernel, by decide +kernel⟩, List.mem_of_getElem? (i := 1099) (by decide +kernel), List.mem_of_getElem? (i := 1521) (by decide +kernel), List.mem_of_getElem? (i := 1522) (by decide +kernel)⟩
def lw_privs_5 : List (MethodName × Nat) := [(⟨"LowNumberModel", "readWent", "()V"⟩, 38), (⟨"LowNumberModel", "eatsSemicolon", "()Z"⟩, 38), (⟨"LowNumberModel", "good", "(I)I"⟩, 38), (⟨"LowNumberModel", "isMan", "(I)Z"⟩, 38), (⟨"LowNumberModel", "asNow", "()V"⟩, 38), (⟨"LowNumberModel", "cheapest", "(II)I"⟩, 38), (⟨"LowNumberModel", "refusesRow", "(ZI)I"⟩, 38), (⟨"LowNumberModel", "lays", "(I)Z"⟩, 38), (⟨"LowNumberModel", "everybody", "()I"⟩, 38), (⟨"LowNumberModel", "playsNow", "()V"⟩, 38), (⟨"LowNumberModel", "plays", "()V"⟩, 38), (⟨"LowNumberModel", "going", "()I"⟩, 38), (⟨"LowNumberModel", "lossOf", "(I)I"⟩, 38), (⟨"LowNumberModel", "firstRow", "()V"⟩, 38), (⟨"LowNumberModel", "codeOfRow", "()I"⟩, 38), (⟨"LowNumberModel", "nextRow", "()Z"⟩, 38)]
theorem lw_r5 : ∀ q ∈ lw_privs_5, lw_okq q := List.forall_mem_cons.mpr ⟨lw_p64, List.forall_mem_cons.mpr ⟨lw_p65, List.forall_mem_cons.mpr ⟨lw_p66, List.forall_mem_cons.mpr ⟨lw_p67, List.forall_mem_cons.mpr ⟨lw_p68, List.forall_mem_cons.mpr ⟨lw_p69, List.forall_mem_cons.mpr ⟨lw_p70, List.forall_mem_cons.mpr ⟨lw_p71, List.forall_mem_cons.mpr ⟨lw_p72, List.forall_mem_cons.mpr ⟨lw_p73, List.forall_mem_cons.mpr ⟨lw_p74, List.forall_mem_cons.mpr ⟨lw_p75, List.forall_mem_cons.mpr ⟨lw_p76, List.forall_mem_cons.mpr ⟨lw_p77, List.forall_mem_cons.mpr ⟨lw_p78, List.forall_mem_cons.mpr ⟨lw_p79, fun _ h => absurd h List.not_mem_nil⟩⟩⟩⟩⟩⟩⟩⟩⟩⟩⟩⟩⟩⟩⟩⟩
theorem lw_p80 : lw_okq (⟨"LowNumberModel", "swaps", "(II)V"⟩, 38) := ⟨⟨by decide +kernel, by decide +kernel⟩, List.mem_of_getElem? (i := 1099) (by decide +kernel), List.mem_of_getElem? (i := 1525) (by decide +kernel), List.mem_of_getElem? (i := 1526) (by decide +kernel)⟩
theorem lw_p81 : lw_okq (⟨"LowNumberModel", "oddsNow", "()V"⟩, 38) := ⟨⟨by decide +kernel, by decide +kernel⟩, List.mem_of_getElem? (i := 1099) (by decide +kernel), List.mem_of_getElem? (i := 1533) (by decide +kernel), List.mem_of_getElem? (i := 1534) (by decide +kernel)⟩
theorem lw_p82 : lw_okq (⟨"LowNumberModel", "odds", "(II)V"⟩, 38) := ⟨⟨by decide +kernel, by decide +kernel⟩, List.mem_of_getElem? (i := 1099) (by decide +kernel), List.mem_of_getElem? (i := 1537) (by decide +kernel), List.mem_of_getElem? (i := 1538) (by decide +kernel)⟩
theorem lw_p83 : lw_okq (⟨"LowNumberModel", "lossOfAll", "(I)I"⟩, 38) := ⟨⟨by decide +kernel, by decide +kernel⟩, List.mem_of_getElem? (i := 1099) (by decide +kernel), List.mem_of_getElem? (i := 1541) (by decide +kernel), List.mem_of_getElem? (i := 1542) (by decide +kernel)⟩
theorem lw_p84 : lw_okq (⟨"LowNumberModel", "allRows", "()I"⟩, 38) := ⟨⟨by decide +kernel, by decide +kernel⟩, List.mem_of_getElem? (i := 1099) (by decide +kernel), List.mem_of_getElem? (i := 1545) (by decide +kernel), List.mem_of_getElem? (i := 1546) (by decide +kernel)⟩
theorem lw_p85 : lw_okq (⟨"LowNumberModel", "fraction", "(JJZ)J"⟩, 38) := ⟨⟨by decide +kernel, by decide +kernel⟩, List.mem_of_getElem? (i := 1099) (by decide +kernel), List.mem_of_getElem? (i := 1549) (by decide +kernel), List.mem_of_getElem? (i := 1550) (by decide +kernel)⟩
theorem lw_p86 : lw_okq (⟨"LowNumberModel", "isClub", "(II)Z"⟩, 38) := ⟨⟨by decide +kernel, by decide +kernel⟩, List.mem_of_getElem? (i := 1099) (by decide +kernel), List.mem_of_getElem? (i := 1572) (by decide +kernel), List.mem_of_getElem? (i := 1573) (by decide +kernel)⟩
theorem lw_p87 : lw_okq (⟨"LowNumberModel", "lossesOf", "(I)J"⟩, 38) := ⟨⟨by decide +kernel, by decide +kernel⟩, List.mem_of_getElem? (i := 1099) (by decide +kernel), List.mem_of_getElem? (i := 1576) (by decide +kernel), List.mem_of_getElem? (i := 1577) (by decide +kernel)⟩
theorem lw_p88 : lw_okq (⟨"LowNumberModel", "refusesLaw", "(I)I"⟩, 38) := ⟨⟨by decide +kernel, by decide +kernel⟩, List.mem_of_getElem? (i := 1099) (by decide +kernel), List.mem_of_getElem? (i := 1600) (by decide +kernel), List.mem_of_getElem? (i := 1601) (by decide +kernel)⟩
theorem lw_p89 : lw_okq (⟨"LowNumberModel", "byLaw", "(I)V"⟩, 38) := ⟨⟨by decide +kernel, by decide +kernel⟩, List.mem_of_getElem? (i := 1099) (by decide +kernel), List.mem_of_getElem? (i := 1604) (by decide +kernel), List.mem_of_getElem? (i := 1605) (by decide +kernel)⟩
theorem lw_p90 : lw_okq (⟨"LowNumberModel", "fitting", "()V"⟩, 38) := ⟨⟨by decide +kernel, by decide +kernel⟩, List.mem_of_getElem? (i := 1099) (by decide +kernel), List.mem_of_getElem? (i := 1624) (by decide +kernel), List.mem_of_getElem? (i := 1625) (by decide +kernel)⟩
theorem lw_p91 : lw_okq (⟨"LowNumberModel", "isTold", "(I)Z"⟩, 38) := ⟨⟨by decide +kernel, by decide +kernel⟩, List.mem_of_getElem? (i := 1099) (by decide +kernel), List.mem_of_getElem? (i := 1632) (by decide +kernel), List.mem_of_getElem? (i := 1633) (by decide +kernel)⟩
theorem lw_p92 : lw_okq (⟨"LowNumberModel", "couldBe", "(I)I"⟩, 38) := ⟨⟨by decide +kernel, by decide +kernel⟩, List.mem_of_getElem? (i := 1099) (by decide +kernel), List.mem_of_getElem? (i := 1636) (by decide +kernel), List.mem_of_getElem? (i := 1637) (by decide +kernel)⟩
theorem lw_p93 : lw_okq (⟨"LowNumberModel", "toAsk", "()I"⟩, 38) := ⟨⟨by decide +kernel, by decide +kernel⟩, List.mem_of_getElem? (i := 1099) (by decide +kernel), List.mem_of_getElem? (i := 1648) (by decide +kernel), List.mem_of_getElem? (i := 1649) (by decide +kernel)⟩
theorem lw_p94 : lw_okq (⟨"LowNumberModel", "refusesDoctor", "()I"⟩, 38) := ⟨⟨by decide +kernel, by decide +kernel⟩, List.mem_of_getElem? (i := 1099) (by decide +kernel), List.mem_of_getElem? (i := 1664) (by decide +kernel), List.mem_of_getElem? (i := 1665) (by decide +kernel)⟩
theorem lw_p95 : lw_okq (⟨"LowNumberModel", "refusesMany", "(I)I"⟩, 38) := ⟨⟨by decide +kernel, by decide +kernel⟩, List.mem_of_getElem? (i := 1099) (by decide +kernel), List.mem_of_getElem? (i := 1677) (by decide +kernel), List.mem_of_getElem? (i := 1678) (by decide +kernel)⟩
def lw_privs_6 : List (MethodName × Nat) := [(⟨"LowNumberModel", "swaps", "(II)V"⟩, 38), (⟨"LowNumberModel", "oddsNow", "()V"⟩, 38), (⟨"LowNumberModel", "odds", "(II)V"⟩, 38), (⟨"LowNumberModel", "lossOfAll", "(I)I"⟩, 38), (⟨"LowNumberModel", "allRows", "()I"⟩, 38), (⟨"LowNumberModel", "fraction", "(JJZ)J"⟩, 38), (⟨"LowNumberModel", "isClub", "(II)Z"⟩, 38), (⟨"LowNumberModel", "lossesOf", "(I)J"⟩, 38), (⟨"LowNumberModel", "refusesLaw", "(I)I"⟩, 38), (⟨"LowNumberModel", "byLaw", "(I)V"⟩, 38), (⟨"LowNumberModel", "fitting", "()V"⟩, 38), (⟨"LowNumberModel", "isTold", "(I)Z"⟩, 38), (⟨"LowNumberModel", "couldBe", "(I)I"⟩, 38), (⟨"LowNumberModel", "toAsk", "()I"⟩, 38), (⟨"LowNumberModel", "refusesDoctor", "()I"⟩, 38), (⟨"LowNumberModel", "refusesMany", "(I)I"⟩, 38)]
theorem lw_r6 : ∀ q ∈ lw_privs_6, lw_okq q := List.forall_mem_cons.mpr ⟨lw_p80, List.forall_mem_cons.mpr ⟨lw_p81, List.forall_mem_cons.mpr ⟨lw_p82, List.forall_mem_cons.mpr ⟨lw_p83, List.forall_mem_cons.mpr ⟨lw_p84, List.forall_mem_cons.mpr ⟨lw_p85, List.forall_mem_cons.mpr ⟨lw_p86, List.forall_mem_cons.mpr ⟨lw_p87, List.forall_mem_cons.mpr ⟨lw_p88, List.forall_mem_cons.mpr ⟨lw_p89, List.forall_mem_cons.mpr ⟨lw_p90, List.forall_mem_cons.mpr ⟨lw_p91, List.forall_mem_cons.mpr ⟨lw_p92, List.forall_mem_cons.mpr ⟨lw_p93, List.forall_mem_cons.mpr ⟨lw_p94, List.forall_mem_cons.mpr ⟨lw_p95, fun _ h => absurd h List.not_mem_nil⟩⟩⟩⟩⟩⟩⟩⟩⟩⟩⟩⟩⟩⟩⟩⟩
theorem lw_p96 : lw_okq (⟨"LowNumberModel", "lost", "(I)I"⟩, 38) := ⟨⟨by decide +kernel, by decide +kernel⟩, List.mem_of_getElem? (i := 1099) (by decide +kernel), List.mem_of_getElem? (i := 1681) (by decide +kernel), List.mem_of_getElem? (i := 1682) (by decide +kernel)⟩
theorem lw_p97 : lw_okq (⟨"LowNumberModel", "refusesDrafts", "(ZII)I"⟩, 38) := ⟨⟨by decide +kernel, by decide +kernel⟩, List.mem_of_getElem? (i := 1099) (by decide +kernel), List.mem_of_getElem? (i := 1706) (by decide +kernel), List.mem_of_getElem? (i := 1707) (by decide +kernel)⟩
theorem lw_p98 : lw_okq (⟨"LowNumberModel", "drawsRow", "()V"⟩, 38) := ⟨⟨by decide +kernel, by decide +kernel⟩, List.mem_of_getElem? (i := 1099) (by decide +kernel), List.mem_of_getElem? (i := 1711) (by decide +kernel), List.mem_of_getElem? (i := 1712) (by decide +kernel)⟩
theorem lw_p99 : lw_okq (⟨"LowNumberModel", "denied", "(I)Z"⟩, 38) := ⟨⟨by decide +kernel, by decide +kernel⟩, List.mem_of_getElem? (i := 1099) (by decide +kernel), List.mem_of_getElem? (i := 1730) (by decide +kernel), List.mem_of_getElem? (i := 1731) (by decide +kernel)⟩
theorem lw_p100 : lw_okq (⟨"LowNumberModel", "remembers", "()V"⟩, 38) := ⟨⟨by decide +kernel, by decide +kernel⟩, List.mem_of_getElem? (i := 1099) (by decide +kernel), List.mem_of_getElem? (i := 1734) (by decide +kernel), List.mem_of_getElem? (i := 1735) (by decide +kernel)⟩
theorem lw_p101 : lw_okq (⟨"LowNumberModel", "granted", "()Z"⟩, 38) := ⟨⟨by decide +kernel, by decide +kernel⟩, List.mem_of_getElem? (i := 1099) (by decide +kernel), List.mem_of_getElem? (i := 1738) (by decide +kernel), List.mem_of_getElem? (i := 1739) (by decide +kernel)⟩
theorem lw_p102 : lw_okq (⟨"LowNumberModel", "fateOf", "(I)I"⟩, 38) := ⟨⟨by decide +kernel, by decide +kernel⟩, List.mem_of_getElem? (i := 1099) (by decide +kernel), List.mem_of_getElem? (i := 1758) (by decide +kernel), List.mem_of_getElem? (i := 1759) (by decide +kernel)⟩
def lw_privs_7 : List (MethodName × Nat) := [(⟨"LowNumberModel", "lost", "(I)I"⟩, 38), (⟨"LowNumberModel", "refusesDrafts", "(ZII)I"⟩, 38), (⟨"LowNumberModel", "drawsRow", "()V"⟩, 38), (⟨"LowNumberModel", "denied", "(I)Z"⟩, 38), (⟨"LowNumberModel", "remembers", "()V"⟩, 38), (⟨"LowNumberModel", "granted", "()Z"⟩, 38), (⟨"LowNumberModel", "fateOf", "(I)I"⟩, 38)]
theorem lw_r7 : ∀ q ∈ lw_privs_7, lw_okq q := List.forall_mem_cons.mpr ⟨lw_p96, List.forall_mem_cons.mpr ⟨lw_p97, List.forall_mem_cons.mpr ⟨lw_p98, List.forall_mem_cons.mpr ⟨lw_p99, List.forall_mem_cons.mpr ⟨lw_p100, List.forall_mem_cons.mpr ⟨lw_p101, List.forall_mem_cons.mpr ⟨lw_p102, fun _ h => absurd h List.not_mem_nil⟩⟩⟩⟩⟩⟩⟩
def lw_privs : List (MethodName × Nat) := lw_privs_1 ++ (lw_privs_2 ++ (lw_privs_3 ++ (lw_privs_4 ++ (lw_privs_5 ++ (lw_privs_6 ++ (lw_privs_7))))))
def lw_tbl : List Cond := k2_sels lw_privs ++ tables_1
theorem lw_privs_ok : ∀ q ∈ lw_privs, lw_okq q := by
  show ∀ q ∈ lw_privs_1 ++ (lw_privs_2 ++ (lw_privs_3 ++ (lw_privs_4 ++ (lw_privs_5 ++ (lw_privs_6 ++ (lw_privs_7)))))), lw_okq q
  exact List.forall_mem_append.mpr ⟨lw_r1, List.forall_mem_append.mpr ⟨lw_r2, List.forall_mem_append.mpr ⟨lw_r3, List.forall_mem_append.mpr ⟨lw_r4, List.forall_mem_append.mpr ⟨lw_r5, List.forall_mem_append.mpr ⟨lw_r6, lw_r7⟩⟩⟩⟩⟩⟩
end
section
def RX0 : String := "LowNumber$Cases"
def TX0 : u_T := fun k => match k with
  | 0 => ("LowNumber$Cases", "levy", "LLowNumber$Levy;", true)
  | 1 => ("LowNumber$Cases", "row", "[I", true)
  | 2 => ("LowNumber$Cases", "count", "I", false)
  | 3 => ("LowNumber$Cases", "men", "I", false)
  | 4 => ("LowNumber$Cases", "takens", "[I", true)
  | 5 => ("LowNumber$Cases", "sendings", "[I", true)
  | _ => ("LowNumber$Cases", "weights", "[I", true)
def tyX0 : Nat → FieldType := fun k => match k with
  | 0 => .object "LowNumber$Levy"
  | 1 => .array .int
  | 2 => .int
  | 3 => .int
  | 4 => .array .int
  | 5 => .array .int
  | _ => .array .int
abbrev wsX00 : List Cond := u_ws RX0 TX0 7
theorem nmX0 : ∀ a, a < 7 → ∀ b, b < 7 → a ≠ b → (TX0 a).2.1 ≠ (TX0 b).2.1 := by decide +kernel
theorem tyX0_ok : ∀ k, k < 7 → parseFieldDescriptor (TX0 k).2.2.1 = some (tyX0 k) := by decide +kernel
abbrev cX0_init : ByteArray := prog_2_method_1_code
def yX0_init : MethodName := ⟨RX0, "<init>", "()V"⟩
abbrev cX0_fill : ByteArray := prog_2_method_2_code
def yX0_fill : MethodName := ⟨RX0, "fill", "(LLowNumber$Draft;LLowNumber$Now;I)V"⟩
abbrev cX0_packed : ByteArray := prog_2_method_3_code
def yX0_packed : MethodName := ⟨RX0, "packed", "([I)I"⟩
abbrev cX0_sent : ByteArray := prog_2_method_4_code
def yX0_sent : MethodName := ⟨RX0, "sent", "(II)I"⟩
abbrev cX0_isTaken : ByteArray := prog_2_method_5_code
def yX0_isTaken : MethodName := ⟨RX0, "isTaken", "(II)Z"⟩
abbrev cX0_sender : ByteArray := prog_2_method_6_code
def yX0_sender : MethodName := ⟨RX0, "sender", "(II)I"⟩
abbrev cX0_lost : ByteArray := prog_2_method_7_code
def yX0_lost : MethodName := ⟨RX0, "lost", "(LLowNumber$Draft;II)I"⟩
abbrev cX0_weightTaken : ByteArray := prog_2_method_8_code
def yX0_weightTaken : MethodName := ⟨RX0, "weightTaken", "(I)J"⟩
abbrev cX0_weightGoing : ByteArray := prog_2_method_9_code
def yX0_weightGoing : MethodName := ⟨RX0, "weightGoing", "(I)J"⟩
abbrev cX0_weightSent : ByteArray := prog_2_method_10_code
def yX0_weightSent : MethodName := ⟨RX0, "weightSent", "(II)J"⟩
abbrev cX0_weightLosing : ByteArray := prog_2_method_11_code
def yX0_weightLosing : MethodName := ⟨RX0, "weightLosing", "(LLowNumber$Draft;II)J"⟩
abbrev cX0_weightUnfilled : ByteArray := prog_2_method_12_code
def yX0_weightUnfilled : MethodName := ⟨RX0, "weightUnfilled", "(LLowNumber$Draft;)J"⟩
abbrev cX0_lossOf : ByteArray := prog_2_method_13_code
def yX0_lossOf : MethodName := ⟨RX0, "lossOf", "(LLowNumber$Draft;I)J"⟩
def RX1 : String := "LowNumber$Draft"
def TX1 : u_T := fun k => match k with
  | 0 => ("LowNumber$Draft", "takes", "I", false)
  | 1 => ("LowNumber$Draft", "men", "I", false)
  | 2 => ("LowNumber$Draft", "sorts", "[I", true)
  | 3 => ("LowNumber$Draft", "worth", "[I", true)
  | 4 => ("LowNumber$Draft", "coins", "[I", true)
  | 5 => ("LowNumber$Draft", "asks", "[I", true)
  | 6 => ("LowNumber$Draft", "kin", "[I", true)
  | 7 => ("LowNumber$Draft", "kins", "I", false)
  | 8 => ("LowNumber$Draft", "spared", "I", false)
  | 9 => ("LowNumber$Draft", "hasDoctor", "Z", false)
  | 10 => ("LowNumber$Draft", "hits", "I", false)
  | 11 => ("LowNumber$Draft", "errs", "I", false)
  | 12 => ("LowNumber$Draft", "share", "I", false)
  | 13 => ("LowNumber$Draft", "went", "[I", true)
  | _ => ("LowNumber$Draft", "wents", "I", false)
def tyX1 : Nat → FieldType := fun k => match k with
  | 0 => .int
  | 1 => .int
  | 2 => .array .int
  | 3 => .array .int
  | 4 => .array .int
  | 5 => .array .int
  | 6 => .array .int
  | 7 => .int
  | 8 => .int
  | 9 => .boolean
  | 10 => .int
  | 11 => .int
  | 12 => .int
  | 13 => .array .int
  | _ => .int
abbrev wsX10 : List Cond := u_ws RX1 TX1 15
theorem nmX1 : ∀ a, a < 15 → ∀ b, b < 15 → a ≠ b → (TX1 a).2.1 ≠ (TX1 b).2.1 := by decide +kernel
theorem tyX1_ok : ∀ k, k < 15 → parseFieldDescriptor (TX1 k).2.2.1 = some (tyX1 k) := by decide +kernel
abbrev cX1_init : ByteArray := prog_3_method_1_code
def yX1_init : MethodName := ⟨RX1, "<init>", "()V"⟩
abbrev cX1_clear : ByteArray := prog_3_method_2_code
def yX1_clear : MethodName := ⟨RX1, "clear", "()V"⟩
def RX2 : String := "LowNumber$Kept"
def TX2 : u_T := fun k => match k with
  | 0 => ("LowNumber$Kept", "ring", "[LLowNumber$Now;", true)
  | 1 => ("LowNumber$Kept", "painted", "[LLowNumber$Now;", true)
  | 2 => ("LowNumber$Kept", "next", "I", false)
  | 3 => ("LowNumber$Kept", "acts", "I", false)
  | _ => ("LowNumber$Kept", "images", "I", false)
def tyX2 : Nat → FieldType := fun k => match k with
  | 0 => .array (.object "LowNumber$Now")
  | 1 => .array (.object "LowNumber$Now")
  | 2 => .int
  | 3 => .int
  | _ => .int
abbrev wsX20 : List Cond := u_ws RX2 TX2 5
theorem nmX2 : ∀ a, a < 5 → ∀ b, b < 5 → a ≠ b → (TX2 a).2.1 ≠ (TX2 b).2.1 := by decide +kernel
theorem tyX2_ok : ∀ k, k < 5 → parseFieldDescriptor (TX2 k).2.2.1 = some (tyX2 k) := by decide +kernel
abbrev cX2_init : ByteArray := prog_4_method_1_code
def yX2_init : MethodName := ⟨RX2, "<init>", "()V"⟩
abbrev cX2_clear : ByteArray := prog_4_method_2_code
def yX2_clear : MethodName := ⟨RX2, "clear", "()V"⟩
abbrev cX2_keep : ByteArray := prog_4_method_3_code
def yX2_keep : MethodName := ⟨RX2, "keep", "(LLowNumber$Now;)V"⟩
abbrev cX2_takeBack : ByteArray := prog_4_method_4_code
def yX2_takeBack : MethodName := ⟨RX2, "takeBack", "(LLowNumber$Now;)Z"⟩
abbrev cX2_paint : ByteArray := prog_4_method_5_code
def yX2_paint : MethodName := ⟨RX2, "paint", "(LLowNumber$Now;)I"⟩
abbrev cX2_goBack : ByteArray := prog_4_method_6_code
def yX2_goBack : MethodName := ⟨RX2, "goBack", "(ILLowNumber$Now;)Z"⟩
def RX3 : String := "LowNumber$Laws"
def TX3 : u_T := fun k => match k with
  | 0 => ("LowNumber$Laws", "known", "I", false)
  | 1 => ("LowNumber$Laws", "filled", "I", false)
  | _ => ("LowNumber$Laws", "harms", "[J", true)
def tyX3 : Nat → FieldType := fun k => match k with
  | 0 => .int
  | 1 => .int
  | _ => .array .long
abbrev wsX30 : List Cond := u_ws RX3 TX3 3
theorem nmX3 : ∀ a, a < 3 → ∀ b, b < 3 → a ≠ b → (TX3 a).2.1 ≠ (TX3 b).2.1 := by decide +kernel
theorem tyX3_ok : ∀ k, k < 3 → parseFieldDescriptor (TX3 k).2.2.1 = some (tyX3 k) := by decide +kernel
abbrev cX3_init : ByteArray := prog_5_method_1_code
def yX3_init : MethodName := ⟨RX3, "<init>", "()V"⟩
abbrev cX3_forget : ByteArray := prog_5_method_2_code
def yX3_forget : MethodName := ⟨RX3, "forget", "()V"⟩
abbrev cX3_put : ByteArray := prog_5_method_3_code
def yX3_put : MethodName := ⟨RX3, "put", "(IJZ)V"⟩
def RX4 : String := "LowNumber$Levy"
def TX4 : u_T := fun k => match k with
  | 0 => ("LowNumber$Levy", "takenBits", "I", false)
  | 1 => ("LowNumber$Levy", "sentBits", "I", false)
  | 2 => ("LowNumber$Levy", "called", "I", false)
  | _ => ("LowNumber$Levy", "sends", "[I", true)
def tyX4 : Nat → FieldType := fun k => match k with
  | 0 => .int
  | 1 => .int
  | 2 => .int
  | _ => .array .int
abbrev wsX40 : List Cond := u_ws RX4 TX4 4
theorem nmX4 : ∀ a, a < 4 → ∀ b, b < 4 → a ≠ b → (TX4 a).2.1 ≠ (TX4 b).2.1 := by decide +kernel
theorem tyX4_ok : ∀ k, k < 4 → parseFieldDescriptor (TX4 k).2.2.1 = some (tyX4 k) := by decide +kernel
abbrev cX4_init : ByteArray := prog_6_method_1_code
def yX4_init : MethodName := ⟨RX4, "<init>", "()V"⟩
abbrev cX4_run : ByteArray := prog_6_method_2_code
def yX4_run : MethodName := ⟨RX4, "run", "(LLowNumber$Draft;LLowNumber$Now;I[I)V"⟩
abbrev cX4_callMen : ByteArray := prog_6_method_3_code
def yX4_callMen : MethodName := ⟨RX4, "callMen", "(LLowNumber$Draft;LLowNumber$Now;I[I)V"⟩
abbrev cX4_cheapest : ByteArray := prog_6_method_4_code
def yX4_cheapest : MethodName := ⟨RX4, "cheapest", "(LLowNumber$Draft;LLowNumber$Now;II)I"⟩
abbrev cX4_lost : ByteArray := prog_6_method_5_code
def yX4_lost : MethodName := ⟨RX4, "lost", "(LLowNumber$Draft;I)I"⟩
def RX5 : String := "LowNumber$Now"
def TX5 : u_T := fun k => match k with
  | 0 => ("LowNumber$Now", "sorts", "[I", true)
  | 1 => ("LowNumber$Now", "coins", "[I", true)
  | 2 => ("LowNumber$Now", "row", "[I", true)
  | 3 => ("LowNumber$Now", "sends", "[I", true)
  | 4 => ("LowNumber$Now", "spared", "I", false)
  | 5 => ("LowNumber$Now", "seed", "I", false)
  | 6 => ("LowNumber$Now", "held", "I", false)
  | _ => ("LowNumber$Now", "takenBits", "I", false)
def tyX5 : Nat → FieldType := fun k => match k with
  | 0 => .array .int
  | 1 => .array .int
  | 2 => .array .int
  | 3 => .array .int
  | 4 => .int
  | 5 => .int
  | 6 => .int
  | _ => .int
abbrev wsX50 : List Cond := u_ws RX5 TX5 8
theorem nmX5 : ∀ a, a < 8 → ∀ b, b < 8 → a ≠ b → (TX5 a).2.1 ≠ (TX5 b).2.1 := by decide +kernel
theorem tyX5_ok : ∀ k, k < 8 → parseFieldDescriptor (TX5 k).2.2.1 = some (tyX5 k) := by decide +kernel
abbrev cX5_init : ByteArray := prog_7_method_1_code
def yX5_init : MethodName := ⟨RX5, "<init>", "()V"⟩
abbrev cX5_begin : ByteArray := prog_7_method_2_code
def yX5_begin : MethodName := ⟨RX5, "begin", "(LLowNumber$Draft;)V"⟩
abbrev cX5_take : ByteArray := prog_7_method_3_code
def yX5_take : MethodName := ⟨RX5, "take", "(LLowNumber$Now;)V"⟩
def RX6 : String := "LowNumber$Tape"
def TX6 : u_T := fun k => match k with
  | 0 => ("LowNumber$Tape", "bytes", "[B", true)
  | 1 => ("LowNumber$Tape", "length", "I", false)
  | 2 => ("LowNumber$Tape", "fault", "I", false)
  | 3 => ("LowNumber$Tape", "place", "I", false)
  | 4 => ("LowNumber$Tape", "end", "I", false)
  | 5 => ("LowNumber$Tape", "at", "I", false)
  | 6 => ("LowNumber$Tape", "behind", "I", false)
  | 7 => ("LowNumber$Tape", "kind", "I", false)
  | 8 => ("LowNumber$Tape", "told", "Z", false)
  | 9 => ("LowNumber$Tape", "value", "I", false)
  | 10 => ("LowNumber$Tape", "nameAt", "[I", true)
  | _ => ("LowNumber$Tape", "nameLength", "[I", true)
def tyX6 : Nat → FieldType := fun k => match k with
  | 0 => .array .byte
  | 1 => .int
  | 2 => .int
  | 3 => .int
  | 4 => .int
  | 5 => .int
  | 6 => .int
  | 7 => .int
  | 8 => .boolean
  | 9 => .int
  | 10 => .array .int
  | _ => .array .int
abbrev wsX60 : List Cond := u_ws RX6 TX6 12
theorem nmX6 : ∀ a, a < 12 → ∀ b, b < 12 → a ≠ b → (TX6 a).2.1 ≠ (TX6 b).2.1 := by decide +kernel
theorem tyX6_ok : ∀ k, k < 12 → parseFieldDescriptor (TX6 k).2.2.1 = some (tyX6 k) := by decide +kernel
abbrev cX6_init : ByteArray := prog_8_method_1_code
def yX6_init : MethodName := ⟨RX6, "<init>", "()V"⟩
abbrev cX6_hasRoom : ByteArray := prog_8_method_2_code
def yX6_hasRoom : MethodName := ⟨RX6, "hasRoom", "(I)Z"⟩
abbrev cX6_put : ByteArray := prog_8_method_3_code
def yX6_put : MethodName := ⟨RX6, "put", "(I)V"⟩
abbrev cX6_read : ByteArray := prog_8_method_4_code
def yX6_read : MethodName := ⟨RX6, "read", "(ILLowNumber$Draft;)Z"⟩
abbrev cX6_fail : ByteArray := prog_8_method_5_code
def yX6_fail : MethodName := ⟨RX6, "fail", "(I)Z"⟩
abbrev cX6_step : ByteArray := prog_8_method_6_code
def yX6_step : MethodName := ⟨RX6, "step", "()V"⟩
abbrev cX6_isBetween : ByteArray := prog_8_method_7_code
def yX6_isBetween : MethodName := ⟨RX6, "isBetween", "(III)Z"⟩
abbrev cX6_runEnd : ByteArray := prog_8_method_8_code
def yX6_runEnd : MethodName := ⟨RX6, "runEnd", "(II)I"⟩
abbrev cX6_readLine : ByteArray := prog_8_method_9_code
def yX6_readLine : MethodName := ⟨RX6, "readLine", "(LLowNumber$Draft;)Z"⟩
abbrev cX6_lineKind : ByteArray := prog_8_method_10_code
def yX6_lineKind : MethodName := ⟨RX6, "lineKind", "()I"⟩
abbrev cX6_readTakes : ByteArray := prog_8_method_11_code
def yX6_readTakes : MethodName := ⟨RX6, "readTakes", "(LLowNumber$Draft;)Z"⟩
abbrev cX6_readMan : ByteArray := prog_8_method_12_code
def yX6_readMan : MethodName := ⟨RX6, "readMan", "(LLowNumber$Draft;)Z"⟩
abbrev cX6_readKin : ByteArray := prog_8_method_13_code
def yX6_readKin : MethodName := ⟨RX6, "readKin", "(LLowNumber$Draft;)Z"⟩
abbrev cX6_readSpares : ByteArray := prog_8_method_14_code
def yX6_readSpares : MethodName := ⟨RX6, "readSpares", "(LLowNumber$Draft;)Z"⟩
abbrev cX6_readDoctor : ByteArray := prog_8_method_15_code
def yX6_readDoctor : MethodName := ⟨RX6, "readDoctor", "(LLowNumber$Draft;)Z"⟩
abbrev cX6_readWent : ByteArray := prog_8_method_16_code
def yX6_readWent : MethodName := ⟨RX6, "readWent", "(LLowNumber$Draft;)Z"⟩
abbrev cX6_isWord : ByteArray := prog_8_method_17_code
def yX6_isWord : MethodName := ⟨RX6, "isWord", "(Ljava/lang/String;)Z"⟩
abbrev cX6_passWord : ByteArray := prog_8_method_18_code
def yX6_passWord : MethodName := ⟨RX6, "passWord", "(Ljava/lang/String;)Z"⟩
abbrev cX6_passWhole : ByteArray := prog_8_method_19_code
def yX6_passWhole : MethodName := ⟨RX6, "passWhole", "(I)Z"⟩
abbrev cX6_isToldMan : ByteArray := prog_8_method_20_code
def yX6_isToldMan : MethodName := ⟨RX6, "isToldMan", "(LLowNumber$Draft;)Z"⟩
abbrev cX6_namedMan : ByteArray := prog_8_method_21_code
def yX6_namedMan : MethodName := ⟨RX6, "namedMan", "(LLowNumber$Draft;)I"⟩
abbrev cX6_isNamed : ByteArray := prog_8_method_22_code
def yX6_isNamed : MethodName := ⟨RX6, "isNamed", "(I)Z"⟩
abbrev cX6_namedSort : ByteArray := prog_8_method_23_code
def yX6_namedSort : MethodName := ⟨RX6, "namedSort", "()I"⟩
def RX7 : String := "LowNumber$Witness"
def TX7 : u_T := fun k => match k with
  | 0 => ("LowNumber$Witness", "fitting", "I", false)
  | 1 => ("LowNumber$Witness", "takenInAll", "I", false)
  | _ => ("LowNumber$Witness", "counts", "[[I", true)
def tyX7 : Nat → FieldType := fun k => match k with
  | 0 => .int
  | 1 => .int
  | _ => .array (.array .int)
abbrev wsX70 : List Cond := u_ws RX7 TX7 3
theorem nmX7 : ∀ a, a < 3 → ∀ b, b < 3 → a ≠ b → (TX7 a).2.1 ≠ (TX7 b).2.1 := by decide +kernel
theorem tyX7_ok : ∀ k, k < 3 → parseFieldDescriptor (TX7 k).2.2.1 = some (tyX7 k) := by decide +kernel
abbrev cX7_init : ByteArray := prog_9_method_1_code
def yX7_init : MethodName := ⟨RX7, "<init>", "()V"⟩
abbrev cX7_look : ByteArray := prog_9_method_2_code
def yX7_look : MethodName := ⟨RX7, "look", "(LLowNumber$Draft;LLowNumber$Cases;)V"⟩
abbrev cX7_clear : ByteArray := prog_9_method_3_code
def yX7_clear : MethodName := ⟨RX7, "clear", "()V"⟩
abbrev cX7_fits : ByteArray := prog_9_method_4_code
def yX7_fits : MethodName := ⟨RX7, "fits", "(LLowNumber$Draft;LLowNumber$Cases;I)Z"⟩
abbrev cX7_couldBe : ByteArray := prog_9_method_5_code
def yX7_couldBe : MethodName := ⟨RX7, "couldBe", "(II)I"⟩
abbrev cX7_mustBe : ByteArray := prog_9_method_6_code
def yX7_mustBe : MethodName := ⟨RX7, "mustBe", "(II)I"⟩
abbrev cX7_mostLeft : ByteArray := prog_9_method_7_code
def yX7_mostLeft : MethodName := ⟨RX7, "mostLeft", "(II)I"⟩
abbrev cX7_best : ByteArray := prog_9_method_8_code
def yX7_best : MethodName := ⟨RX7, "best", "(LLowNumber$Draft;)I"⟩
def RX8 : String := "LowNumber"
def TX8 : u_T := fun k => match k with
  | 0 => ("LowNumber", "tape", "LLowNumber$Tape;", true)
  | 1 => ("LowNumber", "trouble", "I", false)
  | 2 => ("LowNumber", "drafted", "Z", false)
  | 3 => ("LowNumber", "draft", "LLowNumber$Draft;", false)
  | 4 => ("LowNumber", "unread", "LLowNumber$Draft;", false)
  | 5 => ("LowNumber", "now", "LLowNumber$Now;", true)
  | 6 => ("LowNumber", "trialNow", "LLowNumber$Now;", true)
  | 7 => ("LowNumber", "kept", "LLowNumber$Kept;", true)
  | 8 => ("LowNumber", "levy", "LLowNumber$Levy;", true)
  | 9 => ("LowNumber", "lots", "[I", true)
  | 10 => ("LowNumber", "cases", "LLowNumber$Cases;", true)
  | 11 => ("LowNumber", "trial", "LLowNumber$Cases;", true)
  | 12 => ("LowNumber", "stale", "Z", false)
  | 13 => ("LowNumber", "laws", "LLowNumber$Laws;", true)
  | _ => ("LowNumber", "witness", "LLowNumber$Witness;", true)
def tyX8 : Nat → FieldType := fun k => match k with
  | 0 => .object "LowNumber$Tape"
  | 1 => .int
  | 2 => .boolean
  | 3 => .object "LowNumber$Draft"
  | 4 => .object "LowNumber$Draft"
  | 5 => .object "LowNumber$Now"
  | 6 => .object "LowNumber$Now"
  | 7 => .object "LowNumber$Kept"
  | 8 => .object "LowNumber$Levy"
  | 9 => .array .int
  | 10 => .object "LowNumber$Cases"
  | 11 => .object "LowNumber$Cases"
  | 12 => .boolean
  | 13 => .object "LowNumber$Laws"
  | _ => .object "LowNumber$Witness"
abbrev wsX80 : List Cond := u_ws RX8 TX8 15
theorem nmX8 : ∀ a, a < 15 → ∀ b, b < 15 → a ≠ b → (TX8 a).2.1 ≠ (TX8 b).2.1 := by decide +kernel
theorem tyX8_ok : ∀ k, k < 15 → parseFieldDescriptor (TX8 k).2.2.1 = some (tyX8 k) := by decide +kernel
abbrev cX8_init : ByteArray := prog_1_method_1_code
def yX8_init : MethodName := ⟨RX8, "<init>", "()V"⟩
abbrev cX8_feed : ByteArray := prog_1_method_2_code
def yX8_feed : MethodName := ⟨RX8, "feed", "(IIIII)I"⟩
abbrev cX8_draft : ByteArray := prog_1_method_3_code
def yX8_draft : MethodName := ⟨RX8, "draft", "(I)I"⟩
abbrev cX8_fault : ByteArray := prog_1_method_4_code
def yX8_fault : MethodName := ⟨RX8, "fault", "()I"⟩
abbrev cX8_where : ByteArray := prog_1_method_5_code
def yX8_where : MethodName := ⟨RX8, "where", "()I"⟩
abbrev cX8_man : ByteArray := prog_1_method_6_code
def yX8_man : MethodName := ⟨RX8, "man", "(II)I"⟩
abbrev cX8_spared : ByteArray := prog_1_method_7_code
def yX8_spared : MethodName := ⟨RX8, "spared", "()I"⟩
abbrev cX8_many : ByteArray := prog_1_method_8_code
def yX8_many : MethodName := ⟨RX8, "many", "(I)I"⟩
abbrev cX8_wouldGo : ByteArray := prog_1_method_9_code
def yX8_wouldGo : MethodName := ⟨RX8, "wouldGo", "(I)I"⟩
abbrev cX8_takenBy : ByteArray := prog_1_method_10_code
def yX8_takenBy : MethodName := ⟨RX8, "takenBy", "(I)I"⟩
abbrev cX8_goesBy : ByteArray := prog_1_method_11_code
def yX8_goesBy : MethodName := ⟨RX8, "goesBy", "(I)I"⟩
abbrev cX8_sendsBy : ByteArray := prog_1_method_12_code
def yX8_sendsBy : MethodName := ⟨RX8, "sendsBy", "(II)I"⟩
abbrev cX8_lossBy : ByteArray := prog_1_method_13_code
def yX8_lossBy : MethodName := ⟨RX8, "lossBy", "(II)I"⟩
abbrev cX8_firstTaken : ByteArray := prog_1_method_14_code
def yX8_firstTaken : MethodName := ⟨RX8, "firstTaken", "(I)I"⟩
abbrev cX8_levyBy : ByteArray := prog_1_method_15_code
def yX8_levyBy : MethodName := ⟨RX8, "levyBy", "(I)I"⟩
abbrev cX8_readRow : ByteArray := prog_1_method_16_code
def yX8_readRow : MethodName := ⟨RX8, "readRow", "(I)Z"⟩
abbrev cX8_taken : ByteArray := prog_1_method_17_code
def yX8_taken : MethodName := ⟨RX8, "taken", "(IZ)J"⟩
abbrev cX8_goes : ByteArray := prog_1_method_18_code
def yX8_goes : MethodName := ⟨RX8, "goes", "(IZ)J"⟩
abbrev cX8_goesFor : ByteArray := prog_1_method_19_code
def yX8_goesFor : MethodName := ⟨RX8, "goesFor", "(IIZ)J"⟩
abbrev cX8_loss : ByteArray := prog_1_method_20_code
def yX8_loss : MethodName := ⟨RX8, "loss", "(IZ)J"⟩
abbrev cX8_club : ByteArray := prog_1_method_21_code
def yX8_club : MethodName := ⟨RX8, "club", "(IZ)J"⟩
abbrev cX8_ruin : ByteArray := prog_1_method_22_code
def yX8_ruin : MethodName := ⟨RX8, "ruin", "(IIZ)J"⟩
abbrev cX8_toJoin : ByteArray := prog_1_method_23_code
def yX8_toJoin : MethodName := ⟨RX8, "toJoin", "(I)I"⟩
abbrev cX8_shortOf : ByteArray := prog_1_method_24_code
def yX8_shortOf : MethodName := ⟨RX8, "shortOf", "(Z)J"⟩
abbrev cX8_ifMarried : ByteArray := prog_1_method_25_code
def yX8_ifMarried : MethodName := ⟨RX8, "ifMarried", "(IZ)J"⟩
abbrev cX8_harm : ByteArray := prog_1_method_26_code
def yX8_harm : MethodName := ⟨RX8, "harm", "(IZ)J"⟩
abbrev cX8_fills : ByteArray := prog_1_method_27_code
def yX8_fills : MethodName := ⟨RX8, "fills", "(I)I"⟩
abbrev cX8_bestLaw : ByteArray := prog_1_method_28_code
def yX8_bestLaw : MethodName := ⟨RX8, "bestLaw", "()I"⟩
abbrev cX8_toSpare : ByteArray := prog_1_method_29_code
def yX8_toSpare : MethodName := ⟨RX8, "toSpare", "()I"⟩
abbrev cX8_learn : ByteArray := prog_1_method_30_code
def yX8_learn : MethodName := ⟨RX8, "learn", "(I)V"⟩
abbrev cX8_rows : ByteArray := prog_1_method_31_code
def yX8_rows : MethodName := ⟨RX8, "rows", "()I"⟩
abbrev cX8_could : ByteArray := prog_1_method_32_code
def yX8_could : MethodName := ⟨RX8, "could", "(I)I"⟩
abbrev cX8_surely : ByteArray := prog_1_method_33_code
def yX8_surely : MethodName := ⟨RX8, "surely", "(I)I"⟩
abbrev cX8_ask : ByteArray := prog_1_method_34_code
def yX8_ask : MethodName := ⟨RX8, "ask", "()I"⟩
abbrev cX8_askLeaves : ByteArray := prog_1_method_35_code
def yX8_askLeaves : MethodName := ⟨RX8, "askLeaves", "()I"⟩
abbrev cX8_surelyTaken : ByteArray := prog_1_method_36_code
def yX8_surelyTaken : MethodName := ⟨RX8, "surelyTaken", "()I"⟩
abbrev cX8_look : ByteArray := prog_1_method_37_code
def yX8_look : MethodName := ⟨RX8, "look", "()LLowNumber$Witness;"⟩
abbrev cX8_believed : ByteArray := prog_1_method_38_code
def yX8_believed : MethodName := ⟨RX8, "believed", "(ZZ)J"⟩
abbrev cX8_wrong : ByteArray := prog_1_method_39_code
def yX8_wrong : MethodName := ⟨RX8, "wrong", "(Z)J"⟩
abbrev cX8_agent : ByteArray := prog_1_method_40_code
def yX8_agent : MethodName := ⟨RX8, "agent", "(IIIZ)I"⟩
abbrev cX8_rests : ByteArray := prog_1_method_41_code
def yX8_rests : MethodName := ⟨RX8, "rests", "(I)I"⟩
abbrev cX8_rest : ByteArray := prog_1_method_42_code
def yX8_rest : MethodName := ⟨RX8, "rest", "(I)I"⟩
abbrev cX8_isRest : ByteArray := prog_1_method_43_code
def yX8_isRest : MethodName := ⟨RX8, "isRest", "(III)Z"⟩
abbrev cX8_isBestReply : ByteArray := prog_1_method_44_code
def yX8_isBestReply : MethodName := ⟨RX8, "isBestReply", "(III)Z"⟩
abbrev cX8_gain : ByteArray := prog_1_method_45_code
def yX8_gain : MethodName := ⟨RX8, "gain", "(III)I"⟩
abbrev cX8_drafts : ByteArray := prog_1_method_46_code
def yX8_drafts : MethodName := ⟨RX8, "drafts", "(III)I"⟩
abbrev cX8_sentIn : ByteArray := prog_1_method_47_code
def yX8_sentIn : MethodName := ⟨RX8, "sentIn", "(III)I"⟩
abbrev cX8_countDraws : ByteArray := prog_1_method_48_code
def yX8_countDraws : MethodName := ⟨RX8, "countDraws", "(IIIZ)I"⟩
abbrev cX8_lossIn : ByteArray := prog_1_method_49_code
def yX8_lossIn : MethodName := ⟨RX8, "lossIn", "(II)I"⟩
abbrev cX8_levyByDraws : ByteArray := prog_1_method_50_code
def yX8_levyByDraws : MethodName := ⟨RX8, "levyByDraws", "(I)I"⟩
abbrev cX8_marry : ByteArray := prog_1_method_51_code
def yX8_marry : MethodName := ⟨RX8, "marry", "(I)Z"⟩
abbrev cX8_spare : ByteArray := prog_1_method_52_code
def yX8_spare : MethodName := ⟨RX8, "spare", "(IZ)Z"⟩
abbrev cX8_hold : ByteArray := prog_1_method_53_code
def yX8_hold : MethodName := ⟨RX8, "hold", "()I"⟩
abbrev cX8_desert : ByteArray := prog_1_method_54_code
def yX8_desert : MethodName := ⟨RX8, "desert", "(I)I"⟩
abbrev cX8_fate : ByteArray := prog_1_method_55_code
def yX8_fate : MethodName := ⟨RX8, "fate", "(I)I"⟩
abbrev cX8_senderOf : ByteArray := prog_1_method_56_code
def yX8_senderOf : MethodName := ⟨RX8, "senderOf", "(I)I"⟩
abbrev cX8_lot : ByteArray := prog_1_method_57_code
def yX8_lot : MethodName := ⟨RX8, "lot", "(I)I"⟩
abbrev cX8_seed : ByteArray := prog_1_method_58_code
def yX8_seed : MethodName := ⟨RX8, "seed", "(I)Z"⟩
abbrev cX8_undo : ByteArray := prog_1_method_59_code
def yX8_undo : MethodName := ⟨RX8, "undo", "()Z"⟩
abbrev cX8_image : ByteArray := prog_1_method_60_code
def yX8_image : MethodName := ⟨RX8, "image", "()I"⟩
abbrev cX8_back : ByteArray := prog_1_method_61_code
def yX8_back : MethodName := ⟨RX8, "back", "(I)Z"⟩
abbrev cX8_led : ByteArray := prog_1_method_62_code
def yX8_led : MethodName := ⟨RX8, "led", "(I)I"⟩
abbrev cX8_size : ByteArray := prog_1_method_63_code
def yX8_size : MethodName := ⟨RX8, "size", "(I)I"⟩
abbrev cX8_sizeOfDraft : ByteArray := prog_1_method_64_code
def yX8_sizeOfDraft : MethodName := ⟨RX8, "sizeOfDraft", "(I)I"⟩
abbrev cX8_trouble : ByteArray := prog_1_method_65_code
def yX8_trouble : MethodName := ⟨RX8, "trouble", "()I"⟩
abbrev cX8_refuse : ByteArray := prog_1_method_66_code
def yX8_refuse : MethodName := ⟨RX8, "refuse", "(I)I"⟩
abbrev cX8_answer : ByteArray := prog_1_method_67_code
def yX8_answer : MethodName := ⟨RX8, "answer", "(I)I"⟩
abbrev cX8_deny : ByteArray := prog_1_method_68_code
def yX8_deny : MethodName := ⟨RX8, "deny", "(I)Z"⟩
abbrev cX8_grant : ByteArray := prog_1_method_69_code
def yX8_grant : MethodName := ⟨RX8, "grant", "()Z"⟩
abbrev cX8_isMan : ByteArray := prog_1_method_70_code
def yX8_isMan : MethodName := ⟨RX8, "isMan", "(I)Z"⟩
abbrev cX8_isClub : ByteArray := prog_1_method_71_code
def yX8_isClub : MethodName := ⟨RX8, "isClub", "(I)Z"⟩
abbrev cX8_isTold : ByteArray := prog_1_method_72_code
def yX8_isTold : MethodName := ⟨RX8, "isTold", "(I)Z"⟩
abbrev cX8_allMen : ByteArray := prog_1_method_73_code
def yX8_allMen : MethodName := ⟨RX8, "allMen", "()I"⟩
abbrev cX8_isSort : ByteArray := prog_1_method_74_code
def yX8_isSort : MethodName := ⟨RX8, "isSort", "(I)Z"⟩
abbrev cX8_isLaw : ByteArray := prog_1_method_75_code
def yX8_isLaw : MethodName := ⟨RX8, "isLaw", "(I)Z"⟩
abbrev cX8_isBuyers : ByteArray := prog_1_method_76_code
def yX8_isBuyers : MethodName := ⟨RX8, "isBuyers", "(I)Z"⟩
abbrev cX8_isSeed : ByteArray := prog_1_method_77_code
def yX8_isSeed : MethodName := ⟨RX8, "isSeed", "(I)Z"⟩
abbrev cX8_isDrafts : ByteArray := prog_1_method_78_code
def yX8_isDrafts : MethodName := ⟨RX8, "isDrafts", "(I)Z"⟩
abbrev cX8_changed : ByteArray := prog_1_method_79_code
def yX8_changed : MethodName := ⟨RX8, "changed", "()V"⟩
abbrev cX8_table : ByteArray := prog_1_method_80_code
def yX8_table : MethodName := ⟨RX8, "table", "()LLowNumber$Cases;"⟩
abbrev cX8_odds : ByteArray := prog_1_method_81_code
def yX8_odds : MethodName := ⟨RX8, "odds", "(JZ)J"⟩
abbrev cX8_part : ByteArray := prog_1_method_82_code
def yX8_part : MethodName := ⟨RX8, "part", "(JJZ)J"⟩
abbrev cX8_commonDivisor : ByteArray := prog_1_method_83_code
def yX8_commonDivisor : MethodName := ⟨RX8, "commonDivisor", "(JJ)J"⟩
abbrev cX8_goers : ByteArray := prog_1_method_84_code
def yX8_goers : MethodName := ⟨RX8, "goers", "(I[I)I"⟩
abbrev cX8_byNumbers : ByteArray := prog_1_method_85_code
def yX8_byNumbers : MethodName := ⟨RX8, "byNumbers", "([II)V"⟩
abbrev cX8_numberOf : ByteArray := prog_1_method_86_code
def yX8_numberOf : MethodName := ⟨RX8, "numberOf", "([II)I"⟩
abbrev cX8_swap : ByteArray := prog_1_method_87_code
def yX8_swap : MethodName := ⟨RX8, "swap", "([III)V"⟩
abbrev cX8_turn : ByteArray := prog_1_method_88_code
def yX8_turn : MethodName := ⟨RX8, "turn", "([III)V"⟩
abbrev cX8_nextRow : ByteArray := prog_1_method_89_code
def yX8_nextRow : MethodName := ⟨RX8, "nextRow", "([III)Z"⟩
def RX9 : String := "LowNumberModel$Draft"
def TX9 : u_T := fun k => match k with
  | 0 => ("LowNumberModel$Draft", "takes", "I", false)
  | 1 => ("LowNumberModel$Draft", "men", "I", false)
  | 2 => ("LowNumberModel$Draft", "kins", "I", false)
  | 3 => ("LowNumberModel$Draft", "went", "I", false)
  | 4 => ("LowNumberModel$Draft", "spares", "I", false)
  | 5 => ("LowNumberModel$Draft", "hits", "I", false)
  | 6 => ("LowNumberModel$Draft", "errs", "I", false)
  | 7 => ("LowNumberModel$Draft", "share", "I", false)
  | 8 => ("LowNumberModel$Draft", "sort", "[I", true)
  | 9 => ("LowNumberModel$Draft", "worth", "[I", true)
  | 10 => ("LowNumberModel$Draft", "coins", "[I", true)
  | 11 => ("LowNumberModel$Draft", "asks", "[I", true)
  | 12 => ("LowNumberModel$Draft", "kin", "[I", true)
  | 13 => ("LowNumberModel$Draft", "name", "[J", true)
  | _ => ("LowNumberModel$Draft", "gone", "[I", true)
def tyX9 : Nat → FieldType := fun k => match k with
  | 0 => .int
  | 1 => .int
  | 2 => .int
  | 3 => .int
  | 4 => .int
  | 5 => .int
  | 6 => .int
  | 7 => .int
  | 8 => .array .int
  | 9 => .array .int
  | 10 => .array .int
  | 11 => .array .int
  | 12 => .array .int
  | 13 => .array .long
  | _ => .array .int
abbrev wsX90 : List Cond := u_ws RX9 TX9 15
theorem nmX9 : ∀ a, a < 15 → ∀ b, b < 15 → a ≠ b → (TX9 a).2.1 ≠ (TX9 b).2.1 := by decide +kernel
theorem tyX9_ok : ∀ k, k < 15 → parseFieldDescriptor (TX9 k).2.2.1 = some (tyX9 k) := by decide +kernel
abbrev cX9_init : ByteArray := prog_12_method_1_code
def yX9_init : MethodName := ⟨RX9, "<init>", "()V"⟩
abbrev cX9_find : ByteArray := prog_12_method_2_code
def yX9_find : MethodName := ⟨RX9, "find", "(J)I"⟩
abbrev cX9_hasGone : ByteArray := prog_12_method_3_code
def yX9_hasGone : MethodName := ⟨RX9, "hasGone", "(I)Z"⟩
def RX10 : String := "LowNumberModel"
def TX10 : u_T := fun k => match k with
  | 0 => ("LowNumberModel", "thrown", "I", false)
  | 1 => ("LowNumberModel", "trouble", "I", false)
  | 2 => ("LowNumberModel", "where", "I", false)
  | 3 => ("LowNumberModel", "draft", "LLowNumberModel$Draft;", false)
  | 4 => ("LowNumberModel", "read", "LLowNumberModel$Draft;", false)
  | 5 => ("LowNumberModel", "tape", "[B", true)
  | 6 => ("LowNumberModel", "taped", "I", false)
  | 7 => ("LowNumberModel", "size", "I", false)
  | 8 => ("LowNumberModel", "spot", "I", false)
  | 9 => ("LowNumberModel", "sort", "I", false)
  | 10 => ("LowNumberModel", "place", "I", false)
  | 11 => ("LowNumberModel", "number", "I", false)
  | 12 => ("LowNumberModel", "fault", "I", false)
  | 13 => ("LowNumberModel", "wrongAt", "I", false)
  | 14 => ("LowNumberModel", "word", "J", false)
  | 15 => ("LowNumberModel", "v", "[I", true)
  | 16 => ("LowNumberModel", "past", "[I", true)
  | 17 => ("LowNumberModel", "kept", "[I", true)
  | 18 => ("LowNumberModel", "acts", "I", false)
  | 19 => ("LowNumberModel", "images", "I", false)
  | 20 => ("LowNumberModel", "row", "[I", true)
  | 21 => ("LowNumberModel", "sorts", "[I", true)
  | 22 => ("LowNumberModel", "sends", "[I", true)
  | 23 => ("LowNumberModel", "sentFor", "[I", true)
  | 24 => ("LowNumberModel", "lawNow", "I", false)
  | 25 => ("LowNumberModel", "takenNow", "I", false)
  | 26 => ("LowNumberModel", "sentNow", "I", false)
  | 27 => ("LowNumberModel", "takes", "[J", true)
  | 28 => ("LowNumberModel", "goes", "[J", true)
  | 29 => ("LowNumberModel", "loses", "[J", true)
  | 30 => ("LowNumberModel", "goesFor", "[J", true)
  | 31 => ("LowNumberModel", "shorts", "J", false)
  | 32 => ("LowNumberModel", "ruins", "J", false)
  | 33 => ("LowNumberModel", "counts", "[I", true)
  | 34 => ("LowNumberModel", "rowsNow", "I", false)
  | 35 => ("LowNumberModel", "alwaysTaken", "I", false)
  | 36 => ("LowNumberModel", "askLeft", "I", false)
  | _ => ("LowNumberModel", "seedThen", "I", false)
def tyX10 : Nat → FieldType := fun k => match k with
  | 0 => .int
  | 1 => .int
  | 2 => .int
  | 3 => .object "LowNumberModel$Draft"
  | 4 => .object "LowNumberModel$Draft"
  | 5 => .array .byte
  | 6 => .int
  | 7 => .int
  | 8 => .int
  | 9 => .int
  | 10 => .int
  | 11 => .int
  | 12 => .int
  | 13 => .int
  | 14 => .long
  | 15 => .array .int
  | 16 => .array .int
  | 17 => .array .int
  | 18 => .int
  | 19 => .int
  | 20 => .array .int
  | 21 => .array .int
  | 22 => .array .int
  | 23 => .array .int
  | 24 => .int
  | 25 => .int
  | 26 => .int
  | 27 => .array .long
  | 28 => .array .long
  | 29 => .array .long
  | 30 => .array .long
  | 31 => .long
  | 32 => .long
  | 33 => .array .int
  | 34 => .int
  | 35 => .int
  | 36 => .int
  | _ => .int
abbrev wsX100 : List Cond := u_ws RX10 TX10 38
theorem nmX10 : ∀ a, a < 38 → ∀ b, b < 38 → a ≠ b → (TX10 a).2.1 ≠ (TX10 b).2.1 := by decide +kernel
theorem tyX10_ok : ∀ k, k < 38 → parseFieldDescriptor (TX10 k).2.2.1 = some (tyX10 k) := by decide +kernel
abbrev cX10_init : ByteArray := prog_11_method_1_code
def yX10_init : MethodName := ⟨RX10, "<init>", "()V"⟩
abbrev cX10_thrown : ByteArray := prog_11_method_2_code
def yX10_thrown : MethodName := ⟨RX10, "thrown", "()I"⟩
abbrev cX10_refused : ByteArray := prog_11_method_3_code
def yX10_refused : MethodName := ⟨RX10, "refused", "(I)I"⟩
abbrev cX10_lost : ByteArray := prog_11_method_4_code
def yX10_lost : MethodName := ⟨RX10, "lost", "(I)I"⟩
abbrev cX10_denied : ByteArray := prog_11_method_5_code
def yX10_denied : MethodName := ⟨RX10, "denied", "(I)Z"⟩
abbrev cX10_good : ByteArray := prog_11_method_6_code
def yX10_good : MethodName := ⟨RX10, "good", "(I)I"⟩
abbrev cX10_granted : ByteArray := prog_11_method_7_code
def yX10_granted : MethodName := ⟨RX10, "granted", "()Z"⟩
abbrev cX10_in : ByteArray := prog_11_method_8_code
def yX10_in : MethodName := ⟨RX10, "in", "(III)Z"⟩
abbrev cX10_bit : ByteArray := prog_11_method_9_code
def yX10_bit : MethodName := ⟨RX10, "bit", "(II)Z"⟩
abbrev cX10_bits : ByteArray := prog_11_method_10_code
def yX10_bits : MethodName := ⟨RX10, "bits", "(I)I"⟩
abbrev cX10_common : ByteArray := prog_11_method_11_code
def yX10_common : MethodName := ⟨RX10, "common", "(JJ)J"⟩
abbrev cX10_fraction : ByteArray := prog_11_method_12_code
def yX10_fraction : MethodName := ⟨RX10, "fraction", "(JJZ)J"⟩
abbrev cX10_byteAt : ByteArray := prog_11_method_13_code
def yX10_byteAt : MethodName := ⟨RX10, "byteAt", "(I)I"⟩
abbrev cX10_isLetter : ByteArray := prog_11_method_14_code
def yX10_isLetter : MethodName := ⟨RX10, "isLetter", "(I)Z"⟩
abbrev cX10_isDigit : ByteArray := prog_11_method_15_code
def yX10_isDigit : MethodName := ⟨RX10, "isDigit", "(I)Z"⟩
abbrev cX10_packed : ByteArray := prog_11_method_16_code
def yX10_packed : MethodName := ⟨RX10, "packed", "(Ljava/lang/String;)J"⟩
abbrev cX10_goesOn : ByteArray := prog_11_method_17_code
def yX10_goesOn : MethodName := ⟨RX10, "goesOn", "()V"⟩
abbrev cX10_flaw : ByteArray := prog_11_method_18_code
def yX10_flaw : MethodName := ⟨RX10, "flaw", "(I)V"⟩
abbrev cX10_isWord : ByteArray := prog_11_method_19_code
def yX10_isWord : MethodName := ⟨RX10, "isWord", "(Ljava/lang/String;)Z"⟩
abbrev cX10_eatsSemicolon : ByteArray := prog_11_method_20_code
def yX10_eatsSemicolon : MethodName := ⟨RX10, "eatsSemicolon", "()Z"⟩
abbrev cX10_needs : ByteArray := prog_11_method_21_code
def yX10_needs : MethodName := ⟨RX10, "needs", "(Ljava/lang/String;)V"⟩
abbrev cX10_readWhole : ByteArray := prog_11_method_22_code
def yX10_readWhole : MethodName := ⟨RX10, "readWhole", "(II)I"⟩
abbrev cX10_readPart : ByteArray := prog_11_method_23_code
def yX10_readPart : MethodName := ⟨RX10, "readPart", "(Ljava/lang/String;II)I"⟩
abbrev cX10_isName : ByteArray := prog_11_method_24_code
def yX10_isName : MethodName := ⟨RX10, "isName", "()Z"⟩
abbrev cX10_lineBegins : ByteArray := prog_11_method_25_code
def yX10_lineBegins : MethodName := ⟨RX10, "lineBegins", "(II)V"⟩
abbrev cX10_knownMan : ByteArray := prog_11_method_26_code
def yX10_knownMan : MethodName := ⟨RX10, "knownMan", "()I"⟩
abbrev cX10_sortAtHand : ByteArray := prog_11_method_27_code
def yX10_sortAtHand : MethodName := ⟨RX10, "sortAtHand", "()I"⟩
abbrev cX10_readAll : ByteArray := prog_11_method_28_code
def yX10_readAll : MethodName := ⟨RX10, "readAll", "()V"⟩
abbrev cX10_readLine : ByteArray := prog_11_method_29_code
def yX10_readLine : MethodName := ⟨RX10, "readLine", "()V"⟩
abbrev cX10_readDraft : ByteArray := prog_11_method_30_code
def yX10_readDraft : MethodName := ⟨RX10, "readDraft", "()V"⟩
abbrev cX10_readMan : ByteArray := prog_11_method_31_code
def yX10_readMan : MethodName := ⟨RX10, "readMan", "()V"⟩
abbrev cX10_readKin : ByteArray := prog_11_method_32_code
def yX10_readKin : MethodName := ⟨RX10, "readKin", "()V"⟩
abbrev cX10_readSpares : ByteArray := prog_11_method_33_code
def yX10_readSpares : MethodName := ⟨RX10, "readSpares", "()V"⟩
abbrev cX10_readDoctor : ByteArray := prog_11_method_34_code
def yX10_readDoctor : MethodName := ⟨RX10, "readDoctor", "()V"⟩
abbrev cX10_readWent : ByteArray := prog_11_method_35_code
def yX10_readWent : MethodName := ⟨RX10, "readWent", "()V"⟩
abbrev cX10_feed : ByteArray := prog_11_method_36_code
def yX10_feed : MethodName := ⟨RX10, "feed", "(IIIII)I"⟩
abbrev cX10_draft : ByteArray := prog_11_method_37_code
def yX10_draft : MethodName := ⟨RX10, "draft", "(I)I"⟩
abbrev cX10_fault : ByteArray := prog_11_method_38_code
def yX10_fault : MethodName := ⟨RX10, "fault", "()I"⟩
abbrev cX10_where : ByteArray := prog_11_method_39_code
def yX10_where : MethodName := ⟨RX10, "where", "()I"⟩
abbrev cX10_isMan : ByteArray := prog_11_method_40_code
def yX10_isMan : MethodName := ⟨RX10, "isMan", "(I)Z"⟩
abbrev cX10_everybody : ByteArray := prog_11_method_41_code
def yX10_everybody : MethodName := ⟨RX10, "everybody", "()I"⟩
abbrev cX10_asNow : ByteArray := prog_11_method_42_code
def yX10_asNow : MethodName := ⟨RX10, "asNow", "()V"⟩
abbrev cX10_cheapest : ByteArray := prog_11_method_43_code
def yX10_cheapest : MethodName := ⟨RX10, "cheapest", "(II)I"⟩
abbrev cX10_plays : ByteArray := prog_11_method_44_code
def yX10_plays : MethodName := ⟨RX10, "plays", "()V"⟩
abbrev cX10_lossOf : ByteArray := prog_11_method_45_code
def yX10_lossOf : MethodName := ⟨RX10, "lossOf", "(I)I"⟩
abbrev cX10_going : ByteArray := prog_11_method_46_code
def yX10_going : MethodName := ⟨RX10, "going", "()I"⟩
abbrev cX10_lossOfAll : ByteArray := prog_11_method_47_code
def yX10_lossOfAll : MethodName := ⟨RX10, "lossOfAll", "(I)I"⟩
abbrev cX10_firstRow : ByteArray := prog_11_method_48_code
def yX10_firstRow : MethodName := ⟨RX10, "firstRow", "()V"⟩
abbrev cX10_nextRow : ByteArray := prog_11_method_49_code
def yX10_nextRow : MethodName := ⟨RX10, "nextRow", "()Z"⟩
abbrev cX10_swaps : ByteArray := prog_11_method_50_code
def yX10_swaps : MethodName := ⟨RX10, "swaps", "(II)V"⟩
abbrev cX10_allRows : ByteArray := prog_11_method_51_code
def yX10_allRows : MethodName := ⟨RX10, "allRows", "()I"⟩
abbrev cX10_codeOfRow : ByteArray := prog_11_method_52_code
def yX10_codeOfRow : MethodName := ⟨RX10, "codeOfRow", "()I"⟩
abbrev cX10_lays : ByteArray := prog_11_method_53_code
def yX10_lays : MethodName := ⟨RX10, "lays", "(I)Z"⟩
abbrev cX10_odds : ByteArray := prog_11_method_54_code
def yX10_odds : MethodName := ⟨RX10, "odds", "(II)V"⟩
abbrev cX10_lossesOf : ByteArray := prog_11_method_55_code
def yX10_lossesOf : MethodName := ⟨RX10, "lossesOf", "(I)J"⟩
abbrev cX10_man : ByteArray := prog_11_method_56_code
def yX10_man : MethodName := ⟨RX10, "man", "(II)I"⟩
abbrev cX10_spared : ByteArray := prog_11_method_57_code
def yX10_spared : MethodName := ⟨RX10, "spared", "()I"⟩
abbrev cX10_many : ByteArray := prog_11_method_58_code
def yX10_many : MethodName := ⟨RX10, "many", "(I)I"⟩
abbrev cX10_wouldGo : ByteArray := prog_11_method_59_code
def yX10_wouldGo : MethodName := ⟨RX10, "wouldGo", "(I)I"⟩
abbrev cX10_refusesRow : ByteArray := prog_11_method_60_code
def yX10_refusesRow : MethodName := ⟨RX10, "refusesRow", "(ZI)I"⟩
abbrev cX10_playsNow : ByteArray := prog_11_method_61_code
def yX10_playsNow : MethodName := ⟨RX10, "playsNow", "()V"⟩
abbrev cX10_takenBy : ByteArray := prog_11_method_62_code
def yX10_takenBy : MethodName := ⟨RX10, "takenBy", "(I)I"⟩
abbrev cX10_goesBy : ByteArray := prog_11_method_63_code
def yX10_goesBy : MethodName := ⟨RX10, "goesBy", "(I)I"⟩
abbrev cX10_sendsBy : ByteArray := prog_11_method_64_code
def yX10_sendsBy : MethodName := ⟨RX10, "sendsBy", "(II)I"⟩
abbrev cX10_lossBy : ByteArray := prog_11_method_65_code
def yX10_lossBy : MethodName := ⟨RX10, "lossBy", "(II)I"⟩
abbrev cX10_firstTaken : ByteArray := prog_11_method_66_code
def yX10_firstTaken : MethodName := ⟨RX10, "firstTaken", "(I)I"⟩
abbrev cX10_oddsNow : ByteArray := prog_11_method_67_code
def yX10_oddsNow : MethodName := ⟨RX10, "oddsNow", "()V"⟩
abbrev cX10_taken : ByteArray := prog_11_method_68_code
def yX10_taken : MethodName := ⟨RX10, "taken", "(IZ)J"⟩
abbrev cX10_goes : ByteArray := prog_11_method_69_code
def yX10_goes : MethodName := ⟨RX10, "goes", "(IZ)J"⟩
abbrev cX10_goesFor : ByteArray := prog_11_method_70_code
def yX10_goesFor : MethodName := ⟨RX10, "goesFor", "(IIZ)J"⟩
abbrev cX10_loss : ByteArray := prog_11_method_71_code
def yX10_loss : MethodName := ⟨RX10, "loss", "(IZ)J"⟩
abbrev cX10_isClub : ByteArray := prog_11_method_72_code
def yX10_isClub : MethodName := ⟨RX10, "isClub", "(II)Z"⟩
abbrev cX10_club : ByteArray := prog_11_method_73_code
def yX10_club : MethodName := ⟨RX10, "club", "(IZ)J"⟩
abbrev cX10_ruin : ByteArray := prog_11_method_74_code
def yX10_ruin : MethodName := ⟨RX10, "ruin", "(IIZ)J"⟩
abbrev cX10_toJoin : ByteArray := prog_11_method_75_code
def yX10_toJoin : MethodName := ⟨RX10, "toJoin", "(I)I"⟩
abbrev cX10_shortOf : ByteArray := prog_11_method_76_code
def yX10_shortOf : MethodName := ⟨RX10, "shortOf", "(Z)J"⟩
abbrev cX10_ifMarried : ByteArray := prog_11_method_77_code
def yX10_ifMarried : MethodName := ⟨RX10, "ifMarried", "(IZ)J"⟩
abbrev cX10_byLaw : ByteArray := prog_11_method_78_code
def yX10_byLaw : MethodName := ⟨RX10, "byLaw", "(I)V"⟩
abbrev cX10_refusesLaw : ByteArray := prog_11_method_79_code
def yX10_refusesLaw : MethodName := ⟨RX10, "refusesLaw", "(I)I"⟩
abbrev cX10_harm : ByteArray := prog_11_method_80_code
def yX10_harm : MethodName := ⟨RX10, "harm", "(IZ)J"⟩
abbrev cX10_fills : ByteArray := prog_11_method_81_code
def yX10_fills : MethodName := ⟨RX10, "fills", "(I)I"⟩
abbrev cX10_bestLaw : ByteArray := prog_11_method_82_code
def yX10_bestLaw : MethodName := ⟨RX10, "bestLaw", "()I"⟩
abbrev cX10_toSpare : ByteArray := prog_11_method_83_code
def yX10_toSpare : MethodName := ⟨RX10, "toSpare", "()I"⟩
abbrev cX10_fitting : ByteArray := prog_11_method_84_code
def yX10_fitting : MethodName := ⟨RX10, "fitting", "()V"⟩
abbrev cX10_rows : ByteArray := prog_11_method_85_code
def yX10_rows : MethodName := ⟨RX10, "rows", "()I"⟩
abbrev cX10_isTold : ByteArray := prog_11_method_86_code
def yX10_isTold : MethodName := ⟨RX10, "isTold", "(I)Z"⟩
abbrev cX10_couldBe : ByteArray := prog_11_method_87_code
def yX10_couldBe : MethodName := ⟨RX10, "couldBe", "(I)I"⟩
abbrev cX10_could : ByteArray := prog_11_method_88_code
def yX10_could : MethodName := ⟨RX10, "could", "(I)I"⟩
abbrev cX10_surely : ByteArray := prog_11_method_89_code
def yX10_surely : MethodName := ⟨RX10, "surely", "(I)I"⟩
abbrev cX10_toAsk : ByteArray := prog_11_method_90_code
def yX10_toAsk : MethodName := ⟨RX10, "toAsk", "()I"⟩
abbrev cX10_ask : ByteArray := prog_11_method_91_code
def yX10_ask : MethodName := ⟨RX10, "ask", "()I"⟩
abbrev cX10_askLeaves : ByteArray := prog_11_method_92_code
def yX10_askLeaves : MethodName := ⟨RX10, "askLeaves", "()I"⟩
abbrev cX10_surelyTaken : ByteArray := prog_11_method_93_code
def yX10_surelyTaken : MethodName := ⟨RX10, "surelyTaken", "()I"⟩
abbrev cX10_refusesDoctor : ByteArray := prog_11_method_94_code
def yX10_refusesDoctor : MethodName := ⟨RX10, "refusesDoctor", "()I"⟩
abbrev cX10_believed : ByteArray := prog_11_method_95_code
def yX10_believed : MethodName := ⟨RX10, "believed", "(ZZ)J"⟩
abbrev cX10_wrong : ByteArray := prog_11_method_96_code
def yX10_wrong : MethodName := ⟨RX10, "wrong", "(Z)J"⟩
abbrev cX10_least : ByteArray := prog_11_method_97_code
def yX10_least : MethodName := ⟨RX10, "least", "(II)I"⟩
abbrev cX10_gets : ByteArray := prog_11_method_98_code
def yX10_gets : MethodName := ⟨RX10, "gets", "(III)I"⟩
abbrev cX10_refusesMany : ByteArray := prog_11_method_99_code
def yX10_refusesMany : MethodName := ⟨RX10, "refusesMany", "(I)I"⟩
abbrev cX10_agent : ByteArray := prog_11_method_100_code
def yX10_agent : MethodName := ⟨RX10, "agent", "(IIIZ)I"⟩
abbrev cX10_isRest : ByteArray := prog_11_method_101_code
def yX10_isRest : MethodName := ⟨RX10, "isRest", "(III)Z"⟩
abbrev cX10_rests : ByteArray := prog_11_method_102_code
def yX10_rests : MethodName := ⟨RX10, "rests", "(I)I"⟩
abbrev cX10_rest : ByteArray := prog_11_method_103_code
def yX10_rest : MethodName := ⟨RX10, "rest", "(I)I"⟩
abbrev cX10_drawsRow : ByteArray := prog_11_method_104_code
def yX10_drawsRow : MethodName := ⟨RX10, "drawsRow", "()V"⟩
abbrev cX10_refusesDrafts : ByteArray := prog_11_method_105_code
def yX10_refusesDrafts : MethodName := ⟨RX10, "refusesDrafts", "(ZII)I"⟩
abbrev cX10_drafts : ByteArray := prog_11_method_106_code
def yX10_drafts : MethodName := ⟨RX10, "drafts", "(III)I"⟩
abbrev cX10_sentIn : ByteArray := prog_11_method_107_code
def yX10_sentIn : MethodName := ⟨RX10, "sentIn", "(III)I"⟩
abbrev cX10_lossIn : ByteArray := prog_11_method_108_code
def yX10_lossIn : MethodName := ⟨RX10, "lossIn", "(II)I"⟩
abbrev cX10_remembers : ByteArray := prog_11_method_109_code
def yX10_remembers : MethodName := ⟨RX10, "remembers", "()V"⟩
abbrev cX10_marry : ByteArray := prog_11_method_110_code
def yX10_marry : MethodName := ⟨RX10, "marry", "(I)Z"⟩
abbrev cX10_spare : ByteArray := prog_11_method_111_code
def yX10_spare : MethodName := ⟨RX10, "spare", "(IZ)Z"⟩
abbrev cX10_hold : ByteArray := prog_11_method_112_code
def yX10_hold : MethodName := ⟨RX10, "hold", "()I"⟩
abbrev cX10_desert : ByteArray := prog_11_method_113_code
def yX10_desert : MethodName := ⟨RX10, "desert", "(I)I"⟩
abbrev cX10_fateOf : ByteArray := prog_11_method_114_code
def yX10_fateOf : MethodName := ⟨RX10, "fateOf", "(I)I"⟩
abbrev cX10_fate : ByteArray := prog_11_method_115_code
def yX10_fate : MethodName := ⟨RX10, "fate", "(I)I"⟩
abbrev cX10_lot : ByteArray := prog_11_method_116_code
def yX10_lot : MethodName := ⟨RX10, "lot", "(I)I"⟩
abbrev cX10_seed : ByteArray := prog_11_method_117_code
def yX10_seed : MethodName := ⟨RX10, "seed", "(I)Z"⟩
abbrev cX10_undo : ByteArray := prog_11_method_118_code
def yX10_undo : MethodName := ⟨RX10, "undo", "()Z"⟩
abbrev cX10_image : ByteArray := prog_11_method_119_code
def yX10_image : MethodName := ⟨RX10, "image", "()I"⟩
abbrev cX10_back : ByteArray := prog_11_method_120_code
def yX10_back : MethodName := ⟨RX10, "back", "(I)Z"⟩
abbrev cX10_led : ByteArray := prog_11_method_121_code
def yX10_led : MethodName := ⟨RX10, "led", "(I)I"⟩
abbrev cX10_size : ByteArray := prog_11_method_122_code
def yX10_size : MethodName := ⟨RX10, "size", "(I)I"⟩
abbrev cX10_trouble : ByteArray := prog_11_method_123_code
def yX10_trouble : MethodName := ⟨RX10, "trouble", "()I"⟩
def RJ6 : String := "java/lang/Integer"
abbrev cJ6_bitCount_0f7a4 : ByteArray := prog_17_method_49_code
def yJ6_bitCount_0f7a4 : MethodName := ⟨RJ6, "bitCount", "(I)I"⟩
def RJ9 : String := "java/lang/Math"
abbrev cJ9_max_7cf53 : ByteArray := prog_18_method_65_code
def yJ9_max_7cf53 : MethodName := ⟨RJ9, "max", "(II)I"⟩
abbrev cJ9_min_7cf53 : ByteArray := prog_18_method_69_code
def yJ9_min_7cf53 : MethodName := ⟨RJ9, "min", "(II)I"⟩
def RJ0 : String := "java/lang/String"
abbrev cJ0_length_8abf5 : ByteArray := prog_20_method_54_code
def yJ0_length_8abf5 : MethodName := ⟨RJ0, "length", "()I"⟩
abbrev cJ0_charAt_5068e : ByteArray := prog_20_method_56_code
def yJ0_charAt_5068e : MethodName := ⟨RJ0, "charAt", "(I)C"⟩
abbrev cJ0_coder_7d493 : ByteArray := prog_20_method_152_code
def yJ0_coder_7d493 : MethodName := ⟨RJ0, "coder", "()B"⟩
abbrev cJ0_isLatin1_aae02 : ByteArray := prog_20_method_154_code
def yJ0_isLatin1_aae02 : MethodName := ⟨RJ0, "isLatin1", "()Z"⟩
abbrev cJ0_checkIndex_df160 : ByteArray := prog_20_method_155_code
def yJ0_checkIndex_df160 : MethodName := ⟨RJ0, "checkIndex", "(II)V"⟩
def RJ1 : String := "java/lang/StringLatin1"
abbrev cJ1_charAt_3b067 : ByteArray := prog_21_method_2_code
def yJ1_charAt_3b067 : MethodName := ⟨RJ1, "charAt", "([BI)C"⟩
def RJ2 : String := "java/lang/StringUTF16"
abbrev cJ2_getChar_3b067 : ByteArray := prog_22_method_5_code
def yJ2_getChar_3b067 : MethodName := ⟨RJ2, "getChar", "([BI)C"⟩
abbrev cJ2_length_9d52b : ByteArray := prog_22_method_6_code
def yJ2_length_9d52b : MethodName := ⟨RJ2, "length", "([B)I"⟩
abbrev cJ2_charAt_3b067 : ByteArray := prog_22_method_83_code
def yJ2_charAt_3b067 : MethodName := ⟨RJ2, "charAt", "([BI)C"⟩
abbrev cJ2_checkIndex_2214a : ByteArray := prog_22_method_91_code
def yJ2_checkIndex_2214a : MethodName := ⟨RJ2, "checkIndex", "(I[B)V"⟩
def RJ3 : String := "jdk/internal/util/Preconditions"
abbrev cJ3_checkIndex_8e157 : ByteArray := prog_27_method_11_code
def yJ3_checkIndex_8e157 : MethodName := ⟨RJ3, "checkIndex", "(IILjava/util/function/BiFunction;)I"⟩
def RL : String := "LowNumberLaw"
abbrev cL_led : ByteArray := method_3_code
def yL_led : MethodName := ⟨RL, "led", "(LLowNumber;I[J)I"⟩
abbrev cL_law : ByteArray := code
def yL_law : MethodName := ⟨RL, "law", "([I)Z"⟩
abbrev vwCl : List vw_C := [(RX0, TX0, 7), (RX1, TX1, 15), (RX2, TX2, 5), (RX3, TX3, 3), (RX4, TX4, 4), (RX5, TX5, 8), (RX6, TX6, 12), (RX7, TX7, 3), (RX8, TX8, 15), (RX9, TX9, 15), (RX10, TX10, 38)]
theorem inX0 : ∀ w ∈ wsX00, w ∈ lw_tbl := by decide +kernel
theorem inX1 : ∀ w ∈ wsX10, w ∈ lw_tbl := by decide +kernel
theorem inX2 : ∀ w ∈ wsX20, w ∈ lw_tbl := by decide +kernel
theorem inX3 : ∀ w ∈ wsX30, w ∈ lw_tbl := by decide +kernel
theorem inX4 : ∀ w ∈ wsX40, w ∈ lw_tbl := by decide +kernel
theorem inX5 : ∀ w ∈ wsX50, w ∈ lw_tbl := by decide +kernel
theorem inX6 : ∀ w ∈ wsX60, w ∈ lw_tbl := by decide +kernel
theorem inX7 : ∀ w ∈ wsX70, w ∈ lw_tbl := by decide +kernel
theorem inX8 : ∀ w ∈ wsX80, w ∈ lw_tbl := by decide +kernel
theorem inX9 : ∀ w ∈ wsX90, w ∈ lw_tbl := by decide +kernel
theorem inX10 : ∀ w ∈ wsX100, w ∈ lw_tbl := by decide +kernel
end
section
/-! A SMALL MACHINE: frames of resolved instructions over cells by place; what it does the Jvm does (parts 05 ..). -/
/-- cells by place; how many slots were made -/
abbrev mj_H : Type := List va_E × Nat
abbrev mj_L : Type := List (Option Value)
/-- an instruction's row: its pc, as resolved, its length, as it stands in the bytes, the place of its word in lw_tbl -/
abbrev mj_I : Type := Nat × Instr × Nat × Instr × Nat
/-- a method: name, bytes, locals, answer, its instructions in rows of 32 pcs -/
abbrev mj_M : Type := MethodName × ByteArray × Nat × Option FieldType × List (List mj_I)
abbrev mj_nm (M : mj_M) : MethodName := M.1
abbrev mj_bt (M : mj_M) : ByteArray := M.2.1
abbrev mj_mx (M : mj_M) : Nat := M.2.2.1
abbrev mj_rt (M : mj_M) : Option FieldType := M.2.2.2.1
abbrev mj_cd (M : mj_M) : List (List mj_I) := M.2.2.2.2
def mj_nth {α : Type} : List α → Nat → Option α
  | [], _ => none
  | a :: _, 0 => some a
  | _ :: t, n + 1 => mj_nth t n
def mj_find : List mj_I → Nat → Option mj_I
  | [], _ => none
  | e :: t, pc => bif Nat.beq e.1 pc then some e else mj_find t pc
def mj_ent (E : List (List mj_I)) (pc : Nat) : Option mj_I := match mj_nth E (pc / 32) with
  | some r => mj_find r pc
  | none => none
/-- the static cells' places begin here -/
def mj_SB : Nat := 1000000000
/-- locals -/
def mj_ld (lv : mj_L) (i : Nat) : Option Value := match mj_nth lv i with
  | some (some v) => some v
  | _ => none
def mj_kl (lv : mj_L) (i : Nat) : mj_L := match i with
  | 0 => lv
  | j + 1 => match mj_nth lv j with
    | some (some (.long _)) => lv.set j none
    | some (some (.double _)) => lv.set j none
    | _ => lv
def mj_s1 (lv : mj_L) (i : Nat) (v : Value) : mj_L := (mj_kl lv i).set i (some v)
def mj_s2 (lv : mj_L) (i : Nat) (v : Value) : mj_L := ((mj_kl lv i).set i (some v)).set (i + 1) none
def mj_el : List Value → mj_L
  | [] => []
  | .long x :: t => some (.long x) :: none :: mj_el t
  | .double x :: t => some (.double x) :: none :: mj_el t
  | v :: t => some v :: mj_el t
def mj_e0 (n : Nat) (as : List Value) : mj_L := mj_el as ++ List.replicate (n - (mj_el as).length) none
/-- types of fields: 64 * class + slot -/
def mj_ty (c : Nat) : FieldType := match c / 64 with
  | 0 => tyX0 (c % 64) | 1 => tyX1 (c % 64) | 2 => tyX2 (c % 64) | 3 => tyX3 (c % 64) | 4 => tyX4 (c % 64) | 5 => tyX5 (c % 64)
  | 6 => tyX6 (c % 64) | 7 => tyX7 (c % 64) | 8 => tyX8 (c % 64) | 9 => tyX9 (c % 64) | _ => tyX10 (c % 64)
def mj_sz (ci : Nat) : Nat := match mj_nth vwCl ci with
  | some q => q.2.2
  | none => 0
/-- a new object's fields -/
def mj_new (ci : Nat) : List Value := (List.range (mj_sz ci)).map fun k => defaultValue (mj_ty (64 * ci + k))
/-- static rows of ints: the places from mj_SB on -/
abbrev mj_S : Type := Nat → Option (Nat × (Nat → Int32))
def mj_ints (sta : mj_S) (h : mj_H) (k : Nat) : Option (Nat × (Nat → Int32)) := match mj_nth h.1 k with
  | some (.inl (0, n, .inl f)) => some (n, f)
  | some _ => none
  | none => sta k
def mj_tg (pc : Nat) (off : Int) : Nat := ((pc : Int) + off).toNat
def mj_cmp (c : ClassFile.Cond) (x y : Int32) : Bool := match c with
  | .eq => decide (x = y) | .ne => !decide (x = y) | .lt => decide (x < y) | .ge => decide (y ≤ x) | .gt => decide (y < x) | .le => decide (x ≤ y)
abbrev mj_C : Type := Nat × mj_L × List Value × mj_H
/-- one instruction that isn't a call -/
def mj_nx (sta : mj_S) (i : Instr) (len pc : Nat) (lv : mj_L) (st : List Value) (h : mj_H) : Option mj_C := match i with
  | .iconst n => some (pc + len, lv, .int (Int32.ofInt n) :: st, h)
  | .bipush n => some (pc + len, lv, .int (Int8.ofInt n).toInt32 :: st, h)
  | .sipush n => some (pc + len, lv, .int (Int16.ofInt n).toInt32 :: st, h)
  | .lconst n => some (pc + len, lv, .long (Int64.ofNat (n : Nat)) :: st, h)
  | .ldc2_w n => some (pc + len, lv, .long (Int64.ofNat n) :: st, h)
  | .ldc j => some (pc + len, lv, .ref (mj_SB + j) :: st, h)
  | .getstatic j => some (pc + len, lv, .ref (mj_SB + j) :: st, h)
  | .iload_n k => match mj_ld lv k with | some (.int x) => some (pc + len, lv, .int x :: st, h) | _ => none
  | .iload k => match mj_ld lv k with | some (.int x) => some (pc + len, lv, .int x :: st, h) | _ => none
  | .lload_n k => match mj_ld lv k with | some (.long x) => some (pc + len, lv, .long x :: st, h) | _ => none
  | .lload k => match mj_ld lv k with | some (.long x) => some (pc + len, lv, .long x :: st, h) | _ => none
  | .aload_n k => match mj_ld lv k with | some (.ref x) => some (pc + len, lv, .ref x :: st, h) | _ => none
  | .aload k => match mj_ld lv k with | some (.ref x) => some (pc + len, lv, .ref x :: st, h) | _ => none
  | .istore_n k => match st with | .int x :: r => some (pc + len, mj_s1 lv k (.int x), r, h) | _ => none
  | .istore k => match st with | .int x :: r => some (pc + len, mj_s1 lv k (.int x), r, h) | _ => none
  | .lstore_n k => match st with | .long x :: r => some (pc + len, mj_s2 lv k (.long x), r, h) | _ => none
  | .lstore k => match st with | .long x :: r => some (pc + len, mj_s2 lv k (.long x), r, h) | _ => none
  | .astore_n k => match st with | .ref x :: r => some (pc + len, mj_s1 lv k (.ref x), r, h) | _ => none
  | .astore k => match st with | .ref x :: r => some (pc + len, mj_s1 lv k (.ref x), r, h) | _ => none
  | .iinc k n => match mj_ld lv k with | some (.int x) => some (pc + len, mj_s1 lv k (.int (x + Int32.ofInt n)), st, h) | _ => none
  | .iadd => match st with | .int y :: .int x :: r => some (pc + len, lv, .int (x + y) :: r, h) | _ => none
  | .isub => match st with | .int y :: .int x :: r => some (pc + len, lv, .int (x - y) :: r, h) | _ => none
  | .imul => match st with | .int y :: .int x :: r => some (pc + len, lv, .int (x * y) :: r, h) | _ => none
  | .iand => match st with | .int y :: .int x :: r => some (pc + len, lv, .int (x &&& y) :: r, h) | _ => none
  | .ior => match st with | .int y :: .int x :: r => some (pc + len, lv, .int (x ||| y) :: r, h) | _ => none
  | .ixor => match st with | .int y :: .int x :: r => some (pc + len, lv, .int (x ^^^ y) :: r, h) | _ => none
  | .ishl => match st with | .int y :: .int x :: r => some (pc + len, lv, .int (x <<< (y &&& 31)) :: r, h) | _ => none
  | .ishr => match st with | .int y :: .int x :: r => some (pc + len, lv, .int (x >>> (y &&& 31)) :: r, h) | _ => none
  | .iushr => match st with | .int y :: .int x :: r => some (pc + len, lv, .int (x.toUInt32 >>> (y.toUInt32 &&& Int32.toUInt32 31)).toInt32 :: r, h) | _ => none
  | .idiv => match st with | .int y :: .int x :: r => if y = 0 then none else some (pc + len, lv, .int (x / y) :: r, h) | _ => none
  | .irem => match st with | .int y :: .int x :: r => if y = 0 then none else some (pc + len, lv, .int (x - x / y * y) :: r, h) | _ => none
  | .ladd => match st with | .long y :: .long x :: r => some (pc + len, lv, .long (x + y) :: r, h) | _ => none
  | .lmul => match st with | .long y :: .long x :: r => some (pc + len, lv, .long (x * y) :: r, h) | _ => none
  | .ldiv => match st with | .long y :: .long x :: r => if y = 0 then none else some (pc + len, lv, .long (x / y) :: r, h) | _ => none
  | .lrem => match st with | .long y :: .long x :: r => if y = 0 then none else some (pc + len, lv, .long (x - x / y * y) :: r, h) | _ => none
  | .lcmp => match st with | .long y :: .long x :: r => some (pc + len, lv, .int (lg_cmp x y) :: r, h) | _ => none
  | .i2l => match st with | .int x :: r => some (pc + len, lv, .long x.toInt64 :: r, h) | _ => none
  | .l2i => match st with | .long x :: r => some (pc + len, lv, .int x.toInt32 :: r, h) | _ => none
  | .i2b => match st with | .int x :: r => some (pc + len, lv, .int x.toInt8.toInt32 :: r, h) | _ => none
  | .dup => match st with | .int x :: r => some (pc + len, lv, .int x :: .int x :: r, h) | .ref x :: r => some (pc + len, lv, .ref x :: .ref x :: r, h) | _ => none
  | .dup2 => match st with | .int x :: .ref a :: r => some (pc + len, lv, .int x :: .ref a :: .int x :: .ref a :: r, h) | .long x :: r => some (pc + len, lv, .long x :: .long x :: r, h) | _ => none
  | .pop => match st with | .int _ :: r => some (pc + len, lv, r, h) | .ref _ :: r => some (pc + len, lv, r, h) | _ => none
  | .goto off => some (mj_tg pc off, lv, st, h)
  | .ifCond c off => match st with | .int x :: r => some (bif mj_cmp c x 0 then mj_tg pc off else pc + len, lv, r, h) | _ => none
  | .if_icmp c off => match st with | .int y :: .int x :: r => some (bif mj_cmp c x y then mj_tg pc off else pc + len, lv, r, h) | _ => none
  | .ifnull off => match st with | .ref _ :: r => some (pc + len, lv, r, h) | .null :: r => some (mj_tg pc off, lv, r, h) | _ => none
  | .ifnonnull off => match st with | .ref _ :: r => some (mj_tg pc off, lv, r, h) | .null :: r => some (pc + len, lv, r, h) | _ => none
  | .tableswitch dflt lo hi offs => match st with
    | .int x :: r => if x.toInt < lo ∨ hi < x.toInt then some (mj_tg pc dflt, lv, r, h) else match offs[(x.toInt - lo).toNat]? with
      | some off => some (mj_tg pc off, lv, r, h)
      | none => none
    | _ => none
  | .getfield c => match st with
    | .ref k :: r => match mj_nth h.1 k with
      | some (.inr (ci, fs)) => bif Nat.beq ci (c / 64) then match mj_nth fs (c % 64) with
          | some v => some (pc + len, lv, v :: r, h)
          | none => none
        else none
      | _ => none
    | _ => none
  | .putfield c => match st with
    | v :: .ref k :: r => match mj_nth h.1 k with
      | some (.inr (ci, fs)) => bif Nat.beq ci (c / 64) then
          if c % 64 < fs.length ∧ narrow (mj_ty c) v = v ∧ fits (mj_ty c) v = true then some (pc + len, lv, r, (h.1.set k (.inr (ci, fs.set (c % 64) v)), h.2)) else none
        else none
      | _ => none
    | _ => none
  | .iaload => match st with
    | .int i :: .ref k :: r => match mj_ints sta h k with
      | some (n, f) => if i < 0 ∨ n ≤ i.toNatClampNeg then none else some (pc + len, lv, .int (f i.toNatClampNeg) :: r, h)
      | none => none
    | _ => none
  | .arraylength => match st with
    | .ref k :: r => match mj_ints sta h k with
      | some (n, _) => some (pc + len, lv, .int (Int32.ofNat n) :: r, h)
      | none => none
    | _ => none
  | .baload => match st with
    | .int i :: .ref k :: r => match mj_nth h.1 k with
      | some (.inl (2, n, .inl f)) => if i < 0 ∨ n ≤ i.toNatClampNeg then none else some (pc + len, lv, .int (f i.toNatClampNeg) :: r, h)
      | _ => none
    | _ => none
  | .laload => match st with
    | .int i :: .ref k :: r => match mj_nth h.1 k with
      | some (.inl (1, n, .inr (.inl f))) => if i < 0 ∨ n ≤ i.toNatClampNeg then none else some (pc + len, lv, .long (f i.toNatClampNeg) :: r, h)
      | _ => none
    | _ => none
  | .aaload => match st with
    | .int i :: .ref k :: r => match mj_nth h.1 k with
      | some (.inl (3, n, .inr (.inr (.inr (.inr f))))) => if i < 0 ∨ n ≤ i.toNatClampNeg then none else some (pc + len, lv, va_rf (f i.toNatClampNeg) :: r, h)
      | some (.inl (4, n, .inr (.inr (.inr (.inr f))))) => if i < 0 ∨ n ≤ i.toNatClampNeg then none else some (pc + len, lv, va_rf (f i.toNatClampNeg) :: r, h)
      | _ => none
    | _ => none
  | .iastore => match st with
    | .int x :: .int i :: .ref k :: r => match mj_nth h.1 k with
      | some (.inl (0, n, .inl f)) => if i < 0 ∨ n ≤ i.toNatClampNeg then none else some (pc + len, lv, r, (h.1.set k (.inl (0, n, .inl (upd f i.toNatClampNeg x))), h.2))
      | _ => none
    | _ => none
  | .bastore => match st with
    | .int x :: .int i :: .ref k :: r => match mj_nth h.1 k with
      | some (.inl (2, n, .inl f)) => if i < 0 ∨ n ≤ i.toNatClampNeg then none else some (pc + len, lv, r, (h.1.set k (.inl (2, n, .inl (upd f i.toNatClampNeg (vp_nar .byte x)))), h.2))
      | _ => none
    | _ => none
  | .lastore => match st with
    | .long x :: .int i :: .ref k :: r => match mj_nth h.1 k with
      | some (.inl (1, n, .inr (.inl f))) => if i < 0 ∨ n ≤ i.toNatClampNeg then none else some (pc + len, lv, r, (h.1.set k (.inl (1, n, .inr (.inl (vp_updL f i.toNatClampNeg x)))), h.2))
      | _ => none
    | _ => none
  | .aastore => match st with
    | .ref v :: .int i :: .ref k :: r => match mj_nth h.1 k, mj_nth h.1 v with
      | some (.inl (3, n, .inr (.inr (.inr (.inr f))))), some (.inr (5, _)) => if i < 0 ∨ n ≤ i.toNatClampNeg then none else some (pc + len, lv, r, (h.1.set k (.inl (3, n, .inr (.inr (.inr (.inr (va_up f i.toNatClampNeg (some v))))))), h.2))
      | _, _ => none
    | _ => none
  | .new ci => some (pc + len, lv, .ref h.1.length :: st, (h.1 ++ [.inr (ci, mj_new ci)], h.2 + mj_sz ci))
  | .newarray ty => match st with
    | .int n :: r => if n < 0 ∨ 65536 < n.toNatClampNeg then none else match ty with
      | .int => some (pc + len, lv, .ref h.1.length :: r, (h.1 ++ [.inl (0, n.toNatClampNeg, .inl (fun _ => 0))], h.2 + n.toNatClampNeg))
      | .long => some (pc + len, lv, .ref h.1.length :: r, (h.1 ++ [.inl (1, n.toNatClampNeg, .inr (.inl (fun _ => 0)))], h.2 + n.toNatClampNeg))
      | .byte => some (pc + len, lv, .ref h.1.length :: r, (h.1 ++ [.inl (2, n.toNatClampNeg, .inl (fun _ => 0))], h.2 + n.toNatClampNeg))
      | _ => none
    | _ => none
  | .anewarray 3 => match st with
    | .int n :: r => if n < 0 ∨ 65536 < n.toNatClampNeg then none else some (pc + len, lv, .ref h.1.length :: r, (h.1 ++ [.inl (3, n.toNatClampNeg, .inr (.inr (.inr (.inr (fun _ => none)))))], h.2 + n.toNatClampNeg))
    | _ => none
  | .multianewarray 4 2 => match st with
    | .int 6 :: .int 3 :: r => some (pc + len, lv, .ref h.1.length :: r, (h.1 ++ [.inl (4, 3, .inr (.inr (.inr (.inr (fun i => if i < 3 then some (h.1.length + 1 + i) else none))))), .inl (0, 6, .inl (fun _ => 0)), .inl (0, 6, .inl (fun _ => 0)), .inl (0, 6, .inl (fun _ => 0))], h.2 + 21))
    | _ => none
  | _ => none
/-- a call's number: 256 * method + 16 * arguments + class of the receiver -/
def mj_isCall (i : Instr) : Option Nat := match i with
  | .invokevirtual c => some c
  | .invokestatic c => some c
  | .invokespecial c => some c
  | _ => none
/-- whom an invokevirtual finds -/
def mj_recv (i : Instr) (as : List Value) (h : mj_H) : Prop := match i with
  | .invokevirtual c => (c / 256 < 4) ∨ ∃ (k : Nat) (r : List Value) (fs : List Value), as = .ref k :: r ∧ mj_nth h.1 k = some (.inr (c % 16, fs))
  | .invokespecial _ => ∃ (k : Nat) (r : List Value), as = .ref k :: r
  | _ => True
abbrev mj_R : Type := Nat → List Value → mj_H → Option Value → mj_H → Prop
/-- the machine comes from here to a place with T, calls by Cl -/
def mj_go (sta : mj_S) (Cl : mj_R) (M : mj_M) (T : Nat → mj_L → List Value → mj_H → Prop) (pc : Nat) (lv : mj_L) (st : List Value) (h : mj_H) : Prop :=
  ∀ P : Nat → mj_L → List Value → mj_H → Prop, (∀ pc lv st h, T pc lv st h → P pc lv st h) →
    (∀ pc lv st h e pc' lv' st' h', mj_ent (mj_cd M) pc = some e → mj_nx sta e.2.1 e.2.2.1 pc lv st h = some (pc', lv', st', h') → P pc' lv' st' h' → P pc lv st h) →
    (∀ pc lv st h e c v h', mj_ent (mj_cd M) pc = some e → mj_isCall e.2.1 = some c → c / 16 % 16 ≤ st.length → mj_recv e.2.1 (st.take (c / 16 % 16)).reverse h → ((st.drop (c / 16 % 16)).map Value.category).sum ≤ 8 → Cl (c / 256) (st.take (c / 16 % 16)).reverse h v h' → P (pc + 3) lv (v.toList ++ st.drop (c / 16 % 16)) h' → P pc lv st h) →
    P pc lv st h
/-- at a return, with v -/
def mj_ret (M : mj_M) (v : Option Value) (h' : mj_H) (pc : Nat) (lv : mj_L) (st : List Value) (h : mj_H) : Prop :=
  h = h' ∧ ∃ e, mj_ent (mj_cd M) pc = some e ∧ match e.2.1 with
    | .return_ => st = [] ∧ v = none ∧ mj_rt M = none
    | .ireturn => ∃ (x : Int32) (ty : FieldType), st = [.int x] ∧ v = some (.int x) ∧ mj_rt M = some ty ∧ narrow ty (.int x) = .int x
    | .lreturn => ∃ x : Int64, st = [.long x] ∧ v = some (.long x) ∧ mj_rt M = some .long
    | .areturn => ∃ (a : Nat) (C : String), st = [.ref a] ∧ v = some (.ref a) ∧ mj_rt M = some (.object C)
    | _ => False
section MJgo
variable {sta : mj_S} {Cl : mj_R} {M : mj_M} {T T' : Nat → mj_L → List Value → mj_H → Prop} {pc pc' : Nat} {lv lv' : mj_L} {st st' : List Value} {h h' : mj_H} {e : mj_I}
theorem mj_go.here (ht : T pc lv st h) : mj_go sta Cl M T pc lv st h := fun _ hT _ _ => hT _ _ _ _ ht
theorem mj_go.nx (he : mj_ent (mj_cd M) pc = some e) (hn : mj_nx sta e.2.1 e.2.2.1 pc lv st h = some (pc', lv', st', h')) (k : mj_go sta Cl M T pc' lv' st' h') : mj_go sta Cl M T pc lv st h :=
  fun P hT h1 h2 => h1 _ _ _ _ _ _ _ _ _ he hn (k P hT h1 h2)
theorem mj_go.call {c : Nat} {v : Option Value} (he : mj_ent (mj_cd M) pc = some e) (hc : mj_isCall e.2.1 = some c) (hl : c / 16 % 16 ≤ st.length) (hr : mj_recv e.2.1 (st.take (c / 16 % 16)).reverse h) (hs : ((st.drop (c / 16 % 16)).map Value.category).sum ≤ 8)
    (hC : Cl (c / 256) (st.take (c / 16 % 16)).reverse h v h') (k : mj_go sta Cl M T (pc + 3) lv (v.toList ++ st.drop (c / 16 % 16)) h') : mj_go sta Cl M T pc lv st h :=
  fun P hT h1 h2 => h2 _ _ _ _ _ _ _ _ he hc hl hr hs hC (k P hT h1 h2)
theorem mj_go.trans (k : mj_go sta Cl M T' pc lv st h) (hk : ∀ pc lv st h, T' pc lv st h → mj_go sta Cl M T pc lv st h) : mj_go sta Cl M T pc lv st h :=
  fun P hT h1 h2 => k P (fun pc lv st h ht => hk pc lv st h ht P hT h1 h2) h1 h2
end MJgo
end
