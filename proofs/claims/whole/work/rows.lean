section
-- ===== PART A: goes FIRST, ahead of the names: the tables' words, and 'selects' of the private methods out of them =====
/-- a private method of a class that the tables say can be made, by its rows of tables_1 -/
def lw_okq (q : MethodName × Nat) : Prop := (q.1.cls ≠ "java/lang/invoke/MethodHandle" ∧ q.1.cls ≠ "java/lang/invoke/VarHandle") ∧ Cond.instantiable q.1.cls q.2 ∈ tables_1 ∧ Cond.privateMethod q.1 ∈ tables_1 ∧ Cond.instanceMethod q.1 ∈ tables_1
theorem lw_p0 : lw_okq (⟨"EvenlyPoured", "changeCups", "(I)I"⟩, 18) := ⟨⟨by decide +kernel, by decide +kernel⟩, List.mem_of_getElem? (i := 20) (by decide +kernel), List.mem_of_getElem? (i := 344) (by decide +kernel), List.mem_of_getElem? (i := 345) (by decide +kernel)⟩
theorem lw_p1 : lw_okq (⟨"EvenlyPoured", "changeDribs", "(I)I"⟩, 18) := ⟨⟨by decide +kernel, by decide +kernel⟩, List.mem_of_getElem? (i := 20) (by decide +kernel), List.mem_of_getElem? (i := 351) (by decide +kernel), List.mem_of_getElem? (i := 352) (by decide +kernel)⟩
theorem lw_p2 : lw_okq (⟨"EvenlyPoured", "changeNumber", "(II)I"⟩, 18) := ⟨⟨by decide +kernel, by decide +kernel⟩, List.mem_of_getElem? (i := 20) (by decide +kernel), List.mem_of_getElem? (i := 355) (by decide +kernel), List.mem_of_getElem? (i := 356) (by decide +kernel)⟩
theorem lw_p3 : lw_okq (⟨"EvenlyPoured", "isPourer", "(I)Z"⟩, 18) := ⟨⟨by decide +kernel, by decide +kernel⟩, List.mem_of_getElem? (i := 20) (by decide +kernel), List.mem_of_getElem? (i := 359) (by decide +kernel), List.mem_of_getElem? (i := 360) (by decide +kernel)⟩
theorem lw_p4 : lw_okq (⟨"EvenlyPoured", "changePrice", "(II)I"⟩, 18) := ⟨⟨by decide +kernel, by decide +kernel⟩, List.mem_of_getElem? (i := 20) (by decide +kernel), List.mem_of_getElem? (i := 363) (by decide +kernel), List.mem_of_getElem? (i := 364) (by decide +kernel)⟩
theorem lw_p5 : lw_okq (⟨"EvenlyPoured", "isDrib", "(I)Z"⟩, 18) := ⟨⟨by decide +kernel, by decide +kernel⟩, List.mem_of_getElem? (i := 20) (by decide +kernel), List.mem_of_getElem? (i := 378) (by decide +kernel), List.mem_of_getElem? (i := 379) (by decide +kernel)⟩
theorem lw_p6 : lw_okq (⟨"EvenlyPoured", "isCup", "(I)Z"⟩, 18) := ⟨⟨by decide +kernel, by decide +kernel⟩, List.mem_of_getElem? (i := 20) (by decide +kernel), List.mem_of_getElem? (i := 382) (by decide +kernel), List.mem_of_getElem? (i := 383) (by decide +kernel)⟩
theorem lw_p7 : lw_okq (⟨"EvenlyPoured$Tape", "endOf", "(I)I"⟩, 5) := ⟨⟨by decide +kernel, by decide +kernel⟩, List.mem_of_getElem? (i := 32) (by decide +kernel), List.mem_of_getElem? (i := 413) (by decide +kernel), List.mem_of_getElem? (i := 414) (by decide +kernel)⟩
theorem lw_p8 : lw_okq (⟨"EvenlyPoured$Tape", "tokenOf", "(II)I"⟩, 5) := ⟨⟨by decide +kernel, by decide +kernel⟩, List.mem_of_getElem? (i := 32) (by decide +kernel), List.mem_of_getElem? (i := 423) (by decide +kernel), List.mem_of_getElem? (i := 424) (by decide +kernel)⟩
theorem lw_p9 : lw_okq (⟨"EvenlyPoured$Tape", "wordOf", "(II)I"⟩, 5) := ⟨⟨by decide +kernel, by decide +kernel⟩, List.mem_of_getElem? (i := 32) (by decide +kernel), List.mem_of_getElem? (i := 427) (by decide +kernel), List.mem_of_getElem? (i := 428) (by decide +kernel)⟩
theorem lw_p10 : lw_okq (⟨"EvenlyPoured$Tape", "isSpelled", "(III)Z"⟩, 5) := ⟨⟨by decide +kernel, by decide +kernel⟩, List.mem_of_getElem? (i := 32) (by decide +kernel), List.mem_of_getElem? (i := 480) (by decide +kernel), List.mem_of_getElem? (i := 481) (by decide +kernel)⟩
theorem lw_p11 : lw_okq (⟨"EvenlyPoured$Tape", "numberOf", "(II)I"⟩, 5) := ⟨⟨by decide +kernel, by decide +kernel⟩, List.mem_of_getElem? (i := 32) (by decide +kernel), List.mem_of_getElem? (i := 484) (by decide +kernel), List.mem_of_getElem? (i := 485) (by decide +kernel)⟩
theorem lw_p12 : lw_okq (⟨"EvenlyPoured$Reader", "clause", "(I)[I"⟩, 5) := ⟨⟨by decide +kernel, by decide +kernel⟩, List.mem_of_getElem? (i := 60) (by decide +kernel), List.mem_of_getElem? (i := 491) (by decide +kernel), List.mem_of_getElem? (i := 492) (by decide +kernel)⟩
theorem lw_p13 : lw_okq (⟨"EvenlyPoured$Reader", "demand", "(I)V"⟩, 5) := ⟨⟨by decide +kernel, by decide +kernel⟩, List.mem_of_getElem? (i := 60) (by decide +kernel), List.mem_of_getElem? (i := 495) (by decide +kernel), List.mem_of_getElem? (i := 496) (by decide +kernel)⟩
theorem lw_p14 : lw_okq (⟨"EvenlyPoured$Reader", "token", "()I"⟩, 5) := ⟨⟨by decide +kernel, by decide +kernel⟩, List.mem_of_getElem? (i := 60) (by decide +kernel), List.mem_of_getElem? (i := 499) (by decide +kernel), List.mem_of_getElem? (i := 500) (by decide +kernel)⟩
theorem lw_p15 : lw_okq (⟨"EvenlyPoured$Reader", "step", "()V"⟩, 5) := ⟨⟨by decide +kernel, by decide +kernel⟩, List.mem_of_getElem? (i := 60) (by decide +kernel), List.mem_of_getElem? (i := 503) (by decide +kernel), List.mem_of_getElem? (i := 504) (by decide +kernel)⟩
def lw_privs_1 : List (MethodName × Nat) := [(⟨"EvenlyPoured", "changeCups", "(I)I"⟩, 18), (⟨"EvenlyPoured", "changeDribs", "(I)I"⟩, 18), (⟨"EvenlyPoured", "changeNumber", "(II)I"⟩, 18), (⟨"EvenlyPoured", "isPourer", "(I)Z"⟩, 18), (⟨"EvenlyPoured", "changePrice", "(II)I"⟩, 18), (⟨"EvenlyPoured", "isDrib", "(I)Z"⟩, 18), (⟨"EvenlyPoured", "isCup", "(I)Z"⟩, 18), (⟨"EvenlyPoured$Tape", "endOf", "(I)I"⟩, 5), (⟨"EvenlyPoured$Tape", "tokenOf", "(II)I"⟩, 5), (⟨"EvenlyPoured$Tape", "wordOf", "(II)I"⟩, 5), (⟨"EvenlyPoured$Tape", "isSpelled", "(III)Z"⟩, 5), (⟨"EvenlyPoured$Tape", "numberOf", "(II)I"⟩, 5), (⟨"EvenlyPoured$Reader", "clause", "(I)[I"⟩, 5), (⟨"EvenlyPoured$Reader", "demand", "(I)V"⟩, 5), (⟨"EvenlyPoured$Reader", "token", "()I"⟩, 5), (⟨"EvenlyPoured$Reader", "step", "()V"⟩, 5)]
theorem lw_r1 : ∀ q ∈ lw_privs_1, lw_okq q := List.forall_mem_cons.mpr ⟨lw_p0, List.forall_mem_cons.mpr ⟨lw_p1, List.forall_mem_cons.mpr ⟨lw_p2, List.forall_mem_cons.mpr ⟨lw_p3, List.forall_mem_cons.mpr ⟨lw_p4, List.forall_mem_cons.mpr ⟨lw_p5, List.forall_mem_cons.mpr ⟨lw_p6, List.forall_mem_cons.mpr ⟨lw_p7, List.forall_mem_cons.mpr ⟨lw_p8, List.forall_mem_cons.mpr ⟨lw_p9, List.forall_mem_cons.mpr ⟨lw_p10, List.forall_mem_cons.mpr ⟨lw_p11, List.forall_mem_cons.mpr ⟨lw_p12, List.forall_mem_cons.mpr ⟨lw_p13, List.forall_mem_cons.mpr ⟨lw_p14, List.forall_mem_cons.mpr ⟨lw_p15, fun _ h => absurd h List.not_mem_nil⟩⟩⟩⟩⟩⟩⟩⟩⟩⟩⟩⟩⟩⟩⟩⟩
theorem lw_p16 : lw_okq (⟨"EvenlyPoured$Reader", "part", "(II)V"⟩, 5) := ⟨⟨by decide +kernel, by decide +kernel⟩, List.mem_of_getElem? (i := 60) (by decide +kernel), List.mem_of_getElem? (i := 507) (by decide +kernel), List.mem_of_getElem? (i := 508) (by decide +kernel)⟩
theorem lw_p17 : lw_okq (⟨"EvenlyPoured$Reader", "one", "(I)V"⟩, 5) := ⟨⟨by decide +kernel, by decide +kernel⟩, List.mem_of_getElem? (i := 60) (by decide +kernel), List.mem_of_getElem? (i := 511) (by decide +kernel), List.mem_of_getElem? (i := 512) (by decide +kernel)⟩
theorem lw_p18 : lw_okq (⟨"EvenlyPoured$Reader", "put", "(I)V"⟩, 5) := ⟨⟨by decide +kernel, by decide +kernel⟩, List.mem_of_getElem? (i := 60) (by decide +kernel), List.mem_of_getElem? (i := 515) (by decide +kernel), List.mem_of_getElem? (i := 516) (by decide +kernel)⟩
theorem lw_p19 : lw_okq (⟨"EvenlyPoured$Reader", "inside", "(II)V"⟩, 5) := ⟨⟨by decide +kernel, by decide +kernel⟩, List.mem_of_getElem? (i := 60) (by decide +kernel), List.mem_of_getElem? (i := 519) (by decide +kernel), List.mem_of_getElem? (i := 520) (by decide +kernel)⟩
theorem lw_p20 : lw_okq (⟨"EvenlyPoured", "pourRow", "()V"⟩, 18) := ⟨⟨by decide +kernel, by decide +kernel⟩, List.mem_of_getElem? (i := 20) (by decide +kernel), List.mem_of_getElem? (i := 557) (by decide +kernel), List.mem_of_getElem? (i := 558) (by decide +kernel)⟩
theorem lw_p21 : lw_okq (⟨"EvenlyPoured", "pourAllBut", "(I)V"⟩, 18) := ⟨⟨by decide +kernel, by decide +kernel⟩, List.mem_of_getElem? (i := 20) (by decide +kernel), List.mem_of_getElem? (i := 561) (by decide +kernel), List.mem_of_getElem? (i := 562) (by decide +kernel)⟩
theorem lw_p22 : lw_okq (⟨"EvenlyPoured$Teller", "worth", "([I)I"⟩, 3) := ⟨⟨by decide +kernel, by decide +kernel⟩, List.mem_of_getElem? (i := 170) (by decide +kernel), List.mem_of_getElem? (i := 586) (by decide +kernel), List.mem_of_getElem? (i := 587) (by decide +kernel)⟩
theorem lw_p23 : lw_okq (⟨"EvenlyPoured$Teller", "named", "(I)I"⟩, 3) := ⟨⟨by decide +kernel, by decide +kernel⟩, List.mem_of_getElem? (i := 170) (by decide +kernel), List.mem_of_getElem? (i := 590) (by decide +kernel), List.mem_of_getElem? (i := 591) (by decide +kernel)⟩
theorem lw_p24 : lw_okq (⟨"EvenlyPoured", "greatestEvenPower", "()I"⟩, 18) := ⟨⟨by decide +kernel, by decide +kernel⟩, List.mem_of_getElem? (i := 20) (by decide +kernel), List.mem_of_getElem? (i := 637) (by decide +kernel), List.mem_of_getElem? (i := 638) (by decide +kernel)⟩
theorem lw_p25 : lw_okq (⟨"EvenlyPoured", "isAsMuchInEachCup", "(I)Z"⟩, 18) := ⟨⟨by decide +kernel, by decide +kernel⟩, List.mem_of_getElem? (i := 20) (by decide +kernel), List.mem_of_getElem? (i := 641) (by decide +kernel), List.mem_of_getElem? (i := 642) (by decide +kernel)⟩
theorem lw_p26 : lw_okq (⟨"EvenlyPoured", "sumOfPowers", "(II)I"⟩, 18) := ⟨⟨by decide +kernel, by decide +kernel⟩, List.mem_of_getElem? (i := 20) (by decide +kernel), List.mem_of_getElem? (i := 645) (by decide +kernel), List.mem_of_getElem? (i := 646) (by decide +kernel)⟩
theorem lw_p27 : lw_okq (⟨"EvenlyPoured", "waysAreFew", "()Z"⟩, 18) := ⟨⟨by decide +kernel, by decide +kernel⟩, List.mem_of_getElem? (i := 20) (by decide +kernel), List.mem_of_getElem? (i := 664) (by decide +kernel), List.mem_of_getElem? (i := 665) (by decide +kernel)⟩
theorem lw_p28 : lw_okq (⟨"EvenlyPoured", "findEvenest", "()V"⟩, 18) := ⟨⟨by decide +kernel, by decide +kernel⟩, List.mem_of_getElem? (i := 20) (by decide +kernel), List.mem_of_getElem? (i := 669) (by decide +kernel), List.mem_of_getElem? (i := 670) (by decide +kernel)⟩
theorem lw_p29 : lw_okq (⟨"EvenlyPoured$Search", "learnGains", "(II)V"⟩, 17) := ⟨⟨by decide +kernel, by decide +kernel⟩, List.mem_of_getElem? (i := 221) (by decide +kernel), List.mem_of_getElem? (i := 678) (by decide +kernel), List.mem_of_getElem? (i := 679) (by decide +kernel)⟩
theorem lw_p30 : lw_okq (⟨"EvenlyPoured$Search", "gainPlace", "(IIII)I"⟩, 17) := ⟨⟨by decide +kernel, by decide +kernel⟩, List.mem_of_getElem? (i := 221) (by decide +kernel), List.mem_of_getElem? (i := 685) (by decide +kernel), List.mem_of_getElem? (i := 686) (by decide +kernel)⟩
theorem lw_p31 : lw_okq (⟨"EvenlyPoured$Search", "empty", "()V"⟩, 17) := ⟨⟨by decide +kernel, by decide +kernel⟩, List.mem_of_getElem? (i := 221) (by decide +kernel), List.mem_of_getElem? (i := 694) (by decide +kernel), List.mem_of_getElem? (i := 695) (by decide +kernel)⟩
def lw_privs_2 : List (MethodName × Nat) := [(⟨"EvenlyPoured$Reader", "part", "(II)V"⟩, 5), (⟨"EvenlyPoured$Reader", "one", "(I)V"⟩, 5), (⟨"EvenlyPoured$Reader", "put", "(I)V"⟩, 5), (⟨"EvenlyPoured$Reader", "inside", "(II)V"⟩, 5), (⟨"EvenlyPoured", "pourRow", "()V"⟩, 18), (⟨"EvenlyPoured", "pourAllBut", "(I)V"⟩, 18), (⟨"EvenlyPoured$Teller", "worth", "([I)I"⟩, 3), (⟨"EvenlyPoured$Teller", "named", "(I)I"⟩, 3), (⟨"EvenlyPoured", "greatestEvenPower", "()I"⟩, 18), (⟨"EvenlyPoured", "isAsMuchInEachCup", "(I)Z"⟩, 18), (⟨"EvenlyPoured", "sumOfPowers", "(II)I"⟩, 18), (⟨"EvenlyPoured", "waysAreFew", "()Z"⟩, 18), (⟨"EvenlyPoured", "findEvenest", "()V"⟩, 18), (⟨"EvenlyPoured$Search", "learnGains", "(II)V"⟩, 17), (⟨"EvenlyPoured$Search", "gainPlace", "(IIII)I"⟩, 17), (⟨"EvenlyPoured$Search", "empty", "()V"⟩, 17)]
theorem lw_r2 : ∀ q ∈ lw_privs_2, lw_okq q := List.forall_mem_cons.mpr ⟨lw_p16, List.forall_mem_cons.mpr ⟨lw_p17, List.forall_mem_cons.mpr ⟨lw_p18, List.forall_mem_cons.mpr ⟨lw_p19, List.forall_mem_cons.mpr ⟨lw_p20, List.forall_mem_cons.mpr ⟨lw_p21, List.forall_mem_cons.mpr ⟨lw_p22, List.forall_mem_cons.mpr ⟨lw_p23, List.forall_mem_cons.mpr ⟨lw_p24, List.forall_mem_cons.mpr ⟨lw_p25, List.forall_mem_cons.mpr ⟨lw_p26, List.forall_mem_cons.mpr ⟨lw_p27, List.forall_mem_cons.mpr ⟨lw_p28, List.forall_mem_cons.mpr ⟨lw_p29, List.forall_mem_cons.mpr ⟨lw_p30, List.forall_mem_cons.mpr ⟨lw_p31, fun _ h => absurd h List.not_mem_nil⟩⟩⟩⟩⟩⟩⟩⟩⟩⟩⟩⟩⟩⟩⟩⟩
theorem lw_p32 : lw_okq (⟨"EvenlyPoured$Search", "tryBalanced", "(III)V"⟩, 17) := ⟨⟨by decide +kernel, by decide +kernel⟩, List.mem_of_getElem? (i := 221) (by decide +kernel), List.mem_of_getElem? (i := 698) (by decide +kernel), List.mem_of_getElem? (i := 699) (by decide +kernel)⟩
theorem lw_p33 : lw_okq (⟨"EvenlyPoured$Search", "judge", "(I)V"⟩, 17) := ⟨⟨by decide +kernel, by decide +kernel⟩, List.mem_of_getElem? (i := 221) (by decide +kernel), List.mem_of_getElem? (i := 702) (by decide +kernel), List.mem_of_getElem? (i := 703) (by decide +kernel)⟩
theorem lw_p34 : lw_okq (⟨"EvenlyPoured$Search", "hasRoom", "(I)Z"⟩, 17) := ⟨⟨by decide +kernel, by decide +kernel⟩, List.mem_of_getElem? (i := 221) (by decide +kernel), List.mem_of_getElem? (i := 709) (by decide +kernel), List.mem_of_getElem? (i := 710) (by decide +kernel)⟩
theorem lw_p35 : lw_okq (⟨"EvenlyPoured$Search", "gain", "(III)I"⟩, 17) := ⟨⟨by decide +kernel, by decide +kernel⟩, List.mem_of_getElem? (i := 221) (by decide +kernel), List.mem_of_getElem? (i := 713) (by decide +kernel), List.mem_of_getElem? (i := 714) (by decide +kernel)⟩
theorem lw_p36 : lw_okq (⟨"EvenlyPoured", "unevenWithOneMore", "(I)I"⟩, 18) := ⟨⟨by decide +kernel, by decide +kernel⟩, List.mem_of_getElem? (i := 20) (by decide +kernel), List.mem_of_getElem? (i := 735) (by decide +kernel), List.mem_of_getElem? (i := 736) (by decide +kernel)⟩
theorem lw_p37 : lw_okq (⟨"EvenlyPoured", "pourBy", "(LEvenlyPoured$Pourer;)V"⟩, 18) := ⟨⟨by decide +kernel, by decide +kernel⟩, List.mem_of_getElem? (i := 20) (by decide +kernel), List.mem_of_getElem? (i := 743) (by decide +kernel), List.mem_of_getElem? (i := 744) (by decide +kernel)⟩
theorem lw_p38 : lw_okq (⟨"EvenlyPoured", "dearestLeft", "()I"⟩, 18) := ⟨⟨by decide +kernel, by decide +kernel⟩, List.mem_of_getElem? (i := 20) (by decide +kernel), List.mem_of_getElem? (i := 773) (by decide +kernel), List.mem_of_getElem? (i := 774) (by decide +kernel)⟩
theorem lw_p39 : lw_okq (⟨"EvenlyPoured", "notTasted", "(I)I"⟩, 18) := ⟨⟨by decide +kernel, by decide +kernel⟩, List.mem_of_getElem? (i := 20) (by decide +kernel), List.mem_of_getElem? (i := 785) (by decide +kernel), List.mem_of_getElem? (i := 786) (by decide +kernel)⟩
theorem lw_p40 : lw_okq (⟨"EvenlyPoured$Search", "tryTold", "(III[I)V"⟩, 17) := ⟨⟨by decide +kernel, by decide +kernel⟩, List.mem_of_getElem? (i := 221) (by decide +kernel), List.mem_of_getElem? (i := 797) (by decide +kernel), List.mem_of_getElem? (i := 798) (by decide +kernel)⟩
theorem lw_p41 : lw_okq (⟨"EvenlyPoured$Search", "tellTasted", "(I[I)V"⟩, 17) := ⟨⟨by decide +kernel, by decide +kernel⟩, List.mem_of_getElem? (i := 221) (by decide +kernel), List.mem_of_getElem? (i := 801) (by decide +kernel), List.mem_of_getElem? (i := 802) (by decide +kernel)⟩
theorem lw_p42 : lw_okq (⟨"EvenlyPoured", "tastesAsTold", "([II)Z"⟩, 18) := ⟨⟨by decide +kernel, by decide +kernel⟩, List.mem_of_getElem? (i := 20) (by decide +kernel), List.mem_of_getElem? (i := 809) (by decide +kernel), List.mem_of_getElem? (i := 810) (by decide +kernel)⟩
theorem lw_p43 : lw_okq (⟨"EvenlyPoured", "unevenByLot", "(II)I"⟩, 18) := ⟨⟨by decide +kernel, by decide +kernel⟩, List.mem_of_getElem? (i := 20) (by decide +kernel), List.mem_of_getElem? (i := 824) (by decide +kernel), List.mem_of_getElem? (i := 825) (by decide +kernel)⟩
theorem lw_p44 : lw_okq (⟨"EvenlyPouredModel", "spell", "(IIIIIIIII)V"⟩, 55) := ⟨⟨by decide +kernel, by decide +kernel⟩, List.mem_of_getElem? (i := 892) (by decide +kernel), List.mem_of_getElem? (i := 898) (by decide +kernel), List.mem_of_getElem? (i := 899) (by decide +kernel)⟩
theorem lw_p45 : lw_okq (⟨"EvenlyPouredModel", "isPourer", "(I)Z"⟩, 55) := ⟨⟨by decide +kernel, by decide +kernel⟩, List.mem_of_getElem? (i := 892) (by decide +kernel), List.mem_of_getElem? (i := 1075) (by decide +kernel), List.mem_of_getElem? (i := 1076) (by decide +kernel)⟩
theorem lw_p46 : lw_okq (⟨"EvenlyPouredModel", "isCup", "(I)Z"⟩, 55) := ⟨⟨by decide +kernel, by decide +kernel⟩, List.mem_of_getElem? (i := 892) (by decide +kernel), List.mem_of_getElem? (i := 1093) (by decide +kernel), List.mem_of_getElem? (i := 1094) (by decide +kernel)⟩
theorem lw_p47 : lw_okq (⟨"EvenlyPouredModel", "read", "(II)I"⟩, 55) := ⟨⟨by decide +kernel, by decide +kernel⟩, List.mem_of_getElem? (i := 892) (by decide +kernel), List.mem_of_getElem? (i := 1115) (by decide +kernel), List.mem_of_getElem? (i := 1116) (by decide +kernel)⟩
def lw_privs_3 : List (MethodName × Nat) := [(⟨"EvenlyPoured$Search", "tryBalanced", "(III)V"⟩, 17), (⟨"EvenlyPoured$Search", "judge", "(I)V"⟩, 17), (⟨"EvenlyPoured$Search", "hasRoom", "(I)Z"⟩, 17), (⟨"EvenlyPoured$Search", "gain", "(III)I"⟩, 17), (⟨"EvenlyPoured", "unevenWithOneMore", "(I)I"⟩, 18), (⟨"EvenlyPoured", "pourBy", "(LEvenlyPoured$Pourer;)V"⟩, 18), (⟨"EvenlyPoured", "dearestLeft", "()I"⟩, 18), (⟨"EvenlyPoured", "notTasted", "(I)I"⟩, 18), (⟨"EvenlyPoured$Search", "tryTold", "(III[I)V"⟩, 17), (⟨"EvenlyPoured$Search", "tellTasted", "(I[I)V"⟩, 17), (⟨"EvenlyPoured", "tastesAsTold", "([II)Z"⟩, 18), (⟨"EvenlyPoured", "unevenByLot", "(II)I"⟩, 18), (⟨"EvenlyPouredModel", "spell", "(IIIIIIIII)V"⟩, 55), (⟨"EvenlyPouredModel", "isPourer", "(I)Z"⟩, 55), (⟨"EvenlyPouredModel", "isCup", "(I)Z"⟩, 55), (⟨"EvenlyPouredModel", "read", "(II)I"⟩, 55)]
theorem lw_r3 : ∀ q ∈ lw_privs_3, lw_okq q := List.forall_mem_cons.mpr ⟨lw_p32, List.forall_mem_cons.mpr ⟨lw_p33, List.forall_mem_cons.mpr ⟨lw_p34, List.forall_mem_cons.mpr ⟨lw_p35, List.forall_mem_cons.mpr ⟨lw_p36, List.forall_mem_cons.mpr ⟨lw_p37, List.forall_mem_cons.mpr ⟨lw_p38, List.forall_mem_cons.mpr ⟨lw_p39, List.forall_mem_cons.mpr ⟨lw_p40, List.forall_mem_cons.mpr ⟨lw_p41, List.forall_mem_cons.mpr ⟨lw_p42, List.forall_mem_cons.mpr ⟨lw_p43, List.forall_mem_cons.mpr ⟨lw_p44, List.forall_mem_cons.mpr ⟨lw_p45, List.forall_mem_cons.mpr ⟨lw_p46, List.forall_mem_cons.mpr ⟨lw_p47, fun _ h => absurd h List.not_mem_nil⟩⟩⟩⟩⟩⟩⟩⟩⟩⟩⟩⟩⟩⟩⟩⟩
theorem lw_p48 : lw_okq (⟨"EvenlyPouredModel", "nextToken", "()V"⟩, 55) := ⟨⟨by decide +kernel, by decide +kernel⟩, List.mem_of_getElem? (i := 892) (by decide +kernel), List.mem_of_getElem? (i := 1119) (by decide +kernel), List.mem_of_getElem? (i := 1120) (by decide +kernel)⟩
theorem lw_p49 : lw_okq (⟨"EvenlyPouredModel", "byteAt", "(I)I"⟩, 55) := ⟨⟨by decide +kernel, by decide +kernel⟩, List.mem_of_getElem? (i := 892) (by decide +kernel), List.mem_of_getElem? (i := 1123) (by decide +kernel), List.mem_of_getElem? (i := 1124) (by decide +kernel)⟩
theorem lw_p50 : lw_okq (⟨"EvenlyPouredModel", "isWord", "(IIIIIIII)Z"⟩, 55) := ⟨⟨by decide +kernel, by decide +kernel⟩, List.mem_of_getElem? (i := 892) (by decide +kernel), List.mem_of_getElem? (i := 1132) (by decide +kernel), List.mem_of_getElem? (i := 1133) (by decide +kernel)⟩
theorem lw_p51 : lw_okq (⟨"EvenlyPouredModel", "isLetter", "(II)Z"⟩, 55) := ⟨⟨by decide +kernel, by decide +kernel⟩, List.mem_of_getElem? (i := 892) (by decide +kernel), List.mem_of_getElem? (i := 1136) (by decide +kernel), List.mem_of_getElem? (i := 1137) (by decide +kernel)⟩
theorem lw_p52 : lw_okq (⟨"EvenlyPouredModel", "part", "(Z)I"⟩, 55) := ⟨⟨by decide +kernel, by decide +kernel⟩, List.mem_of_getElem? (i := 892) (by decide +kernel), List.mem_of_getElem? (i := 1140) (by decide +kernel), List.mem_of_getElem? (i := 1141) (by decide +kernel)⟩
theorem lw_p53 : lw_okq (⟨"EvenlyPouredModel", "fail", "()V"⟩, 55) := ⟨⟨by decide +kernel, by decide +kernel⟩, List.mem_of_getElem? (i := 892) (by decide +kernel), List.mem_of_getElem? (i := 1144) (by decide +kernel), List.mem_of_getElem? (i := 1145) (by decide +kernel)⟩
theorem lw_p54 : lw_okq (⟨"EvenlyPouredModel", "either", "()I"⟩, 55) := ⟨⟨by decide +kernel, by decide +kernel⟩, List.mem_of_getElem? (i := 892) (by decide +kernel), List.mem_of_getElem? (i := 1148) (by decide +kernel), List.mem_of_getElem? (i := 1149) (by decide +kernel)⟩
theorem lw_p55 : lw_okq (⟨"EvenlyPouredModel", "both", "()I"⟩, 55) := ⟨⟨by decide +kernel, by decide +kernel⟩, List.mem_of_getElem? (i := 892) (by decide +kernel), List.mem_of_getElem? (i := 1152) (by decide +kernel), List.mem_of_getElem? (i := 1153) (by decide +kernel)⟩
theorem lw_p56 : lw_okq (⟨"EvenlyPouredModel", "not", "()I"⟩, 55) := ⟨⟨by decide +kernel, by decide +kernel⟩, List.mem_of_getElem? (i := 892) (by decide +kernel), List.mem_of_getElem? (i := 1156) (by decide +kernel), List.mem_of_getElem? (i := 1157) (by decide +kernel)⟩
theorem lw_p57 : lw_okq (⟨"EvenlyPouredModel", "opens", "()Z"⟩, 55) := ⟨⟨by decide +kernel, by decide +kernel⟩, List.mem_of_getElem? (i := 892) (by decide +kernel), List.mem_of_getElem? (i := 1160) (by decide +kernel), List.mem_of_getElem? (i := 1161) (by decide +kernel)⟩
theorem lw_p58 : lw_okq (⟨"EvenlyPouredModel", "added", "()I"⟩, 55) := ⟨⟨by decide +kernel, by decide +kernel⟩, List.mem_of_getElem? (i := 892) (by decide +kernel), List.mem_of_getElem? (i := 1164) (by decide +kernel), List.mem_of_getElem? (i := 1165) (by decide +kernel)⟩
theorem lw_p59 : lw_okq (⟨"EvenlyPouredModel", "term", "()I"⟩, 55) := ⟨⟨by decide +kernel, by decide +kernel⟩, List.mem_of_getElem? (i := 892) (by decide +kernel), List.mem_of_getElem? (i := 1168) (by decide +kernel), List.mem_of_getElem? (i := 1169) (by decide +kernel)⟩
theorem lw_p60 : lw_okq (⟨"EvenlyPouredModel", "atom", "()I"⟩, 55) := ⟨⟨by decide +kernel, by decide +kernel⟩, List.mem_of_getElem? (i := 892) (by decide +kernel), List.mem_of_getElem? (i := 1172) (by decide +kernel), List.mem_of_getElem? (i := 1173) (by decide +kernel)⟩
theorem lw_p61 : lw_okq (⟨"EvenlyPouredModel", "isSign", "(I)Z"⟩, 55) := ⟨⟨by decide +kernel, by decide +kernel⟩, List.mem_of_getElem? (i := 892) (by decide +kernel), List.mem_of_getElem? (i := 1176) (by decide +kernel), List.mem_of_getElem? (i := 1177) (by decide +kernel)⟩
theorem lw_p62 : lw_okq (⟨"EvenlyPouredModel", "name", "()I"⟩, 55) := ⟨⟨by decide +kernel, by decide +kernel⟩, List.mem_of_getElem? (i := 892) (by decide +kernel), List.mem_of_getElem? (i := 1180) (by decide +kernel), List.mem_of_getElem? (i := 1181) (by decide +kernel)⟩
theorem lw_p63 : lw_okq (⟨"EvenlyPouredModel", "poursRow", "()V"⟩, 55) := ⟨⟨by decide +kernel, by decide +kernel⟩, List.mem_of_getElem? (i := 892) (by decide +kernel), List.mem_of_getElem? (i := 1194) (by decide +kernel), List.mem_of_getElem? (i := 1195) (by decide +kernel)⟩
def lw_privs_4 : List (MethodName × Nat) := [(⟨"EvenlyPouredModel", "nextToken", "()V"⟩, 55), (⟨"EvenlyPouredModel", "byteAt", "(I)I"⟩, 55), (⟨"EvenlyPouredModel", "isWord", "(IIIIIIII)Z"⟩, 55), (⟨"EvenlyPouredModel", "isLetter", "(II)Z"⟩, 55), (⟨"EvenlyPouredModel", "part", "(Z)I"⟩, 55), (⟨"EvenlyPouredModel", "fail", "()V"⟩, 55), (⟨"EvenlyPouredModel", "either", "()I"⟩, 55), (⟨"EvenlyPouredModel", "both", "()I"⟩, 55), (⟨"EvenlyPouredModel", "not", "()I"⟩, 55), (⟨"EvenlyPouredModel", "opens", "()Z"⟩, 55), (⟨"EvenlyPouredModel", "added", "()I"⟩, 55), (⟨"EvenlyPouredModel", "term", "()I"⟩, 55), (⟨"EvenlyPouredModel", "atom", "()I"⟩, 55), (⟨"EvenlyPouredModel", "isSign", "(I)Z"⟩, 55), (⟨"EvenlyPouredModel", "name", "()I"⟩, 55), (⟨"EvenlyPouredModel", "poursRow", "()V"⟩, 55)]
theorem lw_r4 : ∀ q ∈ lw_privs_4, lw_okq q := List.forall_mem_cons.mpr ⟨lw_p48, List.forall_mem_cons.mpr ⟨lw_p49, List.forall_mem_cons.mpr ⟨lw_p50, List.forall_mem_cons.mpr ⟨lw_p51, List.forall_mem_cons.mpr ⟨lw_p52, List.forall_mem_cons.mpr ⟨lw_p53, List.forall_mem_cons.mpr ⟨lw_p54, List.forall_mem_cons.mpr ⟨lw_p55, List.forall_mem_cons.mpr ⟨lw_p56, List.forall_mem_cons.mpr ⟨lw_p57, List.forall_mem_cons.mpr ⟨lw_p58, List.forall_mem_cons.mpr ⟨lw_p59, List.forall_mem_cons.mpr ⟨lw_p60, List.forall_mem_cons.mpr ⟨lw_p61, List.forall_mem_cons.mpr ⟨lw_p62, List.forall_mem_cons.mpr ⟨lw_p63, fun _ h => absurd h List.not_mem_nil⟩⟩⟩⟩⟩⟩⟩⟩⟩⟩⟩⟩⟩⟩⟩⟩
theorem lw_p64 : lw_okq (⟨"EvenlyPouredModel", "forgets", "()V"⟩, 55) := ⟨⟨by decide +kernel, by decide +kernel⟩, List.mem_of_getElem? (i := 892) (by decide +kernel), List.mem_of_getElem? (i := 1198) (by decide +kernel), List.mem_of_getElem? (i := 1199) (by decide +kernel)⟩
theorem lw_p65 : lw_okq (⟨"EvenlyPouredModel", "begins", "()V"⟩, 55) := ⟨⟨by decide +kernel, by decide +kernel⟩, List.mem_of_getElem? (i := 892) (by decide +kernel), List.mem_of_getElem? (i := 1202) (by decide +kernel), List.mem_of_getElem? (i := 1203) (by decide +kernel)⟩
theorem lw_p66 : lw_okq (⟨"EvenlyPouredModel", "pours", "(III)V"⟩, 55) := ⟨⟨by decide +kernel, by decide +kernel⟩, List.mem_of_getElem? (i := 892) (by decide +kernel), List.mem_of_getElem? (i := 1206) (by decide +kernel), List.mem_of_getElem? (i := 1207) (by decide +kernel)⟩
theorem lw_p67 : lw_okq (⟨"EvenlyPouredModel", "strong", "(IIII)I"⟩, 55) := ⟨⟨by decide +kernel, by decide +kernel⟩, List.mem_of_getElem? (i := 892) (by decide +kernel), List.mem_of_getElem? (i := 1210) (by decide +kernel), List.mem_of_getElem? (i := 1211) (by decide +kernel)⟩
theorem lw_p68 : lw_okq (⟨"EvenlyPouredModel", "says", "(IIIII)I"⟩, 55) := ⟨⟨by decide +kernel, by decide +kernel⟩, List.mem_of_getElem? (i := 892) (by decide +kernel), List.mem_of_getElem? (i := 1217) (by decide +kernel), List.mem_of_getElem? (i := 1218) (by decide +kernel)⟩
theorem lw_p69 : lw_okq (⟨"EvenlyPouredModel", "drips", "(IIII)I"⟩, 55) := ⟨⟨by decide +kernel, by decide +kernel⟩, List.mem_of_getElem? (i := 892) (by decide +kernel), List.mem_of_getElem? (i := 1224) (by decide +kernel), List.mem_of_getElem? (i := 1225) (by decide +kernel)⟩
theorem lw_p70 : lw_okq (⟨"EvenlyPouredModel", "power", "()I"⟩, 55) := ⟨⟨by decide +kernel, by decide +kernel⟩, List.mem_of_getElem? (i := 892) (by decide +kernel), List.mem_of_getElem? (i := 1232) (by decide +kernel), List.mem_of_getElem? (i := 1233) (by decide +kernel)⟩
theorem lw_p71 : lw_okq (⟨"EvenlyPouredModel", "sumOf", "(II)I"⟩, 55) := ⟨⟨by decide +kernel, by decide +kernel⟩, List.mem_of_getElem? (i := 892) (by decide +kernel), List.mem_of_getElem? (i := 1236) (by decide +kernel), List.mem_of_getElem? (i := 1237) (by decide +kernel)⟩
theorem lw_p72 : lw_okq (⟨"EvenlyPouredModel", "uneven", "()I"⟩, 55) := ⟨⟨by decide +kernel, by decide +kernel⟩, List.mem_of_getElem? (i := 892) (by decide +kernel), List.mem_of_getElem? (i := 1240) (by decide +kernel), List.mem_of_getElem? (i := 1241) (by decide +kernel)⟩
theorem lw_p73 : lw_okq (⟨"EvenlyPouredModel", "areMany", "()Z"⟩, 55) := ⟨⟨by decide +kernel, by decide +kernel⟩, List.mem_of_getElem? (i := 892) (by decide +kernel), List.mem_of_getElem? (i := 1257) (by decide +kernel), List.mem_of_getElem? (i := 1258) (by decide +kernel)⟩
theorem lw_p74 : lw_okq (⟨"EvenlyPouredModel", "seeks", "(II)V"⟩, 55) := ⟨⟨by decide +kernel, by decide +kernel⟩, List.mem_of_getElem? (i := 892) (by decide +kernel), List.mem_of_getElem? (i := 1262) (by decide +kernel), List.mem_of_getElem? (i := 1263) (by decide +kernel)⟩
theorem lw_p75 : lw_okq (⟨"EvenlyPouredModel", "goes", "(I)V"⟩, 55) := ⟨⟨by decide +kernel, by decide +kernel⟩, List.mem_of_getElem? (i := 892) (by decide +kernel), List.mem_of_getElem? (i := 1266) (by decide +kernel), List.mem_of_getElem? (i := 1267) (by decide +kernel)⟩
theorem lw_p76 : lw_okq (⟨"EvenlyPouredModel", "ends", "()V"⟩, 55) := ⟨⟨by decide +kernel, by decide +kernel⟩, List.mem_of_getElem? (i := 892) (by decide +kernel), List.mem_of_getElem? (i := 1270) (by decide +kernel), List.mem_of_getElem? (i := 1271) (by decide +kernel)⟩
theorem lw_p77 : lw_okq (⟨"EvenlyPouredModel", "keepsWay", "()V"⟩, 55) := ⟨⟨by decide +kernel, by decide +kernel⟩, List.mem_of_getElem? (i := 892) (by decide +kernel), List.mem_of_getElem? (i := 1274) (by decide +kernel), List.mem_of_getElem? (i := 1275) (by decide +kernel)⟩
theorem lw_p78 : lw_okq (⟨"EvenlyPouredModel", "areBalanced", "()Z"⟩, 55) := ⟨⟨by decide +kernel, by decide +kernel⟩, List.mem_of_getElem? (i := 892) (by decide +kernel), List.mem_of_getElem? (i := 1278) (by decide +kernel), List.mem_of_getElem? (i := 1279) (by decide +kernel)⟩
theorem lw_p79 : lw_okq (⟨"EvenlyPouredModel", "poursBy", "(I)V"⟩, 55) := ⟨⟨by decide +kernel, by decide +kernel⟩, List.mem_of_getElem? (i := 892) (by decide +kernel), List.mem_of_getElem? (i := 1300) (by decide +kernel), List.mem_of_getElem? (i := 1301) (by decide +kernel)⟩
def lw_privs_5 : List (MethodName × Nat) := [(⟨"EvenlyPouredModel", "forgets", "()V"⟩, 55), (⟨"EvenlyPouredModel", "begins", "()V"⟩, 55), (⟨"EvenlyPouredModel", "pours", "(III)V"⟩, 55), (⟨"EvenlyPouredModel", "strong", "(IIII)I"⟩, 55), (⟨"EvenlyPouredModel", "says", "(IIIII)I"⟩, 55), (⟨"EvenlyPouredModel", "drips", "(IIII)I"⟩, 55), (⟨"EvenlyPouredModel", "power", "()I"⟩, 55), (⟨"EvenlyPouredModel", "sumOf", "(II)I"⟩, 55), (⟨"EvenlyPouredModel", "uneven", "()I"⟩, 55), (⟨"EvenlyPouredModel", "areMany", "()Z"⟩, 55), (⟨"EvenlyPouredModel", "seeks", "(II)V"⟩, 55), (⟨"EvenlyPouredModel", "goes", "(I)V"⟩, 55), (⟨"EvenlyPouredModel", "ends", "()V"⟩, 55), (⟨"EvenlyPouredModel", "keepsWay", "()V"⟩, 55), (⟨"EvenlyPouredModel", "areBalanced", "()Z"⟩, 55), (⟨"EvenlyPouredModel", "poursBy", "(I)V"⟩, 55)]
theorem lw_r5 : ∀ q ∈ lw_privs_5, lw_okq q := List.forall_mem_cons.mpr ⟨lw_p64, List.forall_mem_cons.mpr ⟨lw_p65, List.forall_mem_cons.mpr ⟨lw_p66, List.forall_mem_cons.mpr ⟨lw_p67, List.forall_mem_cons.mpr ⟨lw_p68, List.forall_mem_cons.mpr ⟨lw_p69, List.forall_mem_cons.mpr ⟨lw_p70, List.forall_mem_cons.mpr ⟨lw_p71, List.forall_mem_cons.mpr ⟨lw_p72, List.forall_mem_cons.mpr ⟨lw_p73, List.forall_mem_cons.mpr ⟨lw_p74, List.forall_mem_cons.mpr ⟨lw_p75, List.forall_mem_cons.mpr ⟨lw_p76, List.forall_mem_cons.mpr ⟨lw_p77, List.forall_mem_cons.mpr ⟨lw_p78, List.forall_mem_cons.mpr ⟨lw_p79, fun _ h => absurd h List.not_mem_nil⟩⟩⟩⟩⟩⟩⟩⟩⟩⟩⟩⟩⟩⟩⟩⟩
theorem lw_p80 : lw_okq (⟨"EvenlyPouredModel", "goesTo", "(II)I"⟩, 55) := ⟨⟨by decide +kernel, by decide +kernel⟩, List.mem_of_getElem? (i := 892) (by decide +kernel), List.mem_of_getElem? (i := 1304) (by decide +kernel), List.mem_of_getElem? (i := 1305) (by decide +kernel)⟩
theorem lw_p81 : lw_okq (⟨"EvenlyPouredModel", "digits", "(I)I"⟩, 55) := ⟨⟨by decide +kernel, by decide +kernel⟩, List.mem_of_getElem? (i := 892) (by decide +kernel), List.mem_of_getElem? (i := 1308) (by decide +kernel), List.mem_of_getElem? (i := 1309) (by decide +kernel)⟩
theorem lw_p82 : lw_okq (⟨"EvenlyPouredModel", "zigzag", "(I)I"⟩, 55) := ⟨⟨by decide +kernel, by decide +kernel⟩, List.mem_of_getElem? (i := 892) (by decide +kernel), List.mem_of_getElem? (i := 1312) (by decide +kernel), List.mem_of_getElem? (i := 1313) (by decide +kernel)⟩
theorem lw_p83 : lw_okq (⟨"EvenlyPouredModel", "tasteBad", "(I)I"⟩, 55) := ⟨⟨by decide +kernel, by decide +kernel⟩, List.mem_of_getElem? (i := 892) (by decide +kernel), List.mem_of_getElem? (i := 1335) (by decide +kernel), List.mem_of_getElem? (i := 1336) (by decide +kernel)⟩
theorem lw_p84 : lw_okq (⟨"EvenlyPouredModel", "draws", "(II)I"⟩, 55) := ⟨⟨by decide +kernel, by decide +kernel⟩, List.mem_of_getElem? (i := 892) (by decide +kernel), List.mem_of_getElem? (i := 1352) (by decide +kernel), List.mem_of_getElem? (i := 1353) (by decide +kernel)⟩
def lw_privs_6 : List (MethodName × Nat) := [(⟨"EvenlyPouredModel", "goesTo", "(II)I"⟩, 55), (⟨"EvenlyPouredModel", "digits", "(I)I"⟩, 55), (⟨"EvenlyPouredModel", "zigzag", "(I)I"⟩, 55), (⟨"EvenlyPouredModel", "tasteBad", "(I)I"⟩, 55), (⟨"EvenlyPouredModel", "draws", "(II)I"⟩, 55)]
theorem lw_r6 : ∀ q ∈ lw_privs_6, lw_okq q := List.forall_mem_cons.mpr ⟨lw_p80, List.forall_mem_cons.mpr ⟨lw_p81, List.forall_mem_cons.mpr ⟨lw_p82, List.forall_mem_cons.mpr ⟨lw_p83, List.forall_mem_cons.mpr ⟨lw_p84, fun _ h => absurd h List.not_mem_nil⟩⟩⟩⟩⟩
def lw_privs : List (MethodName × Nat) := lw_privs_1 ++ (lw_privs_2 ++ (lw_privs_3 ++ (lw_privs_4 ++ (lw_privs_5 ++ (lw_privs_6)))))
def lw_tbl : List Cond := k2_sels lw_privs ++ tables_1
theorem lw_privs_ok : ∀ q ∈ lw_privs, lw_okq q := by
  show ∀ q ∈ lw_privs_1 ++ (lw_privs_2 ++ (lw_privs_3 ++ (lw_privs_4 ++ (lw_privs_5 ++ (lw_privs_6))))), lw_okq q
  exact List.forall_mem_append.mpr ⟨lw_r1, List.forall_mem_append.mpr ⟨lw_r2, List.forall_mem_append.mpr ⟨lw_r3, List.forall_mem_append.mpr ⟨lw_r4, List.forall_mem_append.mpr ⟨lw_r5, lw_r6⟩⟩⟩⟩⟩
end
section
/-! THE ABSTRACT MACHINE, its steps. A memory: the shapes of its cells (kind, size), ints, references, longs. Kinds: 0..10 objects of the classes of 'am_cl'; 20 int rows, 21 boolean rows, 22..24 rows of Pourer, Text, Sheet; 25 a byte row, 26 a String. Cells 0..4 are not the law's own: 0 the script, 1 UNDER, 2 WORDS, 3 its bytes, 4 the formatter (which nobody uses). -/
abbrev am_M : Type := List (Nat × Nat) × (Nat → Nat → Int32) × (Nat → Nat → Option Nat) × (Nat → Nat → Int64)
abbrev am_L : Type := List (Option Value)
abbrev am_V : Type := Option Value × am_M
/-- an instruction: as decoded; its length, its sort (0 goes on, 1 jumps, 2 calls, 3 ends), x y z w; a number; a switch's table -/
abbrev am_P : Type := Instr × (Nat × Nat × Nat × Nat × Nat × Nat) × Int32 × List (Int32 × Nat)
abbrev am_K : Type := Bool → am_M → am_L → List Value → Option am_V
abbrev am_Q : Type := Option (Bool × am_M × am_L × List Value)
abbrev am_len (i : am_P) : Nat := i.2.1.1
abbrev am_srt (i : am_P) : Nat := i.2.1.2.1
abbrev am_x (i : am_P) : Nat := i.2.1.2.2.1
abbrev am_y (i : am_P) : Nat := i.2.1.2.2.2.1
abbrev am_z (i : am_P) : Nat := i.2.1.2.2.2.2.1
abbrev am_w (i : am_P) : Nat := i.2.1.2.2.2.2.2
abbrev am_im (i : am_P) : Int32 := i.2.2.1
abbrev am_tb (i : am_P) : List (Int32 × Nat) := i.2.2.2
noncomputable def am_u2 {α : Type} (f : Nat → Nat → α) (a k : Nat) (v : α) : Nat → Nat → α := fun x y => if x = a ∧ y = k then v else f x y
/-- a whole row anew -/
noncomputable def am_u1 {α : Type} (f : Nat → Nat → α) (a : Nat) (g : Nat → α) : Nat → Nat → α := fun x y => if x = a then g y else f x y
/-- the cell at a is of kind c -/
noncomputable def am_kd (M : am_M) (a c : Nat) : Bool := match M.1[a]? with
  | some q => Nat.beq q.1 c
  | none => false
noncomputable def am_ln (M : am_M) (a : Nat) : Nat := match M.1[a]? with
  | some q => q.2
  | none => 0
noncomputable def am_inb (j : Int32) (n : Nat) : Bool := decide (¬ (j < 0 ∨ n ≤ j.toNatClampNeg))
noncomputable def am_isb (x : Int32) : Bool := decide (x = 0 ∨ x = 1)
noncomputable def am_nz (x : Int32) : Bool := decide (¬ x = 0)
noncomputable def am_nzl (x : Int64) : Bool := decide (¬ x = 0)
noncomputable def am_isT (t : Nat) (v : Value) : Bool := match v with
  | .int _ => Nat.beq t 0
  | .long _ => Nat.beq t 2
  | .ref _ => Nat.beq t 1
  | .null => Nat.beq t 1
  | _ => false
noncomputable def am_ld (t x : Nat) (M : am_M) (L : am_L) (S : List Value) : am_Q := match L[x]? with
  | some (some v) => cond (am_isT t v) (some (true, M, L, v :: S)) none
  | _ => none
noncomputable def am_isl (o : Option (Option Value)) : Bool := match o with
  | some (some (.long _)) => true
  | _ => false
noncomputable def am_clr (L : am_L) (x : Nat) : am_L := match x with
  | 0 => L
  | y + 1 => cond (am_isl L[y]?) (L.set y none) L
noncomputable def am_set1 (L : am_L) (x : Nat) (v : Value) : am_L := (am_clr L x).set x (some v)
noncomputable def am_set2 (L : am_L) (x : Nat) (v : Value) : am_L := ((am_clr L x).set x (some v)).set (x + 1) none
noncomputable def am_so (t x : Nat) (M : am_M) (L : am_L) (S : List Value) : am_Q := match S with
  | v :: r => cond (am_isT t v && Nat.blt x L.length) (some (true, M, am_set1 L x v, r)) none
  | _ => none
noncomputable def am_so2 (x : Nat) (M : am_M) (L : am_L) (S : List Value) : am_Q := match S with
  | .long v :: r => cond (Nat.blt (x + 1) L.length) (some (true, M, am_set2 L x (.long v), r)) none
  | _ => none
noncomputable def am_inc (x : Nat) (n : Int32) (M : am_M) (L : am_L) (S : List Value) : am_Q := match L[x]? with
  | some (some (.int v)) => some (true, M, am_set1 L x (.int (v + n)), S)
  | _ => none
noncomputable def am_psh (v : Value) (M : am_M) (L : am_L) (S : List Value) : am_Q := some (true, M, L, v :: S)
noncomputable def am_b2 (g : Int32 → Int32 → Int32) (M : am_M) (L : am_L) (S : List Value) : am_Q := match S with
  | .int y :: .int x :: r => some (true, M, L, .int (g x y) :: r)
  | _ => none
noncomputable def am_d2 (g : Int32 → Int32 → Int32) (M : am_M) (L : am_L) (S : List Value) : am_Q := match S with
  | .int y :: .int x :: r => some (am_nz y, M, L, .int (g x y) :: r)
  | _ => none
noncomputable def am_b1 (g : Int32 → Int32) (M : am_M) (L : am_L) (S : List Value) : am_Q := match S with
  | .int x :: r => some (true, M, L, .int (g x) :: r)
  | _ => none
noncomputable def am_l2 (g : Int64 → Int64 → Int64) (M : am_M) (L : am_L) (S : List Value) : am_Q := match S with
  | .long y :: .long x :: r => some (true, M, L, .long (g x y) :: r)
  | _ => none
noncomputable def am_e2 (g : Int64 → Int64 → Int64) (M : am_M) (L : am_L) (S : List Value) : am_Q := match S with
  | .long y :: .long x :: r => some (am_nzl y, M, L, .long (g x y) :: r)
  | _ => none
noncomputable def am_cmp (M : am_M) (L : am_L) (S : List Value) : am_Q := match S with
  | .long y :: .long x :: r => some (true, M, L, .int (lg_cmp x y) :: r)
  | _ => none
noncomputable def am_i2l (M : am_M) (L : am_L) (S : List Value) : am_Q := match S with
  | .int x :: r => some (true, M, L, .long x.toInt64 :: r)
  | _ => none
noncomputable def am_l2i (M : am_M) (L : am_L) (S : List Value) : am_Q := match S with
  | .long x :: r => some (true, M, L, .int x.toInt32 :: r)
  | _ => none
noncomputable def am_c1 (v : Value) : Bool := am_isT 0 v || am_isT 1 v
noncomputable def am_dup (M : am_M) (L : am_L) (S : List Value) : am_Q := match S with
  | v :: r => cond (am_c1 v) (some (true, M, L, v :: v :: r)) none
  | _ => none
noncomputable def am_dp2 (M : am_M) (L : am_L) (S : List Value) : am_Q := match S with
  | v :: u :: r => cond (am_c1 v && am_c1 u) (some (true, M, L, v :: u :: v :: u :: r)) none
  | _ => none
noncomputable def am_pop1 (M : am_M) (L : am_L) (S : List Value) : am_Q := match S with
  | v :: r => cond (am_c1 v) (some (true, M, L, r)) none
  | _ => none
noncomputable def am_rd (w : Nat) (M : am_M) (a k : Nat) : Value := match w with
  | 1 => va_rf (M.2.2.1 a k)
  | 2 => .long (M.2.2.2 a k)
  | _ => .int (M.2.1 a k)
noncomputable def am_gf (c k w : Nat) (M : am_M) (L : am_L) (S : List Value) : am_Q := match S with
  | .ref a :: r => some (am_kd M a c, M, L, am_rd w M a k :: r)
  | _ => none
noncomputable def am_pf (c k w : Nat) (M : am_M) (L : am_L) (S : List Value) : am_Q := match S with
  | .int v :: .ref a :: r => cond (Nat.beq w 0) (some (am_kd M a c && Nat.ble 5 a, (M.1, am_u2 M.2.1 a k v, M.2.2.1, M.2.2.2), L, r)) (cond (Nat.beq w 3) (some (am_kd M a c && (Nat.ble 5 a && am_isb v), (M.1, am_u2 M.2.1 a k v, M.2.2.1, M.2.2.2), L, r)) none)
  | .long v :: .ref a :: r => cond (Nat.beq w 2) (some (am_kd M a c && Nat.ble 5 a, (M.1, M.2.1, M.2.2.1, am_u2 M.2.2.2 a k v), L, r)) none
  | .ref v :: .ref a :: r => cond (Nat.beq w 1) (some (am_kd M a c && (Nat.ble 5 a && Nat.ble 5 v), (M.1, M.2.1, am_u2 M.2.2.1 a k (some v), M.2.2.2), L, r)) none
  | _ => none
noncomputable def am_gs (x : Nat) : Value := match x with
  | 0 => .ref 1
  | 1 => .int 1
  | _ => .ref 4
noncomputable def am_ia (c : Nat) (M : am_M) (L : am_L) (S : List Value) : am_Q := match S with
  | .int j :: .ref a :: r => some (am_kd M a c && am_inb j (am_ln M a), M, L, .int (M.2.1 a j.toNatClampNeg) :: r)
  | _ => none
noncomputable def am_aa (c : Nat) (M : am_M) (L : am_L) (S : List Value) : am_Q := match S with
  | .int j :: .ref a :: r => some (am_kd M a c && (Nat.ble 5 a && am_inb j (am_ln M a)), M, L, va_rf (M.2.2.1 a j.toNatClampNeg) :: r)
  | _ => none
noncomputable def am_is (M : am_M) (L : am_L) (S : List Value) : am_Q := match S with
  | .int v :: .int j :: .ref a :: r => some (am_kd M a 20 && (Nat.ble 5 a && am_inb j (am_ln M a)), (M.1, am_u2 M.2.1 a j.toNatClampNeg v, M.2.2.1, M.2.2.2), L, r)
  | _ => none
noncomputable def am_bs (M : am_M) (L : am_L) (S : List Value) : am_Q := match S with
  | .int v :: .int j :: .ref a :: r => some (am_kd M a 21 && (Nat.ble 5 a && am_inb j (am_ln M a)), (M.1, am_u2 M.2.1 a j.toNatClampNeg (v &&& 1), M.2.2.1, M.2.2.2), L, r)
  | _ => none
noncomputable def am_as (c y : Nat) (M : am_M) (L : am_L) (S : List Value) : am_Q := match S with
  | .ref v :: .int j :: .ref a :: r => some (am_kd M a c && (Nat.ble 5 a && (am_kd M v y && (Nat.ble 5 v && am_inb j (am_ln M a)))), (M.1, M.2.1, am_u2 M.2.2.1 a j.toNatClampNeg (some v), M.2.2.2), L, r)
  | _ => none
noncomputable def am_al (M : am_M) (L : am_L) (S : List Value) : am_Q := match S with
  | .ref a :: r => some (am_kd M a 20 || am_kd M a 25, M, L, .int (nI (am_ln M a)) :: r)
  | _ => none
/-- a new cell, all 0 -/
noncomputable def am_nw (c n : Nat) (M : am_M) : am_M := (M.1 ++ [(c, n)], am_u1 M.2.1 M.1.length (fun _ => 0), am_u1 M.2.2.1 M.1.length (fun _ => none), am_u1 M.2.2.2 M.1.length (fun _ => 0))
noncomputable def am_na (c : Nat) (M : am_M) (L : am_L) (S : List Value) : am_Q := match S with
  | .int n :: r => some (decide (¬ n < 0) && Nat.ble n.toNatClampNeg 100000, am_nw c n.toNatClampNeg M, L, .ref M.1.length :: r)
  | _ => none
noncomputable def am_no (c n : Nat) (M : am_M) (L : am_L) (S : List Value) : am_Q := some (true, am_nw c n M, L, .ref M.1.length :: S)
/-- Object's constructor -/
noncomputable def am_oi (d : Nat) (M : am_M) (L : am_L) (S : List Value) : am_Q := match S with
  | [.ref a] => some (Nat.ble 1 d && Nat.ble 5 a, M, L, [])
  | _ => none
noncomputable def am_cat (S : List Value) : Nat := (S.map fun v => v.category).sum
/-- System.arraycopy, of int rows -/
noncomputable def am_cp (d : Nat) (M : am_M) (L : am_L) (S : List Value) : am_Q := match S with
  | .int n :: .int dp :: .ref a :: .int sp :: .ref a0 :: r => some (Nat.ble 1 d && (Nat.ble (am_cat r) 8 && (am_kd M a0 20 && (Nat.ble 5 a0 && (am_kd M a 20 && (Nat.ble 5 a && decide (¬ sp < 0 ∧ ¬ dp < 0 ∧ ¬ n < 0 ∧ sp.toNatClampNeg + n.toNatClampNeg ≤ am_ln M a0 ∧ dp.toNatClampNeg + n.toNatClampNeg ≤ am_ln M a)))))), (M.1, am_u1 M.2.1 a (va_cpy (M.2.1 a0) (M.2.1 a) sp.toNatClampNeg dp.toNatClampNeg n.toNatClampNeg), M.2.2.1, M.2.2.2), L, r)
  | _ => none
/-- Math.max, min, abs -/
noncomputable def am_ma (d w : Nat) (M : am_M) (L : am_L) (S : List Value) : am_Q := match w with
  | 1 => (match S with | .int y :: .int x :: r => some (Nat.ble 1 d && Nat.ble (am_cat r) 8, M, L, .int (if x < y then y else x) :: r) | _ => none)
  | 2 => (match S with | .int y :: .int x :: r => some (Nat.ble 1 d && Nat.ble (am_cat r) 8, M, L, .int (if y < x then y else x) :: r) | _ => none)
  | _ => (match S with | .int x :: r => some (Nat.ble 1 d && Nat.ble (am_cat r) 8, M, L, .int (if 0 ≤ x then x else 0 - x) :: r) | _ => none)
/-- the long numbers that the code names -/
noncomputable def am_kl (x : Nat) : Int64 := match x with
  | 0 => 0
  | 1 => 1
  | 2 => 2
  | 3 => 3
  | 4 => 4
  | 5 => 5
  | 7 => 7
  | 9 => 9
  | 10 => 10
  | 20 => 20
  | 24 => 24
  | 25 => 25
  | 43 => 43
  | 48 => 48
  | 57 => 57
  | 60 => 60
  | 97 => 97
  | 99 => 99
  | 122 => 122
  | 255 => 255
  | 99999 => 99999
  | 100001 => -1
  | _ => -4611686018427387904
noncomputable def am_s1 (d : Nat) (i : am_P) (M : am_M) (L : am_L) (S : List Value) : am_Q := match i.1 with
  | .aload_n _ => am_ld 1 (am_x i) M L S
  | .aload _ => am_ld 1 (am_x i) M L S
  | .iload_n _ => am_ld 0 (am_x i) M L S
  | .iload _ => am_ld 0 (am_x i) M L S
  | .lload_n _ => am_ld 2 (am_x i) M L S
  | .lload _ => am_ld 2 (am_x i) M L S
  | .astore_n _ => am_so 1 (am_x i) M L S
  | .astore _ => am_so 1 (am_x i) M L S
  | .istore_n _ => am_so 0 (am_x i) M L S
  | .istore _ => am_so 0 (am_x i) M L S
  | .lstore_n _ => am_so2 (am_x i) M L S
  | .lstore _ => am_so2 (am_x i) M L S
  | .iinc _ _ => am_inc (am_x i) (am_im i) M L S
  | .iconst _ => am_psh (.int (am_im i)) M L S
  | .bipush _ => am_psh (.int (am_im i)) M L S
  | .sipush _ => am_psh (.int (am_im i)) M L S
  | .ldc _ => am_psh (cond (Nat.beq (am_w i) 1) (.ref 2) (.int (am_im i))) M L S
  | .ldc_w _ => am_psh (.int (am_im i)) M L S
  | .lconst _ => am_psh (.long (am_kl (am_x i))) M L S
  | .ldc2_w _ => am_psh (.long (am_kl (am_x i))) M L S
  | .aconst_null => am_psh .null M L S
  | .iadd => am_b2 (fun a b => a + b) M L S
  | .isub => am_b2 (fun a b => a - b) M L S
  | .imul => am_b2 (fun a b => a * b) M L S
  | .iand => am_b2 (fun a b => a &&& b) M L S
  | .ior => am_b2 (fun a b => a ||| b) M L S
  | .ishl => am_b2 (fun a b => a <<< (b &&& 31)) M L S
  | .ishr => am_b2 (fun a b => a >>> (b &&& 31)) M L S
  | .iushr => am_b2 (fun a b => (a.toUInt32 >>> (b.toUInt32 &&& Int32.toUInt32 31)).toInt32) M L S
  | .idiv => am_d2 (fun a b => a / b) M L S
  | .irem => am_d2 (fun a b => a - a / b * b) M L S
  | .ineg => am_b1 (fun a => -a) M L S
  | .i2b => am_b1 (fun a => a.toInt8.toInt32) M L S
  | .i2s => am_b1 (fun a => a.toInt16.toInt32) M L S
  | .i2c => am_b1 (fun a => (a.toUInt32 % 65536).toInt32) M L S
  | .ladd => am_l2 (fun a b => a + b) M L S
  | .lsub => am_l2 (fun a b => a - b) M L S
  | .lmul => am_l2 (fun a b => a * b) M L S
  | .ldiv => am_e2 (fun a b => a / b) M L S
  | .lrem => am_e2 (fun a b => a - a / b * b) M L S
  | .lcmp => am_cmp M L S
  | .i2l => am_i2l M L S
  | .l2i => am_l2i M L S
  | .dup => am_dup M L S
  | .dup2 => am_dp2 M L S
  | .pop => am_pop1 M L S
  | .getfield _ => am_gf (am_x i) (am_y i) (am_w i) M L S
  | .putfield _ => am_pf (am_x i) (am_y i) (am_w i) M L S
  | .getstatic _ => am_psh (am_gs (am_x i)) M L S
  | .iaload => am_ia 20 M L S
  | .baload => am_ia (am_x i) M L S
  | .aaload => am_aa (am_x i) M L S
  | .iastore => am_is M L S
  | .bastore => am_bs M L S
  | .aastore => am_as (am_x i) (am_y i) M L S
  | .arraylength => am_al M L S
  | .newarray _ => am_na (am_x i) M L S
  | .anewarray _ => am_na (am_x i) M L S
  | .new _ => am_no (am_x i) (am_y i) M L S
  | .invokespecial _ => am_oi d M L S
  | .invokestatic _ => (match am_w i with | 0 => am_cp d M L S | w + 1 => am_ma d (w + 1) M L S)
  | _ => none
/-- a switch: the block of the first like number -/
noncomputable def am_swt (a : Int32) (dflt : Nat) (tb : List (Int32 × Nat)) : Nat := @List.rec (Int32 × Nat) (fun _ => Nat) dflt (fun q _ ih => if a = q.1 then q.2 else ih) tb
noncomputable def am_s2 (i : am_P) (S : List Value) : Option (Nat × List Value) := match i.1 with
  | .goto _ => some (am_x i, S)
  | .nop => some (am_x i, S)
  | .ifCond .eq _ => (match S with | .int a :: r => some (if a = 0 then am_x i else am_y i, r) | _ => none)
  | .ifCond .ne _ => (match S with | .int a :: r => some (if a = 0 then am_y i else am_x i, r) | _ => none)
  | .ifCond .lt _ => (match S with | .int a :: r => some (if a < 0 then am_x i else am_y i, r) | _ => none)
  | .ifCond .ge _ => (match S with | .int a :: r => some (if a < 0 then am_y i else am_x i, r) | _ => none)
  | .ifCond .gt _ => (match S with | .int a :: r => some (if 0 < a then am_x i else am_y i, r) | _ => none)
  | .ifCond .le _ => (match S with | .int a :: r => some (if 0 < a then am_y i else am_x i, r) | _ => none)
  | .if_icmp .eq _ => (match S with | .int b :: .int a :: r => some (if a = b then am_x i else am_y i, r) | _ => none)
  | .if_icmp .ne _ => (match S with | .int b :: .int a :: r => some (if a = b then am_y i else am_x i, r) | _ => none)
  | .if_icmp .lt _ => (match S with | .int b :: .int a :: r => some (if a < b then am_x i else am_y i, r) | _ => none)
  | .if_icmp .ge _ => (match S with | .int b :: .int a :: r => some (if a < b then am_y i else am_x i, r) | _ => none)
  | .if_icmp .gt _ => (match S with | .int b :: .int a :: r => some (if b < a then am_x i else am_y i, r) | _ => none)
  | .if_icmp .le _ => (match S with | .int b :: .int a :: r => some (if b < a then am_y i else am_x i, r) | _ => none)
  | .ifnonnull _ => (match S with | .null :: r => some (am_y i, r) | .ref a :: r => cond (Nat.ble 5 a) (some (am_x i, r)) none | _ => none)
  | .tableswitch _ _ _ _ => (match S with | .int a :: r => some (am_swt a (am_y i) (am_tb i), r) | _ => none)
  | .lookupswitch _ _ => (match S with | .int a :: r => some (am_swt a (am_y i) (am_tb i), r) | _ => none)
  | _ => none
/-- n off the stack, the deepest first, and what is left -/
noncomputable def am_tk (n : Nat) : List Value → List Value → Option (List Value × List Value) := @Nat.rec (fun _ => List Value → List Value → Option (List Value × List Value)) (fun acc S => some (acc, S)) (fun _ ih acc S => match S with | v :: r => ih (v :: acc) r | [] => none) n
noncomputable def am_rcv (M : am_M) (w : Nat) (as : List Value) : Bool := match w with
  | 0 => true
  | c + 1 => (match as with | .ref a :: _ => am_kd M a c && (Nat.ble 5 a || Nat.beq a 2) | _ => false)
/-- a call: of method x with z numbers, then block y; w: 1 more than the kind of what it is called on, or 0 -/
noncomputable def am_s3 (i : am_P) (M : am_M) (S : List Value) : Option (Bool × List Value × List Value) := match am_tk (am_z i) [] S with
  | some q => some (Nat.ble (am_cat q.2) 8 && am_rcv M (am_w i) q.1, q.1, q.2)
  | none => none
noncomputable def am_nar (w : Nat) (x : Int32) : Int32 := match w with
  | 0 => x
  | 1 => x &&& 1
  | 2 => x.toUInt32.toUInt16.toUInt32.toInt32
  | _ => x.toInt8.toInt32
noncomputable def am_s4 (i : am_P) (S : List Value) : Option (Option Value) := match i.1 with
  | .ireturn => (match S with | [.int x] => some (some (.int (am_nar (am_w i) x))) | _ => none)
  | .lreturn => (match S with | [.long x] => some (some (.long x)) | _ => none)
  | .areturn => (match S with | [.ref a] => some (some (.ref a)) | [.null] => some (some .null) | _ => none)
  | .return_ => (match S with | [] => some none | _ => none)
  | _ => none
noncomputable def am_sS (d : Nat) (J : Nat → am_M → am_L → List Value → Option am_V) (C : Nat → am_M → List Value → Option am_V) (i : am_P) (k : am_K) (f : Bool) (M : am_M) (L : am_L) (S : List Value) (s : Nat) : Option am_V := match s with
  | 0 => (am_s1 d i M L S).bind (fun q => k (q.1 && f) q.2.1 q.2.2.1 q.2.2.2)
  | 1 => (am_s2 i S).bind (fun q => cond f (J q.1 M L q.2) none)
  | 2 => (am_s3 i M S).bind (fun q => cond (q.1 && f) ((C (am_x i) M q.2.1).bind (fun r => J (am_y i) r.2 L (r.1.toList ++ q.2.2))) none)
  | _ => (am_s4 i S).bind (fun v => cond f (some (v, M)) none)
noncomputable def am_st (d : Nat) (J : Nat → am_M → am_L → List Value → Option am_V) (C : Nat → am_M → List Value → Option am_V) (i : am_P) (k : am_K) : am_K := fun f M L S => am_sS d J C i k f M L S (am_srt i)
noncomputable def am_ex (d : Nat) (J : Nat → am_M → am_L → List Value → Option am_V) (C : Nat → am_M → List Value → Option am_V) (is : List am_P) : am_K := @List.rec am_P (fun _ => am_K) (fun _ _ _ _ => none) (fun i _ ih => am_st d J C i ih) is
/-- the locals that a method of n slots begins with -/
noncomputable def am_sl (vs : List Value) : am_L := @List.rec Value (fun _ => am_L) [] (fun v _ ih => cond (am_isT 2 v) (some v :: none :: ih) (some v :: ih)) vs
noncomputable def am_in (n : Nat) (vs : List Value) : am_L := am_sl vs ++ List.replicate (n - (am_sl vs).length) none
end
section
abbrev k_Kept_init : Nat := 0
abbrev k_Pourer_init : Nat := 1
abbrev k_Pourer_isOf : Nat := 2
abbrev k_Pourer_goes : Nat := 3
abbrev k_Pourer_zigzag : Nat := 4
abbrev k_Pourer_digits : Nat := 5
abbrev k_Pourer_weakest : Nat := 6
abbrev k_Pouring_init : Nat := 7
abbrev k_Pouring_begin : Nat := 8
abbrev k_Pouring_drop : Nat := 9
abbrev k_Pouring_uneven : Nat := 10
abbrev k_Pouring_odd : Nat := 11
abbrev k_Pouring_wanted : Nat := 12
abbrev k_Reader_init : Nat := 13
abbrev k_Reader_read : Nat := 14
abbrev k_Reader_place : Nat := 15
abbrev k_Reader_token : Nat := 16
abbrev k_Reader_step : Nat := 17
abbrev k_Reader_clause : Nat := 18
abbrev k_Reader_demand : Nat := 19
abbrev k_Reader_part : Nat := 20
abbrev k_Reader_one : Nat := 21
abbrev k_Reader_inside : Nat := 22
abbrev k_Reader_put : Nat := 23
abbrev k_Reader_levelOf : Nat := 24
abbrev k_Search_init : Nat := 25
abbrev k_Search_ready : Nat := 26
abbrev k_Search_learnGains : Nat := 27
abbrev k_Search_gainPlace : Nat := 28
abbrev k_Search_gain : Nat := 29
abbrev k_Search_findEvenest : Nat := 30
abbrev k_Search_fewestChanges : Nat := 31
abbrev k_Search_empty : Nat := 32
abbrev k_Search_tryBalanced : Nat := 33
abbrev k_Search_hasRoom : Nat := 34
abbrev k_Search_judge : Nat := 35
abbrev k_Search_findTasted : Nat := 36
abbrev k_Search_tryTold : Nat := 37
abbrev k_Search_tellTasted : Nat := 38
abbrev k_Sheet_init : Nat := 39
abbrev k_Sheet_begin : Nat := 40
abbrev k_Sheet_isMissing : Nat := 41
abbrev k_Sheet_has : Nat := 42
abbrev k_Sheet_hasAll : Nat := 43
abbrev k_Sheet_write : Nat := 44
abbrev k_Tape_init : Nat := 45
abbrev k_Tape_splitUp : Nat := 46
abbrev k_Tape_endOf : Nat := 47
abbrev k_Tape_tokenOf : Nat := 48
abbrev k_Tape_numberOf : Nat := 49
abbrev k_Tape_wordOf : Nat := 50
abbrev k_Tape_isSpelled : Nat := 51
abbrev k_Tape_isLetter : Nat := 52
abbrev k_Tape_isDigit : Nat := 53
abbrev k_Tape_isSign : Nat := 54
abbrev k_Teller_init : Nat := 55
abbrev k_Teller_begin : Nat := 56
abbrev k_Teller_look : Nat := 57
abbrev k_Teller_strong : Nat := 58
abbrev k_Teller_drips : Nat := 59
abbrev k_Teller_liked : Nat := 60
abbrev k_Teller_within : Nat := 61
abbrev k_Teller_worth : Nat := 62
abbrev k_Teller_named : Nat := 63
abbrev k_Teller_joined : Nat := 64
abbrev k_Text_init : Nat := 65
abbrev k_E_init : Nat := 66
abbrev k_E_set : Nat := 67
abbrev k_E_changeCups : Nat := 68
abbrev k_E_changeDribs : Nat := 69
abbrev k_E_changeNumber : Nat := 70
abbrev k_E_changePrice : Nat := 71
abbrev k_E_told : Nat := 72
abbrev k_E_lay : Nat := 73
abbrev k_E_at : Nat := 74
abbrev k_E_pourer : Nat := 75
abbrev k_E_isCup : Nat := 76
abbrev k_E_isDrib : Nat := 77
abbrev k_E_isPourer : Nat := 78
abbrev k_E_isKind : Nat := 79
abbrev k_E_isThing : Nat := 80
abbrev k_E_feed : Nat := 81
abbrev k_E_text : Nat := 82
abbrev k_E_force : Nat := 83
abbrev k_E_cup : Nat := 84
abbrev k_E_all : Nat := 85
abbrev k_E_mean : Nat := 86
abbrev k_E_evenest : Nat := 87
abbrev k_E_become : Nat := 88
abbrev k_E_fewest : Nat := 89
abbrev k_E_next : Nat := 90
abbrev k_E_unevenWithOneMore : Nat := 91
abbrev k_E_pourRow : Nat := 92
abbrev k_E_pourAllBut : Nat := 93
abbrev k_E_greatestEvenPower : Nat := 94
abbrev k_E_isAsMuchInEachCup : Nat := 95
abbrev k_E_sumOfPowers : Nat := 96
abbrev k_E_waysAreFew : Nat := 97
abbrev k_E_findEvenest : Nat := 98
abbrev k_E_isPart : Nat := 99
abbrev k_E_inLowestTerms : Nat := 100
abbrev k_E_poured : Nat := 101
abbrev k_E_follow : Nat := 102
abbrev k_E_which : Nat := 103
abbrev k_E_pourBy : Nat := 104
abbrev k_E_captains : Nat := 105
abbrev k_E_dearestLeft : Nat := 106
abbrev k_E_mostLessLeast : Nat := 107
abbrev k_E_tastes : Nat := 108
abbrev k_E_whom : Nat := 109
abbrev k_E_forgotten : Nat := 110
abbrev k_E_notTasted : Nat := 111
abbrev k_E_tastesAsTold : Nat := 112
abbrev k_E_drawn : Nat := 113
abbrev k_E_chance : Nat := 114
abbrev k_E_isOff : Nat := 115
abbrev k_E_unevenByLot : Nat := 116
abbrev k_E_image : Nat := 117
abbrev k_E_back : Nat := 118
abbrev k_E_count : Nat := 119
abbrev k_E_sheet : Nat := 120
abbrev k_E_cell : Nat := 121
abbrev k_E_copy : Nat := 122
abbrev k_E_rows : Nat := 123
abbrev k_E_taken : Nat := 124
abbrev k_E_isSheet : Nat := 125
abbrev k_E_isSort : Nat := 126
abbrev k_M_in : Nat := 127
abbrev k_M_within : Nat := 128
abbrev k_M_init : Nat := 129
abbrev k_M_spell : Nat := 130
abbrev k_M_isCup : Nat := 131
abbrev k_M_isPourer : Nat := 132
abbrev k_M_set : Nat := 133
abbrev k_M_told : Nat := 134
abbrev k_M_lay : Nat := 135
abbrev k_M_at : Nat := 136
abbrev k_M_pourer : Nat := 137
abbrev k_M_feed : Nat := 138
abbrev k_M_byteAt : Nat := 139
abbrev k_M_nextToken : Nat := 140
abbrev k_M_fail : Nat := 141
abbrev k_M_isLetter : Nat := 142
abbrev k_M_isWord : Nat := 143
abbrev k_M_isSign : Nat := 144
abbrev k_M_opens : Nat := 145
abbrev k_M_name : Nat := 146
abbrev k_M_atom : Nat := 147
abbrev k_M_term : Nat := 148
abbrev k_M_added : Nat := 149
abbrev k_M_not : Nat := 150
abbrev k_M_both : Nat := 151
abbrev k_M_either : Nat := 152
abbrev k_M_part : Nat := 153
abbrev k_M_read : Nat := 154
abbrev k_M_text : Nat := 155
abbrev k_M_force : Nat := 156
abbrev k_M_says : Nat := 157
abbrev k_M_forgets : Nat := 158
abbrev k_M_noteOf : Nat := 159
abbrev k_M_strong : Nat := 160
abbrev k_M_drips : Nat := 161
abbrev k_M_begins : Nat := 162
abbrev k_M_pours : Nat := 163
abbrev k_M_uneven : Nat := 164
abbrev k_M_poursRow : Nat := 165
abbrev k_M_cup : Nat := 166
abbrev k_M_power : Nat := 167
abbrev k_M_sumOf : Nat := 168
abbrev k_M_all : Nat := 169
abbrev k_M_lowest : Nat := 170
abbrev k_M_mean : Nat := 171
abbrev k_M_areMany : Nat := 172
abbrev k_M_goes : Nat := 173
abbrev k_M_areBalanced : Nat := 174
abbrev k_M_ends : Nat := 175
abbrev k_M_keepsWay : Nat := 176
abbrev k_M_seeks : Nat := 177
abbrev k_M_evenest : Nat := 178
abbrev k_M_become : Nat := 179
abbrev k_M_fewest : Nat := 180
abbrev k_M_next : Nat := 181
abbrev k_M_zigzag : Nat := 182
abbrev k_M_digits : Nat := 183
abbrev k_M_goesTo : Nat := 184
abbrev k_M_poursBy : Nat := 185
abbrev k_M_poured : Nat := 186
abbrev k_M_follow : Nat := 187
abbrev k_M_which : Nat := 188
abbrev k_M_captains : Nat := 189
abbrev k_M_tasteBad : Nat := 190
abbrev k_M_tastes : Nat := 191
abbrev k_M_whom : Nat := 192
abbrev k_M_forgotten : Nat := 193
abbrev k_M_draws : Nat := 194
abbrev k_M_drawn : Nat := 195
abbrev k_M_chance : Nat := 196
abbrev k_M_image : Nat := 197
abbrev k_M_back : Nat := 198
abbrev k_M_count : Nat := 199
abbrev k_M_isSheet : Nat := 200
abbrev k_M_sheet : Nat := 201
abbrev k_M_cell : Nat := 202
abbrev k_M_copy : Nat := 203
abbrev k_M_rows : Nat := 204
abbrev k_M_over : Nat := 205
abbrev k_M_taken : Nat := 206
abbrev k_Law_law : Nat := 207
abbrev k_String_length : Nat := 208
abbrev k_String_charAt : Nat := 209
abbrev k_String_coder : Nat := 210
abbrev k_String_isLatin1 : Nat := 211
abbrev k_String_checkIndex : Nat := 212
abbrev k_StringLatin1_charAt : Nat := 213
abbrev k_Arrays_fill : Nat := 214
abbrev k_Arrays_copyOf : Nat := 215
abbrev k_Preconditions_checkIndex : Nat := 216
/-- EvenlyPoured$Kept.<init>()V -/
noncomputable def bk_0 : List (List am_P) := [[(.aload_n 0, (1, 0, 0, 0, 0, 0), 0, []), (.invokespecial 3, (3, 0, 0, 0, 1088, 0), 0, []), (.aload_n 0, (1, 0, 0, 0, 0, 0), 0, []), (.iconst 0, (1, 0, 0, 0, 0, 0), 0, []), (.putfield 9, (3, 0, 0, 0, 1089, 3), 0, []), (.aload_n 0, (1, 0, 0, 0, 0, 0), 0, []), (.bipush 24, (2, 0, 0, 0, 0, 0), 24, []), (.newarray .int, (2, 0, 20, 0, 0, 0), 0, []), (.putfield 15, (3, 0, 0, 5, 1095, 1), 0, []), (.aload_n 0, (1, 0, 0, 0, 0, 0), 0, []), (.bipush 8, (2, 0, 0, 0, 0, 0), 8, []), (.newarray .int, (2, 0, 20, 0, 0, 0), 0, []), (.putfield 19, (3, 0, 0, 6, 1097, 1), 0, []), (.aload_n 0, (1, 0, 0, 0, 0, 0), 0, []), (.bipush 6, (2, 0, 0, 0, 0, 0), 6, []), (.newarray .int, (2, 0, 20, 0, 0, 0), 0, []), (.putfield 22, (3, 0, 0, 7, 1099, 1), 0, []), (.return_, (1, 3, 0, 0, 0, 0), 0, [])]]
/-- EvenlyPoured$Pourer.<init>()V -/
noncomputable def bk_1 : List (List am_P) := [[(.aload_n 0, (1, 0, 0, 0, 0, 0), 0, []), (.invokespecial 3, (3, 0, 0, 0, 1141, 0), 0, []), (.aload_n 0, (1, 0, 0, 0, 0, 0), 0, []), (.iconst 0, (1, 0, 0, 0, 0, 0), 0, []), (.putfield 9, (3, 0, 1, 0, 1142, 0), 0, []), (.aload_n 0, (1, 0, 0, 0, 0, 0), 0, []), (.iconst 0, (1, 0, 0, 0, 0, 0), 0, []), (.putfield 15, (3, 0, 1, 1, 1144, 0), 0, []), (.return_, (1, 3, 0, 0, 0, 0), 0, [])]]
/-- EvenlyPoured$Pourer.isOf(I)Z -/
noncomputable def bk_2 : List (List am_P) := [[(.aload_n 0, (1, 0, 0, 0, 0, 0), 0, []), (.getfield 9, (3, 0, 1, 0, 1142, 0), 0, []), (.istore_n 2, (1, 0, 2, 0, 0, 0), 0, []), (.iconst 0, (1, 0, 0, 0, 0, 0), 0, []), (.istore_n 3, (1, 0, 3, 0, 0, 0), 0, []), (.nop, (0, 1, 1, 0, 0, 0), 0, [])],
  [(.iload_n 3, (1, 0, 3, 0, 0, 0), 0, []), (.bipush 6, (2, 0, 0, 0, 0, 0), 6, []), (.if_icmp .ge 29, (3, 1, 7, 2, 0, 0), 0, [])],
  [(.iload_n 2, (1, 0, 2, 0, 0, 0), 0, []), (.invokestatic 18, (3, 2, 79, 3, 1, 0), 4168, [])],
  [(.ifCond .eq 22, (3, 1, 7, 4, 0, 0), 0, [])],
  [(.iload_n 2, (1, 0, 2, 0, 0, 0), 0, []), (.iload_n 1, (1, 0, 1, 0, 0, 0), 0, []), (.if_icmp .ne 5, (3, 1, 6, 5, 0, 0), 0, [])],
  [(.iconst 1, (1, 0, 0, 0, 0, 0), 1, []), (.ireturn, (1, 3, 0, 0, 0, 1), 0, [])],
  [(.getstatic 22, (3, 0, 0, 0, 4169, 0), 0, []), (.iload_n 2, (1, 0, 2, 0, 0, 0), 0, []), (.iaload, (1, 0, 0, 0, 0, 0), 0, []), (.istore_n 2, (1, 0, 2, 0, 0, 0), 0, []), (.iinc 3 1, (3, 0, 3, 0, 0, 0), 1, []), (.goto (-29), (3, 1, 1, 0, 0, 0), 0, [])],
  [(.iconst 0, (1, 0, 0, 0, 0, 0), 0, []), (.ireturn, (1, 3, 0, 0, 0, 1), 0, [])]]
/-- EvenlyPoured$Pourer.goes(II[I)I -/
noncomputable def bk_3 : List (List am_P) := [[(.iload_n 2, (1, 0, 2, 0, 0, 0), 0, []), (.iconst 1, (1, 0, 0, 0, 0, 0), 1, []), (.if_icmp .lt 10, (3, 1, 2, 1, 0, 0), 0, [])],
  [(.aload_n 0, (1, 0, 0, 0, 0, 0), 0, []), (.getfield 15, (3, 0, 1, 1, 1144, 0), 0, []), (.ifCond .ge 5, (3, 1, 3, 2, 0, 0), 0, [])],
  [(.iconst 0, (1, 0, 0, 0, 0, 0), 0, []), (.ireturn, (1, 3, 0, 0, 0, 0), 0, [])],
  [(.aload_n 0, (1, 0, 0, 0, 0, 0), 0, []), (.getfield 9, (3, 0, 1, 0, 1142, 0), 0, []), (.tableswitch 85 0 4 #[34, 43, 49, 57, 70], (34, 1, 0, 13, 0, 0), 0, [(0, 4), (1, 5), (2, 7), (3, 9), (4, 11)])],
  [(.iload_n 1, (1, 0, 1, 0, 0, 0), 0, []), (.aload_n 0, (1, 0, 0, 0, 0, 0), 0, []), (.getfield 15, (3, 0, 1, 1, 1144, 0), 0, []), (.iadd, (1, 0, 0, 0, 0, 0), 0, []), (.iload_n 2, (1, 0, 2, 0, 0, 0), 0, []), (.irem, (1, 0, 0, 0, 0, 0), 0, []), (.ireturn, (1, 3, 0, 0, 0, 0), 0, [])],
  [(.iload_n 1, (1, 0, 1, 0, 0, 0), 0, []), (.iload_n 2, (1, 0, 2, 0, 0, 0), 0, []), (.invokestatic 26, (3, 2, 4, 6, 2, 0), 4030, [])],
  [(.ireturn, (1, 3, 0, 0, 0, 0), 0, [])],
  [(.iload_n 1, (1, 0, 1, 0, 0, 0), 0, []), (.iload_n 2, (1, 0, 2, 0, 0, 0), 0, []), (.invokestatic 30, (3, 2, 5, 8, 2, 0), 4033, [])],
  [(.iload_n 2, (1, 0, 2, 0, 0, 0), 0, []), (.irem, (1, 0, 0, 0, 0, 0), 0, []), (.ireturn, (1, 3, 0, 0, 0, 0), 0, [])],
  [(.iload_n 1, (1, 0, 1, 0, 0, 0), 0, []), (.aload_n 0, (1, 0, 0, 0, 0, 0), 0, []), (.getfield 15, (3, 0, 1, 1, 1144, 0), 0, []), (.iconst 1, (1, 0, 0, 0, 0, 0), 1, []), (.iadd, (1, 0, 0, 0, 0, 0), 0, []), (.idiv, (1, 0, 0, 0, 0, 0), 0, []), (.iload_n 2, (1, 0, 2, 0, 0, 0), 0, []), (.invokestatic 26, (3, 2, 4, 10, 2, 0), 4030, [])],
  [(.ireturn, (1, 3, 0, 0, 0, 0), 0, [])],
  [(.iload_n 1, (1, 0, 1, 0, 0, 0), 0, []), (.aload_n 0, (1, 0, 0, 0, 0, 0), 0, []), (.getfield 15, (3, 0, 1, 1, 1144, 0), 0, []), (.iadd, (1, 0, 0, 0, 0, 0), 0, []), (.iload_n 2, (1, 0, 2, 0, 0, 0), 0, []), (.invokestatic 30, (3, 2, 5, 12, 2, 0), 4033, [])],
  [(.iconst 1, (1, 0, 0, 0, 0, 0), 1, []), (.iadd, (1, 0, 0, 0, 0, 0), 0, []), (.iload_n 2, (1, 0, 2, 0, 0, 0), 0, []), (.irem, (1, 0, 0, 0, 0, 0), 0, []), (.ireturn, (1, 3, 0, 0, 0, 0), 0, [])],
  [(.iload_n 1, (1, 0, 1, 0, 0, 0), 0, []), (.aload_n 0, (1, 0, 0, 0, 0, 0), 0, []), (.getfield 15, (3, 0, 1, 1, 1144, 0), 0, []), (.if_icmp .ge 11, (3, 1, 16, 14, 0, 0), 0, [])],
  [(.iload_n 1, (1, 0, 1, 0, 0, 0), 0, []), (.iload_n 2, (1, 0, 2, 0, 0, 0), 0, []), (.invokestatic 26, (3, 2, 4, 15, 2, 0), 4030, [])],
  [(.goto 8, (3, 1, 17, 0, 0, 0), 0, [])],
  [(.iload_n 2, (1, 0, 2, 0, 0, 0), 0, []), (.aload_n 3, (1, 0, 3, 0, 0, 0), 0, []), (.invokestatic 33, (3, 2, 6, 17, 2, 0), 4037, [])],
  [(.ireturn, (1, 3, 0, 0, 0, 0), 0, [])]]
/-- EvenlyPoured$Pourer.zigzag(II)I -/
noncomputable def bk_4 : List (List am_P) := [[(.iload_n 0, (1, 0, 0, 0, 0, 0), 0, []), (.iload_n 1, (1, 0, 1, 0, 0, 0), 0, []), (.irem, (1, 0, 0, 0, 0, 0), 0, []), (.istore_n 2, (1, 0, 2, 0, 0, 0), 0, []), (.iload_n 0, (1, 0, 0, 0, 0, 0), 0, []), (.iload_n 1, (1, 0, 1, 0, 0, 0), 0, []), (.idiv, (1, 0, 0, 0, 0, 0), 0, []), (.iconst 2, (1, 0, 0, 0, 0, 0), 2, []), (.irem, (1, 0, 0, 0, 0, 0), 0, []), (.ifCond .ne 7, (3, 1, 2, 1, 0, 0), 0, [])],
  [(.iload_n 2, (1, 0, 2, 0, 0, 0), 0, []), (.goto 8, (3, 1, 3, 0, 0, 0), 0, [])],
  [(.iload_n 1, (1, 0, 1, 0, 0, 0), 0, []), (.iconst 1, (1, 0, 0, 0, 0, 0), 1, []), (.isub, (1, 0, 0, 0, 0, 0), 0, []), (.iload_n 2, (1, 0, 2, 0, 0, 0), 0, []), (.isub, (1, 0, 0, 0, 0, 0), 0, []), (.nop, (0, 1, 3, 0, 0, 0), 0, [])],
  [(.ireturn, (1, 3, 0, 0, 0, 0), 0, [])]]
/-- EvenlyPoured$Pourer.digits(II)I -/
noncomputable def bk_5 : List (List am_P) := [[(.iload_n 1, (1, 0, 1, 0, 0, 0), 0, []), (.iconst 2, (1, 0, 0, 0, 0, 0), 2, []), (.invokestatic 37, (3, 0, 0, 0, 4036, 1), 0, []), (.istore_n 2, (1, 0, 2, 0, 0, 0), 0, []), (.iload_n 0, (1, 0, 0, 0, 0, 0), 0, []), (.istore_n 3, (1, 0, 3, 0, 0, 0), 0, []), (.iconst 0, (1, 0, 0, 0, 0, 0), 0, []), (.istore 4, (2, 0, 4, 0, 0, 0), 0, []), (.iconst 0, (1, 0, 0, 0, 0, 0), 0, []), (.istore 5, (2, 0, 5, 0, 0, 0), 0, []), (.nop, (0, 1, 1, 0, 0, 0), 0, [])],
  [(.iload 5, (2, 0, 5, 0, 0, 0), 0, []), (.bipush 32, (2, 0, 0, 0, 0, 0), 32, []), (.if_icmp .ge 25, (3, 1, 4, 2, 0, 0), 0, [])],
  [(.iload_n 3, (1, 0, 3, 0, 0, 0), 0, []), (.ifCond .le 21, (3, 1, 4, 3, 0, 0), 0, [])],
  [(.iload 4, (2, 0, 4, 0, 0, 0), 0, []), (.iload_n 3, (1, 0, 3, 0, 0, 0), 0, []), (.iload_n 2, (1, 0, 2, 0, 0, 0), 0, []), (.irem, (1, 0, 0, 0, 0, 0), 0, []), (.iadd, (1, 0, 0, 0, 0, 0), 0, []), (.istore 4, (2, 0, 4, 0, 0, 0), 0, []), (.iload_n 3, (1, 0, 3, 0, 0, 0), 0, []), (.iload_n 2, (1, 0, 2, 0, 0, 0), 0, []), (.idiv, (1, 0, 0, 0, 0, 0), 0, []), (.istore_n 3, (1, 0, 3, 0, 0, 0), 0, []), (.iinc 5 1, (3, 0, 5, 0, 0, 0), 1, []), (.goto (-26), (3, 1, 1, 0, 0, 0), 0, [])],
  [(.iload 4, (2, 0, 4, 0, 0, 0), 0, []), (.ireturn, (1, 3, 0, 0, 0, 0), 0, [])]]
/-- EvenlyPoured$Pourer.weakest(I[I)I -/
noncomputable def bk_6 : List (List am_P) := [[(.iconst 0, (1, 0, 0, 0, 0, 0), 0, []), (.istore_n 2, (1, 0, 2, 0, 0, 0), 0, []), (.iconst 1, (1, 0, 0, 0, 0, 0), 1, []), (.istore_n 3, (1, 0, 3, 0, 0, 0), 0, []), (.nop, (0, 1, 1, 0, 0, 0), 0, [])],
  [(.iload_n 3, (1, 0, 3, 0, 0, 0), 0, []), (.iload_n 0, (1, 0, 0, 0, 0, 0), 0, []), (.if_icmp .ge 20, (3, 1, 5, 2, 0, 0), 0, [])],
  [(.aload_n 1, (1, 0, 1, 0, 0, 0), 0, []), (.iload_n 3, (1, 0, 3, 0, 0, 0), 0, []), (.iaload, (1, 0, 0, 0, 0, 0), 0, []), (.aload_n 1, (1, 0, 1, 0, 0, 0), 0, []), (.iload_n 2, (1, 0, 2, 0, 0, 0), 0, []), (.iaload, (1, 0, 0, 0, 0, 0), 0, []), (.if_icmp .ge 5, (3, 1, 4, 3, 0, 0), 0, [])],
  [(.iload_n 3, (1, 0, 3, 0, 0, 0), 0, []), (.istore_n 2, (1, 0, 2, 0, 0, 0), 0, []), (.nop, (0, 1, 4, 0, 0, 0), 0, [])],
  [(.iinc 3 1, (3, 0, 3, 0, 0, 0), 1, []), (.goto (-19), (3, 1, 1, 0, 0, 0), 0, [])],
  [(.iload_n 2, (1, 0, 2, 0, 0, 0), 0, []), (.ireturn, (1, 3, 0, 0, 0, 0), 0, [])]]
/-- EvenlyPoured$Pouring.<init>(LEvenlyPoured$Teller;)V -/
noncomputable def bk_7 : List (List am_P) := [[(.aload_n 0, (1, 0, 0, 0, 0, 0), 0, []), (.invokespecial 3, (3, 0, 0, 0, 1190, 0), 0, []), (.aload_n 0, (1, 0, 0, 0, 0, 0), 0, []), (.iconst 4, (1, 0, 0, 0, 0, 0), 4, []), (.newarray .int, (2, 0, 20, 0, 0, 0), 0, []), (.putfield 9, (3, 0, 2, 1, 1192, 1), 0, []), (.aload_n 0, (1, 0, 0, 0, 0, 0), 0, []), (.iconst 4, (1, 0, 0, 0, 0, 0), 4, []), (.newarray .int, (2, 0, 20, 0, 0, 0), 0, []), (.putfield 15, (3, 0, 2, 2, 1194, 1), 0, []), (.aload_n 0, (1, 0, 0, 0, 0, 0), 0, []), (.aload_n 1, (1, 0, 1, 0, 0, 0), 0, []), (.putfield 18, (3, 0, 2, 0, 1191, 1), 0, []), (.return_, (1, 3, 0, 0, 0, 0), 0, [])]]
/-- EvenlyPoured$Pouring.begin(LEvenlyPoured$Text;II)V -/
noncomputable def bk_8 : List (List am_P) := [[(.aload_n 0, (1, 0, 0, 0, 0, 0), 0, []), (.getfield 18, (3, 0, 2, 0, 1191, 1), 0, []), (.aload_n 1, (1, 0, 1, 0, 0, 0), 0, []), (.iload_n 2, (1, 0, 2, 0, 0, 0), 0, []), (.iload_n 3, (1, 0, 3, 0, 0, 0), 0, []), (.invokevirtual 22, (3, 2, 56, 1, 4, 8), 3088, [])],
  [(.aload_n 0, (1, 0, 0, 0, 0, 0), 0, []), (.iload_n 2, (1, 0, 2, 0, 0, 0), 0, []), (.putfield 28, (3, 0, 2, 3, 1196, 0), 0, []), (.aload_n 0, (1, 0, 0, 0, 0, 0), 0, []), (.iload_n 3, (1, 0, 3, 0, 0, 0), 0, []), (.putfield 32, (3, 0, 2, 4, 1197, 0), 0, []), (.aload_n 0, (1, 0, 0, 0, 0, 0), 0, []), (.iconst (-1), (1, 0, 0, 0, 0, 0), (-1), []), (.putfield 35, (3, 0, 2, 5, 1198, 0), 0, []), (.aload_n 0, (1, 0, 0, 0, 0, 0), 0, []), (.iconst 0, (1, 0, 0, 0, 0, 0), 0, []), (.putfield 38, (3, 0, 2, 6, 1199, 0), 0, []), (.aload_n 0, (1, 0, 0, 0, 0, 0), 0, []), (.iconst 0, (1, 0, 0, 0, 0, 0), 0, []), (.putfield 41, (3, 0, 2, 7, 1201, 0), 0, []), (.aload_n 0, (1, 0, 0, 0, 0, 0), 0, []), (.getfield 9, (3, 0, 2, 1, 1192, 1), 0, []), (.iconst 0, (1, 0, 0, 0, 0, 0), 0, []), (.invokestatic 44, (3, 2, 214, 2, 2, 0), 3092, [])],
  [(.aload_n 0, (1, 0, 0, 0, 0, 0), 0, []), (.getfield 15, (3, 0, 2, 2, 1194, 1), 0, []), (.iconst 0, (1, 0, 0, 0, 0, 0), 0, []), (.invokestatic 44, (3, 2, 214, 3, 2, 0), 3092, [])],
  [(.return_, (1, 3, 0, 0, 0, 0), 0, [])]]
/-- EvenlyPoured$Pouring.drop(III)V -/
noncomputable def bk_9 : List (List am_P) := [[(.aload_n 0, (1, 0, 0, 0, 0, 0), 0, []), (.getfield 35, (3, 0, 2, 5, 1198, 0), 0, []), (.iconst (-1), (1, 0, 0, 0, 0, 0), (-1), []), (.if_icmp .ne 7, (3, 1, 2, 1, 0, 0), 0, [])],
  [(.iload_n 2, (1, 0, 2, 0, 0, 0), 0, []), (.goto 7, (3, 1, 3, 0, 0, 0), 0, [])],
  [(.aload_n 0, (1, 0, 0, 0, 0, 0), 0, []), (.getfield 35, (3, 0, 2, 5, 1198, 0), 0, []), (.nop, (0, 1, 3, 0, 0, 0), 0, [])],
  [(.istore 4, (2, 0, 4, 0, 0, 0), 0, []), (.aload_n 0, (1, 0, 0, 0, 0, 0), 0, []), (.getfield 18, (3, 0, 2, 0, 1191, 1), 0, []), (.iload_n 1, (1, 0, 1, 0, 0, 0), 0, []), (.iload_n 2, (1, 0, 2, 0, 0, 0), 0, []), (.aload_n 0, (1, 0, 0, 0, 0, 0), 0, []), (.getfield 9, (3, 0, 2, 1, 1192, 1), 0, []), (.iload_n 2, (1, 0, 2, 0, 0, 0), 0, []), (.iaload, (1, 0, 0, 0, 0, 0), 0, []), (.iload 4, (2, 0, 4, 0, 0, 0), 0, []), (.invokevirtual 50, (3, 2, 57, 4, 5, 8), 3097, [])],
  [(.aload_n 0, (1, 0, 0, 0, 0, 0), 0, []), (.getfield 18, (3, 0, 2, 0, 1191, 1), 0, []), (.invokevirtual 54, (3, 2, 58, 5, 1, 8), 3101, [])],
  [(.iload_n 3, (1, 0, 3, 0, 0, 0), 0, []), (.iadd, (1, 0, 0, 0, 0, 0), 0, []), (.istore 5, (2, 0, 5, 0, 0, 0), 0, []), (.iload_n 2, (1, 0, 2, 0, 0, 0), 0, []), (.iload 4, (2, 0, 4, 0, 0, 0), 0, []), (.if_icmp .eq 42, (3, 1, 8, 6, 0, 0), 0, [])],
  [(.aload_n 0, (1, 0, 0, 0, 0, 0), 0, []), (.getfield 18, (3, 0, 2, 0, 1191, 1), 0, []), (.iload 5, (2, 0, 5, 0, 0, 0), 0, []), (.invokevirtual 58, (3, 2, 59, 7, 2, 8), 3123, [])],
  [(.istore 6, (2, 0, 6, 0, 0, 0), 0, []), (.iload 5, (2, 0, 5, 0, 0, 0), 0, []), (.iload 6, (2, 0, 6, 0, 0, 0), 0, []), (.isub, (1, 0, 0, 0, 0, 0), 0, []), (.istore 5, (2, 0, 5, 0, 0, 0), 0, []), (.aload_n 0, (1, 0, 0, 0, 0, 0), 0, []), (.dup, (1, 0, 0, 0, 0, 0), 0, []), (.getfield 41, (3, 0, 2, 7, 1201, 0), 0, []), (.iload 6, (2, 0, 6, 0, 0, 0), 0, []), (.iadd, (1, 0, 0, 0, 0, 0), 0, []), (.putfield 41, (3, 0, 2, 7, 1201, 0), 0, []), (.aload_n 0, (1, 0, 0, 0, 0, 0), 0, []), (.dup, (1, 0, 0, 0, 0, 0), 0, []), (.getfield 38, (3, 0, 2, 6, 1199, 0), 0, []), (.iconst 1, (1, 0, 0, 0, 0, 0), 1, []), (.iadd, (1, 0, 0, 0, 0, 0), 0, []), (.putfield 38, (3, 0, 2, 6, 1199, 0), 0, []), (.nop, (0, 1, 8, 0, 0, 0), 0, [])],
  [(.aload_n 0, (1, 0, 0, 0, 0, 0), 0, []), (.getfield 9, (3, 0, 2, 1, 1192, 1), 0, []), (.iload_n 2, (1, 0, 2, 0, 0, 0), 0, []), (.dup2, (1, 0, 0, 0, 0, 0), 0, []), (.iaload, (1, 0, 0, 0, 0, 0), 0, []), (.iconst 1, (1, 0, 0, 0, 0, 0), 1, []), (.iadd, (1, 0, 0, 0, 0, 0), 0, []), (.iastore, (1, 0, 0, 0, 0, 0), 0, []), (.aload_n 0, (1, 0, 0, 0, 0, 0), 0, []), (.getfield 15, (3, 0, 2, 2, 1194, 1), 0, []), (.iload_n 2, (1, 0, 2, 0, 0, 0), 0, []), (.dup2, (1, 0, 0, 0, 0, 0), 0, []), (.iaload, (1, 0, 0, 0, 0, 0), 0, []), (.iload 5, (2, 0, 5, 0, 0, 0), 0, []), (.iadd, (1, 0, 0, 0, 0, 0), 0, []), (.iastore, (1, 0, 0, 0, 0, 0), 0, []), (.aload_n 0, (1, 0, 0, 0, 0, 0), 0, []), (.iload_n 2, (1, 0, 2, 0, 0, 0), 0, []), (.putfield 35, (3, 0, 2, 5, 1198, 0), 0, []), (.return_, (1, 3, 0, 0, 0, 0), 0, [])]]
/-- EvenlyPoured$Pouring.uneven()I -/
noncomputable def bk_10 : List (List am_P) := [[(.aload_n 0, (1, 0, 0, 0, 0, 0), 0, []), (.getfield 15, (3, 0, 2, 2, 1194, 1), 0, []), (.aload_n 0, (1, 0, 0, 0, 0, 0), 0, []), (.getfield 28, (3, 0, 2, 3, 1196, 0), 0, []), (.invokestatic 62, (3, 2, 107, 1, 2, 0), 3143, [])],
  [(.ireturn, (1, 3, 0, 0, 0, 0), 0, [])]]
/-- EvenlyPoured$Pouring.odd()I -/
noncomputable def bk_11 : List (List am_P) := [[(.iconst 0, (1, 0, 0, 0, 0, 0), 0, []), (.istore_n 1, (1, 0, 1, 0, 0, 0), 0, []), (.iconst 0, (1, 0, 0, 0, 0, 0), 0, []), (.istore_n 2, (1, 0, 2, 0, 0, 0), 0, []), (.nop, (0, 1, 1, 0, 0, 0), 0, [])],
  [(.iload_n 2, (1, 0, 2, 0, 0, 0), 0, []), (.aload_n 0, (1, 0, 0, 0, 0, 0), 0, []), (.getfield 28, (3, 0, 2, 3, 1196, 0), 0, []), (.if_icmp .ge 27, (3, 1, 4, 2, 0, 0), 0, [])],
  [(.iload_n 1, (1, 0, 1, 0, 0, 0), 0, []), (.aload_n 0, (1, 0, 0, 0, 0, 0), 0, []), (.getfield 15, (3, 0, 2, 2, 1194, 1), 0, []), (.iload_n 2, (1, 0, 2, 0, 0, 0), 0, []), (.iaload, (1, 0, 0, 0, 0, 0), 0, []), (.aload_n 0, (1, 0, 0, 0, 0, 0), 0, []), (.iload_n 2, (1, 0, 2, 0, 0, 0), 0, []), (.invokevirtual 66, (3, 2, 12, 3, 2, 3), 3152, [])],
  [(.isub, (1, 0, 0, 0, 0, 0), 0, []), (.invokestatic 69, (3, 0, 0, 0, 3153, 3), 0, []), (.iadd, (1, 0, 0, 0, 0, 0), 0, []), (.istore_n 1, (1, 0, 1, 0, 0, 0), 0, []), (.iinc 2 1, (3, 0, 2, 0, 0, 0), 1, []), (.goto (-29), (3, 1, 1, 0, 0, 0), 0, [])],
  [(.iload_n 1, (1, 0, 1, 0, 0, 0), 0, []), (.ireturn, (1, 3, 0, 0, 0, 0), 0, [])]]
/-- EvenlyPoured$Pouring.wanted(I)I -/
noncomputable def bk_12 : List (List am_P) := [[(.aload_n 0, (1, 0, 0, 0, 0, 0), 0, []), (.getfield 18, (3, 0, 2, 0, 1191, 1), 0, []), (.aload_n 0, (1, 0, 0, 0, 0, 0), 0, []), (.getfield 32, (3, 0, 2, 4, 1197, 0), 0, []), (.iload_n 1, (1, 0, 1, 0, 0, 0), 0, []), (.aload_n 0, (1, 0, 0, 0, 0, 0), 0, []), (.getfield 9, (3, 0, 2, 1, 1192, 1), 0, []), (.iload_n 1, (1, 0, 1, 0, 0, 0), 0, []), (.iaload, (1, 0, 0, 0, 0, 0), 0, []), (.iload_n 1, (1, 0, 1, 0, 0, 0), 0, []), (.invokevirtual 50, (3, 2, 57, 1, 5, 8), 3097, [])],
  [(.aload_n 0, (1, 0, 0, 0, 0, 0), 0, []), (.getfield 18, (3, 0, 2, 0, 1191, 1), 0, []), (.invokevirtual 74, (3, 2, 60, 2, 1, 8), 3131, [])],
  [(.ireturn, (1, 3, 0, 0, 0, 0), 0, [])]]
/-- EvenlyPoured$Reader.<init>(LEvenlyPoured$Tape;)V -/
noncomputable def bk_13 : List (List am_P) := [[(.aload_n 0, (1, 0, 0, 0, 0, 0), 0, []), (.invokespecial 3, (3, 0, 0, 0, 1064, 0), 0, []), (.aload_n 0, (1, 0, 0, 0, 0, 0), 0, []), (.iconst 0, (1, 0, 0, 0, 0, 0), 0, []), (.putfield 9, (3, 0, 3, 1, 1066, 0), 0, []), (.aload_n 0, (1, 0, 0, 0, 0, 0), 0, []), (.iconst 0, (1, 0, 0, 0, 0, 0), 0, []), (.putfield 15, (3, 0, 3, 2, 1067, 3), 0, []), (.aload_n 0, (1, 0, 0, 0, 0, 0), 0, []), (.sipush 160, (3, 0, 0, 0, 0, 0), 160, []), (.newarray .int, (2, 0, 20, 0, 0, 0), 0, []), (.putfield 19, (3, 0, 3, 3, 1068, 1), 0, []), (.aload_n 0, (1, 0, 0, 0, 0, 0), 0, []), (.iconst 0, (1, 0, 0, 0, 0, 0), 0, []), (.putfield 23, (3, 0, 3, 4, 1069, 0), 0, []), (.aload_n 0, (1, 0, 0, 0, 0, 0), 0, []), (.aload_n 1, (1, 0, 1, 0, 0, 0), 0, []), (.putfield 26, (3, 0, 3, 0, 1065, 1), 0, []), (.return_, (1, 3, 0, 0, 0, 0), 0, [])]]
/-- EvenlyPoured$Reader.read()LEvenlyPoured$Text; -/
noncomputable def bk_14 : List (List am_P) := [[(.aload_n 0, (1, 0, 0, 0, 0, 0), 0, []), (.getfield 26, (3, 0, 3, 0, 1065, 1), 0, []), (.invokevirtual 30, (3, 2, 46, 1, 1, 7), 2168, [])],
  [(.aload_n 0, (1, 0, 0, 0, 0, 0), 0, []), (.iconst 0, (1, 0, 0, 0, 0, 0), 0, []), (.putfield 9, (3, 0, 3, 1, 1066, 0), 0, []), (.aload_n 0, (1, 0, 0, 0, 0, 0), 0, []), (.iconst 0, (1, 0, 0, 0, 0, 0), 0, []), (.putfield 15, (3, 0, 3, 2, 1067, 3), 0, []), (.aload_n 0, (1, 0, 0, 0, 0, 0), 0, []), (.bipush (-6), (2, 0, 0, 0, 0, 0), (-6), []), (.invokevirtual 35, (3, 2, 18, 2, 2, 4), 3010, [])],
  [(.astore_n 1, (1, 0, 1, 0, 0, 0), 0, []), (.aload_n 0, (1, 0, 0, 0, 0, 0), 0, []), (.bipush (-7), (2, 0, 0, 0, 0, 0), (-7), []), (.invokevirtual 35, (3, 2, 18, 3, 2, 4), 3010, [])],
  [(.astore_n 2, (1, 0, 2, 0, 0, 0), 0, []), (.aload_n 0, (1, 0, 0, 0, 0, 0), 0, []), (.bipush (-8), (2, 0, 0, 0, 0, 0), (-8), []), (.invokevirtual 35, (3, 2, 18, 4, 2, 4), 3010, [])],
  [(.astore_n 3, (1, 0, 3, 0, 0, 0), 0, []), (.aload_n 0, (1, 0, 0, 0, 0, 0), 0, []), (.invokevirtual 39, (3, 2, 16, 5, 1, 4), 3018, [])],
  [(.iconst (-1), (1, 0, 0, 0, 0, 0), (-1), []), (.if_icmp .eq 8, (3, 1, 7, 6, 0, 0), 0, [])],
  [(.aload_n 0, (1, 0, 0, 0, 0, 0), 0, []), (.iconst 1, (1, 0, 0, 0, 0, 0), 1, []), (.putfield 15, (3, 0, 3, 2, 1067, 3), 0, []), (.nop, (0, 1, 7, 0, 0, 0), 0, [])],
  [(.aload_n 0, (1, 0, 0, 0, 0, 0), 0, []), (.getfield 15, (3, 0, 3, 2, 1067, 3), 0, []), (.ifCond .eq 7, (3, 1, 9, 8, 0, 0), 0, [])],
  [(.aconst_null, (1, 0, 0, 0, 0, 0), 0, []), (.goto 13, (3, 1, 10, 0, 0, 0), 0, [])],
  [(.new 43, (3, 0, 8, 3, 3061, 0), 0, []), (.dup, (1, 0, 0, 0, 0, 0), 0, []), (.aload_n 1, (1, 0, 1, 0, 0, 0), 0, []), (.aload_n 2, (1, 0, 2, 0, 0, 0), 0, []), (.aload_n 3, (1, 0, 3, 0, 0, 0), 0, []), (.invokespecial 45, (3, 2, 65, 10, 4, 0), 3062, [])],
  [(.areturn, (1, 3, 0, 0, 0, 0), 0, [])]]
/-- EvenlyPoured$Reader.place()I -/
noncomputable def bk_15 : List (List am_P) := [[(.aload_n 0, (1, 0, 0, 0, 0, 0), 0, []), (.getfield 26, (3, 0, 3, 0, 1065, 1), 0, []), (.getfield 48, (3, 0, 6, 3, 1044, 1), 0, []), (.aload_n 0, (1, 0, 0, 0, 0, 0), 0, []), (.getfield 9, (3, 0, 3, 1, 1066, 0), 0, []), (.iaload, (1, 0, 0, 0, 0, 0), 0, []), (.ireturn, (1, 3, 0, 0, 0, 0), 0, [])]]
/-- EvenlyPoured$Reader.token()I -/
noncomputable def bk_16 : List (List am_P) := [[(.aload_n 0, (1, 0, 0, 0, 0, 0), 0, []), (.getfield 26, (3, 0, 3, 0, 1065, 1), 0, []), (.getfield 51, (3, 0, 6, 2, 1042, 1), 0, []), (.aload_n 0, (1, 0, 0, 0, 0, 0), 0, []), (.getfield 9, (3, 0, 3, 1, 1066, 0), 0, []), (.iaload, (1, 0, 0, 0, 0, 0), 0, []), (.ireturn, (1, 3, 0, 0, 0, 0), 0, [])]]
/-- EvenlyPoured$Reader.step()V -/
noncomputable def bk_17 : List (List am_P) := [[(.aload_n 0, (1, 0, 0, 0, 0, 0), 0, []), (.getfield 15, (3, 0, 3, 2, 1067, 3), 0, []), (.ifCond .ne 27, (3, 1, 3, 1, 0, 0), 0, [])],
  [(.aload_n 0, (1, 0, 0, 0, 0, 0), 0, []), (.getfield 9, (3, 0, 3, 1, 1066, 0), 0, []), (.aload_n 0, (1, 0, 0, 0, 0, 0), 0, []), (.getfield 26, (3, 0, 3, 0, 1065, 1), 0, []), (.getfield 54, (3, 0, 6, 4, 1046, 0), 0, []), (.if_icmp .ge 13, (3, 1, 3, 2, 0, 0), 0, [])],
  [(.aload_n 0, (1, 0, 0, 0, 0, 0), 0, []), (.dup, (1, 0, 0, 0, 0, 0), 0, []), (.getfield 9, (3, 0, 3, 1, 1066, 0), 0, []), (.iconst 1, (1, 0, 0, 0, 0, 0), 1, []), (.iadd, (1, 0, 0, 0, 0, 0), 0, []), (.putfield 9, (3, 0, 3, 1, 1066, 0), 0, []), (.nop, (0, 1, 3, 0, 0, 0), 0, [])],
  [(.return_, (1, 3, 0, 0, 0, 0), 0, [])]]
/-- EvenlyPoured$Reader.clause(I)[I -/
noncomputable def bk_18 : List (List am_P) := [[(.aload_n 0, (1, 0, 0, 0, 0, 0), 0, []), (.iconst 0, (1, 0, 0, 0, 0, 0), 0, []), (.putfield 23, (3, 0, 3, 4, 1069, 0), 0, []), (.aload_n 0, (1, 0, 0, 0, 0, 0), 0, []), (.iload_n 1, (1, 0, 1, 0, 0, 0), 0, []), (.invokevirtual 57, (3, 2, 19, 1, 2, 4), 3014, [])],
  [(.aload_n 0, (1, 0, 0, 0, 0, 0), 0, []), (.iconst 0, (1, 0, 0, 0, 0, 0), 0, []), (.iconst 0, (1, 0, 0, 0, 0, 0), 0, []), (.invokevirtual 61, (3, 2, 20, 2, 3, 4), 3026, [])],
  [(.aload_n 0, (1, 0, 0, 0, 0, 0), 0, []), (.bipush (-59), (2, 0, 0, 0, 0, 0), (-59), []), (.invokevirtual 57, (3, 2, 19, 3, 2, 4), 3014, [])],
  [(.aload_n 0, (1, 0, 0, 0, 0, 0), 0, []), (.getfield 19, (3, 0, 3, 3, 1068, 1), 0, []), (.aload_n 0, (1, 0, 0, 0, 0, 0), 0, []), (.getfield 23, (3, 0, 3, 4, 1069, 0), 0, []), (.invokestatic 65, (3, 2, 215, 4, 2, 0), 3045, [])],
  [(.areturn, (1, 3, 0, 0, 0, 0), 0, [])]]
/-- EvenlyPoured$Reader.demand(I)V -/
noncomputable def bk_19 : List (List am_P) := [[(.aload_n 0, (1, 0, 0, 0, 0, 0), 0, []), (.invokevirtual 39, (3, 2, 16, 1, 1, 4), 3018, [])],
  [(.iload_n 1, (1, 0, 1, 0, 0, 0), 0, []), (.if_icmp .eq 8, (3, 1, 3, 2, 0, 0), 0, [])],
  [(.aload_n 0, (1, 0, 0, 0, 0, 0), 0, []), (.iconst 1, (1, 0, 0, 0, 0, 0), 1, []), (.putfield 15, (3, 0, 3, 2, 1067, 3), 0, []), (.nop, (0, 1, 3, 0, 0, 0), 0, [])],
  [(.aload_n 0, (1, 0, 0, 0, 0, 0), 0, []), (.invokevirtual 71, (3, 2, 17, 4, 1, 4), 3022, [])],
  [(.return_, (1, 3, 0, 0, 0, 0), 0, [])]]
/-- EvenlyPoured$Reader.part(II)V -/
noncomputable def bk_20 : List (List am_P) := [[(.aload_n 0, (1, 0, 0, 0, 0, 0), 0, []), (.getfield 15, (3, 0, 3, 2, 1067, 3), 0, []), (.ifCond .eq 4, (3, 1, 2, 1, 0, 0), 0, [])],
  [(.return_, (1, 3, 0, 0, 0, 0), 0, [])],
  [(.iload_n 1, (1, 0, 1, 0, 0, 0), 0, []), (.iconst 5, (1, 0, 0, 0, 0, 0), 5, []), (.if_icmp .lt 9, (3, 1, 5, 3, 0, 0), 0, [])],
  [(.aload_n 0, (1, 0, 0, 0, 0, 0), 0, []), (.iload_n 2, (1, 0, 2, 0, 0, 0), 0, []), (.invokevirtual 74, (3, 2, 21, 4, 2, 4), 3030, [])],
  [(.return_, (1, 3, 0, 0, 0, 0), 0, [])],
  [(.iload_n 1, (1, 0, 1, 0, 0, 0), 0, []), (.iconst 2, (1, 0, 0, 0, 0, 0), 2, []), (.if_icmp .ne 25, (3, 1, 11, 6, 0, 0), 0, [])],
  [(.aload_n 0, (1, 0, 0, 0, 0, 0), 0, []), (.invokevirtual 39, (3, 2, 16, 7, 1, 4), 3018, [])],
  [(.bipush (-11), (2, 0, 0, 0, 0, 0), (-11), []), (.if_icmp .ne 16, (3, 1, 11, 8, 0, 0), 0, [])],
  [(.aload_n 0, (1, 0, 0, 0, 0, 0), 0, []), (.iconst 2, (1, 0, 0, 0, 0, 0), 2, []), (.iload_n 2, (1, 0, 2, 0, 0, 0), 0, []), (.invokevirtual 77, (3, 2, 22, 9, 3, 4), 3038, [])],
  [(.aload_n 0, (1, 0, 0, 0, 0, 0), 0, []), (.bipush (-11), (2, 0, 0, 0, 0, 0), (-11), []), (.invokevirtual 80, (3, 2, 23, 10, 2, 4), 3034, [])],
  [(.return_, (1, 3, 0, 0, 0, 0), 0, [])],
  [(.aload_n 0, (1, 0, 0, 0, 0, 0), 0, []), (.iload_n 1, (1, 0, 1, 0, 0, 0), 0, []), (.iconst 1, (1, 0, 0, 0, 0, 0), 1, []), (.iadd, (1, 0, 0, 0, 0, 0), 0, []), (.iload_n 2, (1, 0, 2, 0, 0, 0), 0, []), (.invokevirtual 61, (3, 2, 20, 12, 3, 4), 3026, [])],
  [(.iload_n 1, (1, 0, 1, 0, 0, 0), 0, []), (.iconst 2, (1, 0, 0, 0, 0, 0), 2, []), (.if_icmp .ne 7, (3, 1, 14, 13, 0, 0), 0, [])],
  [(.iconst 1, (1, 0, 0, 0, 0, 0), 1, []), (.goto 6, (3, 1, 15, 0, 0, 0), 0, [])],
  [(.sipush 160, (3, 0, 0, 0, 0, 0), 160, []), (.nop, (0, 1, 15, 0, 0, 0), 0, [])],
  [(.istore_n 3, (1, 0, 3, 0, 0, 0), 0, []), (.iconst 0, (1, 0, 0, 0, 0, 0), 0, []), (.istore 4, (2, 0, 4, 0, 0, 0), 0, []), (.nop, (0, 1, 16, 0, 0, 0), 0, [])],
  [(.iload 4, (2, 0, 4, 0, 0, 0), 0, []), (.iload_n 3, (1, 0, 3, 0, 0, 0), 0, []), (.if_icmp .ge 51, (3, 1, 26, 17, 0, 0), 0, [])],
  [(.aload_n 0, (1, 0, 0, 0, 0, 0), 0, []), (.getfield 15, (3, 0, 3, 2, 1067, 3), 0, []), (.ifCond .ne 44, (3, 1, 26, 18, 0, 0), 0, [])],
  [(.aload_n 0, (1, 0, 0, 0, 0, 0), 0, []), (.invokevirtual 39, (3, 2, 16, 19, 1, 4), 3018, [])],
  [(.invokestatic 83, (3, 2, 24, 20, 1, 0), 3042, [])],
  [(.iload_n 1, (1, 0, 1, 0, 0, 0), 0, []), (.if_icmp .ne 33, (3, 1, 26, 21, 0, 0), 0, [])],
  [(.aload_n 0, (1, 0, 0, 0, 0, 0), 0, []), (.invokevirtual 39, (3, 2, 16, 22, 1, 4), 3018, [])],
  [(.istore 5, (2, 0, 5, 0, 0, 0), 0, []), (.aload_n 0, (1, 0, 0, 0, 0, 0), 0, []), (.invokevirtual 71, (3, 2, 17, 23, 1, 4), 3022, [])],
  [(.aload_n 0, (1, 0, 0, 0, 0, 0), 0, []), (.iload_n 1, (1, 0, 1, 0, 0, 0), 0, []), (.iconst 1, (1, 0, 0, 0, 0, 0), 1, []), (.iadd, (1, 0, 0, 0, 0, 0), 0, []), (.iload_n 2, (1, 0, 2, 0, 0, 0), 0, []), (.invokevirtual 61, (3, 2, 20, 24, 3, 4), 3026, [])],
  [(.aload_n 0, (1, 0, 0, 0, 0, 0), 0, []), (.iload 5, (2, 0, 5, 0, 0, 0), 0, []), (.invokevirtual 80, (3, 2, 23, 25, 2, 4), 3034, [])],
  [(.iinc 4 1, (3, 0, 4, 0, 0, 0), 1, []), (.goto (-51), (3, 1, 16, 0, 0, 0), 0, [])],
  [(.return_, (1, 3, 0, 0, 0, 0), 0, [])]]
/-- EvenlyPoured$Reader.one(I)V -/
noncomputable def bk_21 : List (List am_P) := [[(.aload_n 0, (1, 0, 0, 0, 0, 0), 0, []), (.invokevirtual 39, (3, 2, 16, 1, 1, 4), 3018, [])],
  [(.istore_n 2, (1, 0, 2, 0, 0, 0), 0, []), (.iload_n 2, (1, 0, 2, 0, 0, 0), 0, []), (.ifCond .lt 15, (3, 1, 5, 2, 0, 0), 0, [])],
  [(.aload_n 0, (1, 0, 0, 0, 0, 0), 0, []), (.iload_n 2, (1, 0, 2, 0, 0, 0), 0, []), (.invokevirtual 80, (3, 2, 23, 3, 2, 4), 3034, [])],
  [(.aload_n 0, (1, 0, 0, 0, 0, 0), 0, []), (.invokevirtual 71, (3, 2, 17, 4, 1, 4), 3022, [])],
  [(.goto 50, (3, 1, 14, 0, 0, 0), 0, [])],
  [(.iload_n 2, (1, 0, 2, 0, 0, 0), 0, []), (.bipush (-45), (2, 0, 0, 0, 0, 0), (-45), []), (.if_icmp .ne 18, (3, 1, 9, 6, 0, 0), 0, [])],
  [(.aload_n 0, (1, 0, 0, 0, 0, 0), 0, []), (.iconst 5, (1, 0, 0, 0, 0, 0), 5, []), (.iload_n 1, (1, 0, 1, 0, 0, 0), 0, []), (.invokevirtual 77, (3, 2, 22, 7, 3, 4), 3038, [])],
  [(.aload_n 0, (1, 0, 0, 0, 0, 0), 0, []), (.bipush (-3), (2, 0, 0, 0, 0, 0), (-3), []), (.invokevirtual 80, (3, 2, 23, 8, 2, 4), 3034, [])],
  [(.goto 29, (3, 1, 14, 0, 0, 0), 0, [])],
  [(.iload_n 2, (1, 0, 2, 0, 0, 0), 0, []), (.bipush (-40), (2, 0, 0, 0, 0, 0), (-40), []), (.if_icmp .ne 18, (3, 1, 13, 10, 0, 0), 0, [])],
  [(.aload_n 0, (1, 0, 0, 0, 0, 0), 0, []), (.iconst 0, (1, 0, 0, 0, 0, 0), 0, []), (.iload_n 1, (1, 0, 1, 0, 0, 0), 0, []), (.invokevirtual 77, (3, 2, 22, 11, 3, 4), 3038, [])],
  [(.aload_n 0, (1, 0, 0, 0, 0, 0), 0, []), (.bipush (-41), (2, 0, 0, 0, 0, 0), (-41), []), (.invokevirtual 57, (3, 2, 19, 12, 2, 4), 3014, [])],
  [(.goto 8, (3, 1, 14, 0, 0, 0), 0, [])],
  [(.aload_n 0, (1, 0, 0, 0, 0, 0), 0, []), (.iconst 1, (1, 0, 0, 0, 0, 0), 1, []), (.putfield 15, (3, 0, 3, 2, 1067, 3), 0, []), (.nop, (0, 1, 14, 0, 0, 0), 0, [])],
  [(.return_, (1, 3, 0, 0, 0, 0), 0, [])]]
/-- EvenlyPoured$Reader.inside(II)V -/
noncomputable def bk_22 : List (List am_P) := [[(.iload_n 2, (1, 0, 2, 0, 0, 0), 0, []), (.iconst 5, (1, 0, 0, 0, 0, 0), 5, []), (.if_icmp .lt 9, (3, 1, 2, 1, 0, 0), 0, [])],
  [(.aload_n 0, (1, 0, 0, 0, 0, 0), 0, []), (.iconst 1, (1, 0, 0, 0, 0, 0), 1, []), (.putfield 15, (3, 0, 3, 2, 1067, 3), 0, []), (.return_, (1, 3, 0, 0, 0, 0), 0, [])],
  [(.aload_n 0, (1, 0, 0, 0, 0, 0), 0, []), (.invokevirtual 71, (3, 2, 17, 3, 1, 4), 3022, [])],
  [(.aload_n 0, (1, 0, 0, 0, 0, 0), 0, []), (.iload_n 1, (1, 0, 1, 0, 0, 0), 0, []), (.iload_n 2, (1, 0, 2, 0, 0, 0), 0, []), (.iconst 1, (1, 0, 0, 0, 0, 0), 1, []), (.iadd, (1, 0, 0, 0, 0, 0), 0, []), (.invokevirtual 61, (3, 2, 20, 4, 3, 4), 3026, [])],
  [(.return_, (1, 3, 0, 0, 0, 0), 0, [])]]
/-- EvenlyPoured$Reader.put(I)V -/
noncomputable def bk_23 : List (List am_P) := [[(.aload_n 0, (1, 0, 0, 0, 0, 0), 0, []), (.getfield 23, (3, 0, 3, 4, 1069, 0), 0, []), (.sipush 160, (3, 0, 0, 0, 0, 0), 160, []), (.if_icmp .ge 23, (3, 1, 2, 1, 0, 0), 0, [])],
  [(.aload_n 0, (1, 0, 0, 0, 0, 0), 0, []), (.getfield 19, (3, 0, 3, 3, 1068, 1), 0, []), (.aload_n 0, (1, 0, 0, 0, 0, 0), 0, []), (.getfield 23, (3, 0, 3, 4, 1069, 0), 0, []), (.iload_n 1, (1, 0, 1, 0, 0, 0), 0, []), (.iastore, (1, 0, 0, 0, 0, 0), 0, []), (.aload_n 0, (1, 0, 0, 0, 0, 0), 0, []), (.dup, (1, 0, 0, 0, 0, 0), 0, []), (.getfield 23, (3, 0, 3, 4, 1069, 0), 0, []), (.iconst 1, (1, 0, 0, 0, 0, 0), 1, []), (.iadd, (1, 0, 0, 0, 0, 0), 0, []), (.putfield 23, (3, 0, 3, 4, 1069, 0), 0, []), (.nop, (0, 1, 2, 0, 0, 0), 0, [])],
  [(.return_, (1, 3, 0, 0, 0, 0), 0, [])]]
/-- EvenlyPoured$Reader.levelOf(I)I -/
noncomputable def bk_24 : List (List am_P) := [[(.iload_n 0, (1, 0, 0, 0, 0, 0), 0, []), (.lookupswitch 77 #[(-61, 71), (-60, 71), (-45, 73), (-43, 73), (-42, 75), (-10, 69), (-9, 67)], (67, 1, 0, 6, 0, 0), 0, [(-61, 3), (-60, 3), (-45, 4), (-43, 4), (-42, 5), (-10, 2), (-9, 1)])],
  [(.iconst 0, (1, 0, 0, 0, 0, 0), 0, []), (.ireturn, (1, 3, 0, 0, 0, 0), 0, [])],
  [(.iconst 1, (1, 0, 0, 0, 0, 0), 1, []), (.ireturn, (1, 3, 0, 0, 0, 0), 0, [])],
  [(.iconst 2, (1, 0, 0, 0, 0, 0), 2, []), (.ireturn, (1, 3, 0, 0, 0, 0), 0, [])],
  [(.iconst 3, (1, 0, 0, 0, 0, 0), 3, []), (.ireturn, (1, 3, 0, 0, 0, 0), 0, [])],
  [(.iconst 4, (1, 0, 0, 0, 0, 0), 4, []), (.ireturn, (1, 3, 0, 0, 0, 0), 0, [])],
  [(.iconst (-1), (1, 0, 0, 0, 0, 0), (-1), []), (.ireturn, (1, 3, 0, 0, 0, 0), 0, [])]]
/-- EvenlyPoured$Search.<init>(LEvenlyPoured$Teller;)V -/
noncomputable def bk_25 : List (List am_P) := [[(.aload_n 0, (1, 0, 0, 0, 0, 0), 0, []), (.invokespecial 3, (3, 0, 0, 0, 1225, 0), 0, []), (.aload_n 0, (1, 0, 0, 0, 0, 0), 0, []), (.sipush 1152, (3, 0, 0, 0, 0, 0), 1152, []), (.newarray .int, (2, 0, 20, 0, 0, 0), 0, []), (.putfield 9, (3, 0, 4, 1, 1228, 1), 0, []), (.aload_n 0, (1, 0, 0, 0, 0, 0), 0, []), (.iconst 4, (1, 0, 0, 0, 0, 0), 4, []), (.newarray .int, (2, 0, 20, 0, 0, 0), 0, []), (.putfield 15, (3, 0, 4, 2, 1229, 1), 0, []), (.aload_n 0, (1, 0, 0, 0, 0, 0), 0, []), (.iconst 4, (1, 0, 0, 0, 0, 0), 4, []), (.newarray .int, (2, 0, 20, 0, 0, 0), 0, []), (.putfield 18, (3, 0, 4, 3, 1230, 1), 0, []), (.aload_n 0, (1, 0, 0, 0, 0, 0), 0, []), (.bipush 24, (2, 0, 0, 0, 0, 0), 24, []), (.newarray .int, (2, 0, 20, 0, 0, 0), 0, []), (.putfield 21, (3, 0, 4, 4, 1231, 1), 0, []), (.aload_n 0, (1, 0, 0, 0, 0, 0), 0, []), (.iconst (-1), (1, 0, 0, 0, 0, 0), (-1), []), (.putfield 24, (3, 0, 4, 5, 1232, 0), 0, []), (.aload_n 0, (1, 0, 0, 0, 0, 0), 0, []), (.iconst 1, (1, 0, 0, 0, 0, 0), 1, []), (.putfield 28, (3, 0, 4, 6, 1233, 0), 0, []), (.aload_n 0, (1, 0, 0, 0, 0, 0), 0, []), (.iconst 0, (1, 0, 0, 0, 0, 0), 0, []), (.putfield 31, (3, 0, 4, 7, 1234, 0), 0, []), (.aload_n 0, (1, 0, 0, 0, 0, 0), 0, []), (.iconst 0, (1, 0, 0, 0, 0, 0), 0, []), (.putfield 34, (3, 0, 4, 8, 1235, 0), 0, []), (.aload_n 0, (1, 0, 0, 0, 0, 0), 0, []), (.iconst 0, (1, 0, 0, 0, 0, 0), 0, []), (.putfield 37, (3, 0, 4, 9, 1236, 0), 0, []), (.aload_n 0, (1, 0, 0, 0, 0, 0), 0, []), (.iconst 0, (1, 0, 0, 0, 0, 0), 0, []), (.putfield 40, (3, 0, 4, 10, 1237, 3), 0, []), (.aload_n 0, (1, 0, 0, 0, 0, 0), 0, []), (.bipush 24, (2, 0, 0, 0, 0, 0), 24, []), (.newarray .int, (2, 0, 20, 0, 0, 0), 0, []), (.putfield 44, (3, 0, 4, 11, 1238, 1), 0, []), (.aload_n 0, (1, 0, 0, 0, 0, 0), 0, []), (.ldc 47, (2, 0, 0, 0, 1226, 0), 2147483647, []), (.putfield 48, (3, 0, 4, 12, 2000, 0), 0, []), (.aload_n 0, (1, 0, 0, 0, 0, 0), 0, []), (.ldc 47, (2, 0, 0, 0, 1226, 0), 2147483647, []), (.putfield 51, (3, 0, 4, 13, 2002, 0), 0, []), (.aload_n 0, (1, 0, 0, 0, 0, 0), 0, []), (.bipush 25, (2, 0, 0, 0, 0, 0), 25, []), (.newarray .int, (2, 0, 20, 0, 0, 0), 0, []), (.putfield 54, (3, 0, 4, 14, 2004, 1), 0, []), (.aload_n 0, (1, 0, 0, 0, 0, 0), 0, []), (.iconst 0, (1, 0, 0, 0, 0, 0), 0, []), (.putfield 57, (3, 0, 4, 15, 2005, 0), 0, []), (.aload_n 0, (1, 0, 0, 0, 0, 0), 0, []), (.iconst (-1), (1, 0, 0, 0, 0, 0), (-1), []), (.putfield 60, (3, 0, 4, 16, 2007, 0), 0, []), (.aload_n 0, (1, 0, 0, 0, 0, 0), 0, []), (.aload_n 1, (1, 0, 1, 0, 0, 0), 0, []), (.putfield 63, (3, 0, 4, 0, 1227, 1), 0, []), (.return_, (1, 3, 0, 0, 0, 0), 0, [])]]
/-- EvenlyPoured$Search.ready(ILEvenlyPoured$Text;II)V -/
noncomputable def bk_26 : List (List am_P) := [[(.iload_n 3, (1, 0, 3, 0, 0, 0), 0, []), (.iconst 1, (1, 0, 0, 0, 0, 0), 1, []), (.if_icmp .lt 28, (3, 1, 4, 1, 0, 0), 0, [])],
  [(.aload_n 0, (1, 0, 0, 0, 0, 0), 0, []), (.getfield 24, (3, 0, 4, 5, 1232, 0), 0, []), (.iload_n 1, (1, 0, 1, 0, 0, 0), 0, []), (.if_icmp .ne 21, (3, 1, 5, 2, 0, 0), 0, [])],
  [(.aload_n 0, (1, 0, 0, 0, 0, 0), 0, []), (.getfield 28, (3, 0, 4, 6, 1233, 0), 0, []), (.iload_n 3, (1, 0, 3, 0, 0, 0), 0, []), (.if_icmp .ne 13, (3, 1, 5, 3, 0, 0), 0, [])],
  [(.aload_n 0, (1, 0, 0, 0, 0, 0), 0, []), (.getfield 31, (3, 0, 4, 7, 1234, 0), 0, []), (.iload 4, (2, 0, 4, 0, 0, 0), 0, []), (.if_icmp .ne 4, (3, 1, 5, 4, 0, 0), 0, [])],
  [(.return_, (1, 3, 0, 0, 0, 0), 0, [])],
  [(.aload_n 0, (1, 0, 0, 0, 0, 0), 0, []), (.iload_n 1, (1, 0, 1, 0, 0, 0), 0, []), (.putfield 24, (3, 0, 4, 5, 1232, 0), 0, []), (.aload_n 0, (1, 0, 0, 0, 0, 0), 0, []), (.iload_n 3, (1, 0, 3, 0, 0, 0), 0, []), (.putfield 28, (3, 0, 4, 6, 1233, 0), 0, []), (.aload_n 0, (1, 0, 0, 0, 0, 0), 0, []), (.iload 4, (2, 0, 4, 0, 0, 0), 0, []), (.putfield 31, (3, 0, 4, 7, 1234, 0), 0, []), (.aload_n 0, (1, 0, 0, 0, 0, 0), 0, []), (.iload 4, (2, 0, 4, 0, 0, 0), 0, []), (.iload_n 3, (1, 0, 3, 0, 0, 0), 0, []), (.idiv, (1, 0, 0, 0, 0, 0), 0, []), (.putfield 34, (3, 0, 4, 8, 1235, 0), 0, []), (.aload_n 0, (1, 0, 0, 0, 0, 0), 0, []), (.iload 4, (2, 0, 4, 0, 0, 0), 0, []), (.iload_n 3, (1, 0, 3, 0, 0, 0), 0, []), (.irem, (1, 0, 0, 0, 0, 0), 0, []), (.putfield 37, (3, 0, 4, 9, 1236, 0), 0, []), (.aload_n 0, (1, 0, 0, 0, 0, 0), 0, []), (.iconst 0, (1, 0, 0, 0, 0, 0), 0, []), (.putfield 40, (3, 0, 4, 10, 1237, 3), 0, []), (.aload_n 0, (1, 0, 0, 0, 0, 0), 0, []), (.getfield 63, (3, 0, 4, 0, 1227, 1), 0, []), (.aload_n 2, (1, 0, 2, 0, 0, 0), 0, []), (.aload_n 0, (1, 0, 0, 0, 0, 0), 0, []), (.getfield 28, (3, 0, 4, 6, 1233, 0), 0, []), (.aload_n 0, (1, 0, 0, 0, 0, 0), 0, []), (.getfield 31, (3, 0, 4, 7, 1234, 0), 0, []), (.invokevirtual 67, (3, 2, 56, 6, 4, 8), 3196, [])],
  [(.iconst 0, (1, 0, 0, 0, 0, 0), 0, []), (.istore 5, (2, 0, 5, 0, 0, 0), 0, []), (.nop, (0, 1, 7, 0, 0, 0), 0, [])],
  [(.iload 5, (2, 0, 5, 0, 0, 0), 0, []), (.aload_n 0, (1, 0, 0, 0, 0, 0), 0, []), (.getfield 31, (3, 0, 4, 7, 1234, 0), 0, []), (.if_icmp .ge 35, (3, 1, 13, 8, 0, 0), 0, [])],
  [(.iconst 0, (1, 0, 0, 0, 0, 0), 0, []), (.istore 6, (2, 0, 6, 0, 0, 0), 0, []), (.nop, (0, 1, 9, 0, 0, 0), 0, [])],
  [(.iload 6, (2, 0, 6, 0, 0, 0), 0, []), (.aload_n 0, (1, 0, 0, 0, 0, 0), 0, []), (.getfield 28, (3, 0, 4, 6, 1233, 0), 0, []), (.if_icmp .ge 17, (3, 1, 12, 10, 0, 0), 0, [])],
  [(.aload_n 0, (1, 0, 0, 0, 0, 0), 0, []), (.iload 5, (2, 0, 5, 0, 0, 0), 0, []), (.iload 6, (2, 0, 6, 0, 0, 0), 0, []), (.invokevirtual 73, (3, 2, 27, 11, 3, 5), 3197, [])],
  [(.iinc 6 1, (3, 0, 6, 0, 0, 0), 1, []), (.goto (-20), (3, 1, 9, 0, 0, 0), 0, [])],
  [(.iinc 5 1, (3, 0, 5, 0, 0, 0), 1, []), (.goto (-38), (3, 1, 7, 0, 0, 0), 0, [])],
  [(.return_, (1, 3, 0, 0, 0, 0), 0, [])]]
/-- EvenlyPoured$Search.learnGains(II)V -/
noncomputable def bk_27 : List (List am_P) := [[(.iconst 0, (1, 0, 0, 0, 0, 0), 0, []), (.istore_n 3, (1, 0, 3, 0, 0, 0), 0, []), (.nop, (0, 1, 1, 0, 0, 0), 0, [])],
  [(.iload_n 3, (1, 0, 3, 0, 0, 0), 0, []), (.iload_n 1, (1, 0, 1, 0, 0, 0), 0, []), (.if_icmp .gt 96, (3, 1, 14, 2, 0, 0), 0, [])],
  [(.iconst 0, (1, 0, 0, 0, 0, 0), 0, []), (.istore 4, (2, 0, 4, 0, 0, 0), 0, []), (.nop, (0, 1, 3, 0, 0, 0), 0, [])],
  [(.iload 4, (2, 0, 4, 0, 0, 0), 0, []), (.aload_n 0, (1, 0, 0, 0, 0, 0), 0, []), (.getfield 28, (3, 0, 4, 6, 1233, 0), 0, []), (.if_icmp .ge 78, (3, 1, 13, 4, 0, 0), 0, [])],
  [(.aload_n 0, (1, 0, 0, 0, 0, 0), 0, []), (.getfield 63, (3, 0, 4, 0, 1227, 1), 0, []), (.iload_n 1, (1, 0, 1, 0, 0, 0), 0, []), (.iload_n 2, (1, 0, 2, 0, 0, 0), 0, []), (.iload_n 3, (1, 0, 3, 0, 0, 0), 0, []), (.iload 4, (2, 0, 4, 0, 0, 0), 0, []), (.invokevirtual 77, (3, 2, 57, 5, 5, 8), 3201, [])],
  [(.aload_n 0, (1, 0, 0, 0, 0, 0), 0, []), (.getfield 63, (3, 0, 4, 0, 1227, 1), 0, []), (.invokevirtual 81, (3, 2, 58, 6, 1, 8), 3202, [])],
  [(.istore 5, (2, 0, 5, 0, 0, 0), 0, []), (.iload_n 2, (1, 0, 2, 0, 0, 0), 0, []), (.iload 4, (2, 0, 4, 0, 0, 0), 0, []), (.if_icmp .eq 17, (3, 1, 9, 7, 0, 0), 0, [])],
  [(.iload 5, (2, 0, 5, 0, 0, 0), 0, []), (.aload_n 0, (1, 0, 0, 0, 0, 0), 0, []), (.getfield 63, (3, 0, 4, 0, 1227, 1), 0, []), (.iload 5, (2, 0, 5, 0, 0, 0), 0, []), (.invokevirtual 85, (3, 2, 59, 8, 2, 8), 3203, [])],
  [(.isub, (1, 0, 0, 0, 0, 0), 0, []), (.istore 5, (2, 0, 5, 0, 0, 0), 0, []), (.nop, (0, 1, 9, 0, 0, 0), 0, [])],
  [(.aload_n 0, (1, 0, 0, 0, 0, 0), 0, []), (.iload_n 1, (1, 0, 1, 0, 0, 0), 0, []), (.iload_n 2, (1, 0, 2, 0, 0, 0), 0, []), (.iload_n 3, (1, 0, 3, 0, 0, 0), 0, []), (.iload 4, (2, 0, 4, 0, 0, 0), 0, []), (.invokevirtual 89, (3, 2, 28, 10, 5, 5), 3204, [])],
  [(.istore 6, (2, 0, 6, 0, 0, 0), 0, []), (.iload 6, (2, 0, 6, 0, 0, 0), 0, []), (.sipush 1152, (3, 0, 0, 0, 0, 0), 1152, []), (.if_icmp .ge 12, (3, 1, 12, 11, 0, 0), 0, [])],
  [(.aload_n 0, (1, 0, 0, 0, 0, 0), 0, []), (.getfield 9, (3, 0, 4, 1, 1228, 1), 0, []), (.iload 6, (2, 0, 6, 0, 0, 0), 0, []), (.iload 5, (2, 0, 5, 0, 0, 0), 0, []), (.iastore, (1, 0, 0, 0, 0, 0), 0, []), (.nop, (0, 1, 12, 0, 0, 0), 0, [])],
  [(.iinc 4 1, (3, 0, 4, 0, 0, 0), 1, []), (.goto (-81), (3, 1, 3, 0, 0, 0), 0, [])],
  [(.iinc 3 1, (3, 0, 3, 0, 0, 0), 1, []), (.goto (-95), (3, 1, 1, 0, 0, 0), 0, [])],
  [(.return_, (1, 3, 0, 0, 0, 0), 0, [])]]
/-- EvenlyPoured$Search.gainPlace(IIII)I -/
noncomputable def bk_28 : List (List am_P) := [[(.iload_n 1, (1, 0, 1, 0, 0, 0), 0, []), (.aload_n 0, (1, 0, 0, 0, 0, 0), 0, []), (.getfield 28, (3, 0, 4, 6, 1233, 0), 0, []), (.imul, (1, 0, 0, 0, 0, 0), 0, []), (.iload_n 2, (1, 0, 2, 0, 0, 0), 0, []), (.iadd, (1, 0, 0, 0, 0, 0), 0, []), (.aload_n 0, (1, 0, 0, 0, 0, 0), 0, []), (.getfield 31, (3, 0, 4, 7, 1234, 0), 0, []), (.iconst 1, (1, 0, 0, 0, 0, 0), 1, []), (.iadd, (1, 0, 0, 0, 0, 0), 0, []), (.imul, (1, 0, 0, 0, 0, 0), 0, []), (.iload_n 3, (1, 0, 3, 0, 0, 0), 0, []), (.iadd, (1, 0, 0, 0, 0, 0), 0, []), (.aload_n 0, (1, 0, 0, 0, 0, 0), 0, []), (.getfield 28, (3, 0, 4, 6, 1233, 0), 0, []), (.imul, (1, 0, 0, 0, 0, 0), 0, []), (.iload 4, (2, 0, 4, 0, 0, 0), 0, []), (.iadd, (1, 0, 0, 0, 0, 0), 0, []), (.ireturn, (1, 3, 0, 0, 0, 0), 0, [])]]
/-- EvenlyPoured$Search.gain(III)I -/
noncomputable def bk_29 : List (List am_P) := [[(.aload_n 0, (1, 0, 0, 0, 0, 0), 0, []), (.iload_n 1, (1, 0, 1, 0, 0, 0), 0, []), (.iload_n 2, (1, 0, 2, 0, 0, 0), 0, []), (.aload_n 0, (1, 0, 0, 0, 0, 0), 0, []), (.getfield 15, (3, 0, 4, 2, 1229, 1), 0, []), (.iload_n 2, (1, 0, 2, 0, 0, 0), 0, []), (.iaload, (1, 0, 0, 0, 0, 0), 0, []), (.iload_n 1, (1, 0, 1, 0, 0, 0), 0, []), (.ifCond .ne 7, (3, 1, 2, 1, 0, 0), 0, [])],
  [(.iload_n 2, (1, 0, 2, 0, 0, 0), 0, []), (.goto 4, (3, 1, 3, 0, 0, 0), 0, [])],
  [(.iload_n 3, (1, 0, 3, 0, 0, 0), 0, []), (.nop, (0, 1, 3, 0, 0, 0), 0, [])],
  [(.invokevirtual 89, (3, 2, 28, 4, 5, 5), 3204, [])],
  [(.istore 4, (2, 0, 4, 0, 0, 0), 0, []), (.iload 4, (2, 0, 4, 0, 0, 0), 0, []), (.sipush 1152, (3, 0, 0, 0, 0, 0), 1152, []), (.if_icmp .ge 13, (3, 1, 6, 5, 0, 0), 0, [])],
  [(.aload_n 0, (1, 0, 0, 0, 0, 0), 0, []), (.getfield 9, (3, 0, 4, 1, 1228, 1), 0, []), (.iload 4, (2, 0, 4, 0, 0, 0), 0, []), (.iaload, (1, 0, 0, 0, 0, 0), 0, []), (.goto 4, (3, 1, 7, 0, 0, 0), 0, [])],
  [(.iconst 0, (1, 0, 0, 0, 0, 0), 0, []), (.nop, (0, 1, 7, 0, 0, 0), 0, [])],
  [(.ireturn, (1, 3, 0, 0, 0, 0), 0, [])]]
/-- EvenlyPoured$Search.findEvenest()V -/
noncomputable def bk_30 : List (List am_P) := [[(.aload_n 0, (1, 0, 0, 0, 0, 0), 0, []), (.getfield 40, (3, 0, 4, 10, 1237, 3), 0, []), (.ifCond .eq 4, (3, 1, 2, 1, 0, 0), 0, [])],
  [(.return_, (1, 3, 0, 0, 0, 0), 0, [])],
  [(.aload_n 0, (1, 0, 0, 0, 0, 0), 0, []), (.iconst 1, (1, 0, 0, 0, 0, 0), 1, []), (.putfield 40, (3, 0, 4, 10, 1237, 3), 0, []), (.aload_n 0, (1, 0, 0, 0, 0, 0), 0, []), (.ldc 47, (2, 0, 0, 0, 1226, 0), 2147483647, []), (.putfield 48, (3, 0, 4, 12, 2000, 0), 0, []), (.aload_n 0, (1, 0, 0, 0, 0, 0), 0, []), (.ldc 47, (2, 0, 0, 0, 1226, 0), 2147483647, []), (.putfield 51, (3, 0, 4, 13, 2002, 0), 0, []), (.aload_n 0, (1, 0, 0, 0, 0, 0), 0, []), (.getfield 54, (3, 0, 4, 14, 2004, 1), 0, []), (.ldc 47, (2, 0, 0, 0, 1226, 0), 2147483647, []), (.invokestatic 93, (3, 2, 214, 3, 2, 0), 3212, [])],
  [(.aload_n 0, (1, 0, 0, 0, 0, 0), 0, []), (.invokevirtual 99, (3, 2, 32, 4, 1, 5), 3213, [])],
  [(.aload_n 0, (1, 0, 0, 0, 0, 0), 0, []), (.iconst 0, (1, 0, 0, 0, 0, 0), 0, []), (.iconst 0, (1, 0, 0, 0, 0, 0), 0, []), (.iconst 0, (1, 0, 0, 0, 0, 0), 0, []), (.invokevirtual 102, (3, 2, 33, 5, 4, 5), 3217, [])],
  [(.return_, (1, 3, 0, 0, 0, 0), 0, [])]]
/-- EvenlyPoured$Search.fewestChanges(I)I -/
noncomputable def bk_31 : List (List am_P) := [[(.iconst 0, (1, 0, 0, 0, 0, 0), 0, []), (.istore_n 2, (1, 0, 2, 0, 0, 0), 0, []), (.nop, (0, 1, 1, 0, 0, 0), 0, [])],
  [(.iload_n 2, (1, 0, 2, 0, 0, 0), 0, []), (.bipush 24, (2, 0, 0, 0, 0, 0), 24, []), (.if_icmp .gt 21, (3, 1, 5, 2, 0, 0), 0, [])],
  [(.aload_n 0, (1, 0, 0, 0, 0, 0), 0, []), (.getfield 54, (3, 0, 4, 14, 2004, 1), 0, []), (.iload_n 2, (1, 0, 2, 0, 0, 0), 0, []), (.iaload, (1, 0, 0, 0, 0, 0), 0, []), (.iload_n 1, (1, 0, 1, 0, 0, 0), 0, []), (.if_icmp .gt 5, (3, 1, 4, 3, 0, 0), 0, [])],
  [(.iload_n 2, (1, 0, 2, 0, 0, 0), 0, []), (.ireturn, (1, 3, 0, 0, 0, 0), 0, [])],
  [(.iinc 2 1, (3, 0, 2, 0, 0, 0), 1, []), (.goto (-21), (3, 1, 1, 0, 0, 0), 0, [])],
  [(.iconst (-1), (1, 0, 0, 0, 0, 0), (-1), []), (.ireturn, (1, 3, 0, 0, 0, 0), 0, [])]]
/-- EvenlyPoured$Search.empty()V -/
noncomputable def bk_32 : List (List am_P) := [[(.aload_n 0, (1, 0, 0, 0, 0, 0), 0, []), (.getfield 15, (3, 0, 4, 2, 1229, 1), 0, []), (.iconst 0, (1, 0, 0, 0, 0, 0), 0, []), (.invokestatic 93, (3, 2, 214, 1, 2, 0), 3212, [])],
  [(.aload_n 0, (1, 0, 0, 0, 0, 0), 0, []), (.getfield 18, (3, 0, 4, 3, 1230, 1), 0, []), (.iconst 0, (1, 0, 0, 0, 0, 0), 0, []), (.invokestatic 93, (3, 2, 214, 2, 2, 0), 3212, [])],
  [(.return_, (1, 3, 0, 0, 0, 0), 0, [])]]
/-- EvenlyPoured$Search.tryBalanced(III)V -/
noncomputable def bk_33 : List (List am_P) := [[(.iload_n 1, (1, 0, 1, 0, 0, 0), 0, []), (.aload_n 0, (1, 0, 0, 0, 0, 0), 0, []), (.getfield 31, (3, 0, 4, 7, 1234, 0), 0, []), (.if_icmp .lt 9, (3, 1, 3, 1, 0, 0), 0, [])],
  [(.aload_n 0, (1, 0, 0, 0, 0, 0), 0, []), (.iload_n 3, (1, 0, 3, 0, 0, 0), 0, []), (.invokevirtual 106, (3, 2, 35, 2, 2, 5), 3221, [])],
  [(.return_, (1, 3, 0, 0, 0, 0), 0, [])],
  [(.iconst 0, (1, 0, 0, 0, 0, 0), 0, []), (.istore 4, (2, 0, 4, 0, 0, 0), 0, []), (.nop, (0, 1, 4, 0, 0, 0), 0, [])],
  [(.iload 4, (2, 0, 4, 0, 0, 0), 0, []), (.aload_n 0, (1, 0, 0, 0, 0, 0), 0, []), (.getfield 28, (3, 0, 4, 6, 1233, 0), 0, []), (.if_icmp .ge 108, (3, 1, 15, 5, 0, 0), 0, [])],
  [(.aload_n 0, (1, 0, 0, 0, 0, 0), 0, []), (.iload 4, (2, 0, 4, 0, 0, 0), 0, []), (.invokevirtual 110, (3, 2, 34, 6, 2, 5), 3228, [])],
  [(.ifCond .eq 93, (3, 1, 14, 7, 0, 0), 0, [])],
  [(.aload_n 0, (1, 0, 0, 0, 0, 0), 0, []), (.iload_n 1, (1, 0, 1, 0, 0, 0), 0, []), (.iload 4, (2, 0, 4, 0, 0, 0), 0, []), (.iload_n 2, (1, 0, 2, 0, 0, 0), 0, []), (.invokevirtual 114, (3, 2, 29, 8, 4, 5), 3232, [])],
  [(.istore 5, (2, 0, 5, 0, 0, 0), 0, []), (.aload_n 0, (1, 0, 0, 0, 0, 0), 0, []), (.getfield 21, (3, 0, 4, 4, 1231, 1), 0, []), (.iload_n 1, (1, 0, 1, 0, 0, 0), 0, []), (.iload 4, (2, 0, 4, 0, 0, 0), 0, []), (.iastore, (1, 0, 0, 0, 0, 0), 0, []), (.aload_n 0, (1, 0, 0, 0, 0, 0), 0, []), (.getfield 15, (3, 0, 4, 2, 1229, 1), 0, []), (.iload 4, (2, 0, 4, 0, 0, 0), 0, []), (.dup2, (1, 0, 0, 0, 0, 0), 0, []), (.iaload, (1, 0, 0, 0, 0, 0), 0, []), (.iconst 1, (1, 0, 0, 0, 0, 0), 1, []), (.iadd, (1, 0, 0, 0, 0, 0), 0, []), (.iastore, (1, 0, 0, 0, 0, 0), 0, []), (.aload_n 0, (1, 0, 0, 0, 0, 0), 0, []), (.getfield 18, (3, 0, 4, 3, 1230, 1), 0, []), (.iload 4, (2, 0, 4, 0, 0, 0), 0, []), (.dup2, (1, 0, 0, 0, 0, 0), 0, []), (.iaload, (1, 0, 0, 0, 0, 0), 0, []), (.iload 5, (2, 0, 5, 0, 0, 0), 0, []), (.iadd, (1, 0, 0, 0, 0, 0), 0, []), (.iastore, (1, 0, 0, 0, 0, 0), 0, []), (.aload_n 0, (1, 0, 0, 0, 0, 0), 0, []), (.iload_n 1, (1, 0, 1, 0, 0, 0), 0, []), (.iconst 1, (1, 0, 0, 0, 0, 0), 1, []), (.iadd, (1, 0, 0, 0, 0, 0), 0, []), (.iload 4, (2, 0, 4, 0, 0, 0), 0, []), (.iload_n 1, (1, 0, 1, 0, 0, 0), 0, []), (.ifCond .le 15, (3, 1, 11, 9, 0, 0), 0, [])],
  [(.iload 4, (2, 0, 4, 0, 0, 0), 0, []), (.iload_n 2, (1, 0, 2, 0, 0, 0), 0, []), (.if_icmp .eq 9, (3, 1, 11, 10, 0, 0), 0, [])],
  [(.iload_n 3, (1, 0, 3, 0, 0, 0), 0, []), (.iconst 1, (1, 0, 0, 0, 0, 0), 1, []), (.iadd, (1, 0, 0, 0, 0, 0), 0, []), (.goto 4, (3, 1, 12, 0, 0, 0), 0, [])],
  [(.iload_n 3, (1, 0, 3, 0, 0, 0), 0, []), (.nop, (0, 1, 12, 0, 0, 0), 0, [])],
  [(.invokevirtual 102, (3, 2, 33, 13, 4, 5), 3217, [])],
  [(.aload_n 0, (1, 0, 0, 0, 0, 0), 0, []), (.getfield 15, (3, 0, 4, 2, 1229, 1), 0, []), (.iload 4, (2, 0, 4, 0, 0, 0), 0, []), (.dup2, (1, 0, 0, 0, 0, 0), 0, []), (.iaload, (1, 0, 0, 0, 0, 0), 0, []), (.iconst 1, (1, 0, 0, 0, 0, 0), 1, []), (.isub, (1, 0, 0, 0, 0, 0), 0, []), (.iastore, (1, 0, 0, 0, 0, 0), 0, []), (.aload_n 0, (1, 0, 0, 0, 0, 0), 0, []), (.getfield 18, (3, 0, 4, 3, 1230, 1), 0, []), (.iload 4, (2, 0, 4, 0, 0, 0), 0, []), (.dup2, (1, 0, 0, 0, 0, 0), 0, []), (.iaload, (1, 0, 0, 0, 0, 0), 0, []), (.iload 5, (2, 0, 5, 0, 0, 0), 0, []), (.isub, (1, 0, 0, 0, 0, 0), 0, []), (.iastore, (1, 0, 0, 0, 0, 0), 0, []), (.nop, (0, 1, 14, 0, 0, 0), 0, [])],
  [(.iinc 4 1, (3, 0, 4, 0, 0, 0), 1, []), (.goto (-111), (3, 1, 4, 0, 0, 0), 0, [])],
  [(.return_, (1, 3, 0, 0, 0, 0), 0, [])]]
/-- EvenlyPoured$Search.hasRoom(I)Z -/
noncomputable def bk_34 : List (List am_P) := [[(.aload_n 0, (1, 0, 0, 0, 0, 0), 0, []), (.getfield 15, (3, 0, 4, 2, 1229, 1), 0, []), (.iload_n 1, (1, 0, 1, 0, 0, 0), 0, []), (.iaload, (1, 0, 0, 0, 0, 0), 0, []), (.aload_n 0, (1, 0, 0, 0, 0, 0), 0, []), (.getfield 34, (3, 0, 4, 8, 1235, 0), 0, []), (.if_icmp .eq 22, (3, 1, 5, 1, 0, 0), 0, [])],
  [(.aload_n 0, (1, 0, 0, 0, 0, 0), 0, []), (.getfield 15, (3, 0, 4, 2, 1229, 1), 0, []), (.iload_n 1, (1, 0, 1, 0, 0, 0), 0, []), (.iaload, (1, 0, 0, 0, 0, 0), 0, []), (.aload_n 0, (1, 0, 0, 0, 0, 0), 0, []), (.getfield 34, (3, 0, 4, 8, 1235, 0), 0, []), (.if_icmp .ge 7, (3, 1, 3, 2, 0, 0), 0, [])],
  [(.iconst 1, (1, 0, 0, 0, 0, 0), 1, []), (.goto 4, (3, 1, 4, 0, 0, 0), 0, [])],
  [(.iconst 0, (1, 0, 0, 0, 0, 0), 0, []), (.nop, (0, 1, 4, 0, 0, 0), 0, [])],
  [(.ireturn, (1, 3, 0, 0, 0, 1), 0, [])],
  [(.iconst 1, (1, 0, 0, 0, 0, 0), 1, []), (.istore_n 2, (1, 0, 2, 0, 0, 0), 0, []), (.iconst 0, (1, 0, 0, 0, 0, 0), 0, []), (.istore_n 3, (1, 0, 3, 0, 0, 0), 0, []), (.nop, (0, 1, 6, 0, 0, 0), 0, [])],
  [(.iload_n 3, (1, 0, 3, 0, 0, 0), 0, []), (.aload_n 0, (1, 0, 0, 0, 0, 0), 0, []), (.getfield 28, (3, 0, 4, 6, 1233, 0), 0, []), (.if_icmp .ge 25, (3, 1, 10, 7, 0, 0), 0, [])],
  [(.aload_n 0, (1, 0, 0, 0, 0, 0), 0, []), (.getfield 15, (3, 0, 4, 2, 1229, 1), 0, []), (.iload_n 3, (1, 0, 3, 0, 0, 0), 0, []), (.iaload, (1, 0, 0, 0, 0, 0), 0, []), (.aload_n 0, (1, 0, 0, 0, 0, 0), 0, []), (.getfield 34, (3, 0, 4, 8, 1235, 0), 0, []), (.if_icmp .le 6, (3, 1, 9, 8, 0, 0), 0, [])],
  [(.iinc 2 1, (3, 0, 2, 0, 0, 0), 1, []), (.nop, (0, 1, 9, 0, 0, 0), 0, [])],
  [(.iinc 3 1, (3, 0, 3, 0, 0, 0), 1, []), (.goto (-27), (3, 1, 6, 0, 0, 0), 0, [])],
  [(.iload_n 2, (1, 0, 2, 0, 0, 0), 0, []), (.aload_n 0, (1, 0, 0, 0, 0, 0), 0, []), (.getfield 37, (3, 0, 4, 9, 1236, 0), 0, []), (.if_icmp .gt 7, (3, 1, 12, 11, 0, 0), 0, [])],
  [(.iconst 1, (1, 0, 0, 0, 0, 0), 1, []), (.goto 4, (3, 1, 13, 0, 0, 0), 0, [])],
  [(.iconst 0, (1, 0, 0, 0, 0, 0), 0, []), (.nop, (0, 1, 13, 0, 0, 0), 0, [])],
  [(.ireturn, (1, 3, 0, 0, 0, 1), 0, [])]]
/-- EvenlyPoured$Search.judge(I)V -/
noncomputable def bk_35 : List (List am_P) := [[(.aload_n 0, (1, 0, 0, 0, 0, 0), 0, []), (.getfield 18, (3, 0, 4, 3, 1230, 1), 0, []), (.aload_n 0, (1, 0, 0, 0, 0, 0), 0, []), (.getfield 28, (3, 0, 4, 6, 1233, 0), 0, []), (.invokestatic 118, (3, 2, 107, 1, 2, 0), 3225, [])],
  [(.istore_n 2, (1, 0, 2, 0, 0, 0), 0, []), (.aload_n 0, (1, 0, 0, 0, 0, 0), 0, []), (.getfield 54, (3, 0, 4, 14, 2004, 1), 0, []), (.iload_n 1, (1, 0, 1, 0, 0, 0), 0, []), (.aload_n 0, (1, 0, 0, 0, 0, 0), 0, []), (.getfield 54, (3, 0, 4, 14, 2004, 1), 0, []), (.iload_n 1, (1, 0, 1, 0, 0, 0), 0, []), (.iaload, (1, 0, 0, 0, 0, 0), 0, []), (.iload_n 2, (1, 0, 2, 0, 0, 0), 0, []), (.invokestatic 122, (3, 0, 0, 0, 3226, 2), 0, []), (.iastore, (1, 0, 0, 0, 0, 0), 0, []), (.iload_n 2, (1, 0, 2, 0, 0, 0), 0, []), (.aload_n 0, (1, 0, 0, 0, 0, 0), 0, []), (.getfield 48, (3, 0, 4, 12, 2000, 0), 0, []), (.if_icmp .lt 19, (3, 1, 4, 2, 0, 0), 0, [])],
  [(.iload_n 2, (1, 0, 2, 0, 0, 0), 0, []), (.aload_n 0, (1, 0, 0, 0, 0, 0), 0, []), (.getfield 48, (3, 0, 4, 12, 2000, 0), 0, []), (.if_icmp .ne 38, (3, 1, 5, 3, 0, 0), 0, [])],
  [(.iload_n 1, (1, 0, 1, 0, 0, 0), 0, []), (.aload_n 0, (1, 0, 0, 0, 0, 0), 0, []), (.getfield 51, (3, 0, 4, 13, 2002, 0), 0, []), (.if_icmp .ge 30, (3, 1, 5, 4, 0, 0), 0, [])],
  [(.aload_n 0, (1, 0, 0, 0, 0, 0), 0, []), (.iload_n 2, (1, 0, 2, 0, 0, 0), 0, []), (.putfield 48, (3, 0, 4, 12, 2000, 0), 0, []), (.aload_n 0, (1, 0, 0, 0, 0, 0), 0, []), (.iload_n 1, (1, 0, 1, 0, 0, 0), 0, []), (.putfield 51, (3, 0, 4, 13, 2002, 0), 0, []), (.aload_n 0, (1, 0, 0, 0, 0, 0), 0, []), (.getfield 21, (3, 0, 4, 4, 1231, 1), 0, []), (.iconst 0, (1, 0, 0, 0, 0, 0), 0, []), (.aload_n 0, (1, 0, 0, 0, 0, 0), 0, []), (.getfield 44, (3, 0, 4, 11, 1238, 1), 0, []), (.iconst 0, (1, 0, 0, 0, 0, 0), 0, []), (.aload_n 0, (1, 0, 0, 0, 0, 0), 0, []), (.getfield 31, (3, 0, 4, 7, 1234, 0), 0, []), (.invokestatic 128, (3, 0, 0, 0, 3227, 0), 0, []), (.nop, (0, 1, 5, 0, 0, 0), 0, [])],
  [(.return_, (1, 3, 0, 0, 0, 0), 0, [])]]
/-- EvenlyPoured$Search.findTasted([I)V -/
noncomputable def bk_36 : List (List am_P) := [[(.aload_n 0, (1, 0, 0, 0, 0, 0), 0, []), (.iconst 0, (1, 0, 0, 0, 0, 0), 0, []), (.putfield 57, (3, 0, 4, 15, 2005, 0), 0, []), (.aload_n 0, (1, 0, 0, 0, 0, 0), 0, []), (.iconst (-1), (1, 0, 0, 0, 0, 0), (-1), []), (.putfield 60, (3, 0, 4, 16, 2007, 0), 0, []), (.aload_n 0, (1, 0, 0, 0, 0, 0), 0, []), (.invokevirtual 99, (3, 2, 32, 1, 1, 5), 3213, [])],
  [(.aload_n 0, (1, 0, 0, 0, 0, 0), 0, []), (.iconst 0, (1, 0, 0, 0, 0, 0), 0, []), (.iconst 0, (1, 0, 0, 0, 0, 0), 0, []), (.iconst 0, (1, 0, 0, 0, 0, 0), 0, []), (.aload_n 1, (1, 0, 1, 0, 0, 0), 0, []), (.invokevirtual 134, (3, 2, 37, 2, 5, 5), 4076, [])],
  [(.return_, (1, 3, 0, 0, 0, 0), 0, [])]]
/-- EvenlyPoured$Search.tryTold(III[I)V -/
noncomputable def bk_37 : List (List am_P) := [[(.iload_n 1, (1, 0, 1, 0, 0, 0), 0, []), (.aload_n 0, (1, 0, 0, 0, 0, 0), 0, []), (.getfield 31, (3, 0, 4, 7, 1234, 0), 0, []), (.if_icmp .lt 11, (3, 1, 3, 1, 0, 0), 0, [])],
  [(.aload_n 0, (1, 0, 0, 0, 0, 0), 0, []), (.iload_n 3, (1, 0, 3, 0, 0, 0), 0, []), (.aload 4, (2, 0, 4, 0, 0, 0), 0, []), (.invokevirtual 138, (3, 2, 38, 2, 3, 5), 4080, [])],
  [(.return_, (1, 3, 0, 0, 0, 0), 0, [])],
  [(.iconst 0, (1, 0, 0, 0, 0, 0), 0, []), (.istore 5, (2, 0, 5, 0, 0, 0), 0, []), (.nop, (0, 1, 4, 0, 0, 0), 0, [])],
  [(.iload 5, (2, 0, 5, 0, 0, 0), 0, []), (.aload_n 0, (1, 0, 0, 0, 0, 0), 0, []), (.getfield 28, (3, 0, 4, 6, 1233, 0), 0, []), (.if_icmp .ge 101, (3, 1, 10, 5, 0, 0), 0, [])],
  [(.aload_n 0, (1, 0, 0, 0, 0, 0), 0, []), (.iload_n 1, (1, 0, 1, 0, 0, 0), 0, []), (.iload 5, (2, 0, 5, 0, 0, 0), 0, []), (.iload_n 2, (1, 0, 2, 0, 0, 0), 0, []), (.invokevirtual 114, (3, 2, 29, 6, 4, 5), 3232, [])],
  [(.istore 6, (2, 0, 6, 0, 0, 0), 0, []), (.aload_n 0, (1, 0, 0, 0, 0, 0), 0, []), (.getfield 18, (3, 0, 4, 3, 1230, 1), 0, []), (.iload 5, (2, 0, 5, 0, 0, 0), 0, []), (.iaload, (1, 0, 0, 0, 0, 0), 0, []), (.iload 6, (2, 0, 6, 0, 0, 0), 0, []), (.iadd, (1, 0, 0, 0, 0, 0), 0, []), (.aload 4, (2, 0, 4, 0, 0, 0), 0, []), (.iload 5, (2, 0, 5, 0, 0, 0), 0, []), (.iaload, (1, 0, 0, 0, 0, 0), 0, []), (.if_icmp .gt 67, (3, 1, 9, 7, 0, 0), 0, [])],
  [(.aload_n 0, (1, 0, 0, 0, 0, 0), 0, []), (.getfield 15, (3, 0, 4, 2, 1229, 1), 0, []), (.iload 5, (2, 0, 5, 0, 0, 0), 0, []), (.dup2, (1, 0, 0, 0, 0, 0), 0, []), (.iaload, (1, 0, 0, 0, 0, 0), 0, []), (.iconst 1, (1, 0, 0, 0, 0, 0), 1, []), (.iadd, (1, 0, 0, 0, 0, 0), 0, []), (.iastore, (1, 0, 0, 0, 0, 0), 0, []), (.aload_n 0, (1, 0, 0, 0, 0, 0), 0, []), (.getfield 18, (3, 0, 4, 3, 1230, 1), 0, []), (.iload 5, (2, 0, 5, 0, 0, 0), 0, []), (.dup2, (1, 0, 0, 0, 0, 0), 0, []), (.iaload, (1, 0, 0, 0, 0, 0), 0, []), (.iload 6, (2, 0, 6, 0, 0, 0), 0, []), (.iadd, (1, 0, 0, 0, 0, 0), 0, []), (.iastore, (1, 0, 0, 0, 0, 0), 0, []), (.aload_n 0, (1, 0, 0, 0, 0, 0), 0, []), (.iload_n 1, (1, 0, 1, 0, 0, 0), 0, []), (.iconst 1, (1, 0, 0, 0, 0, 0), 1, []), (.iadd, (1, 0, 0, 0, 0, 0), 0, []), (.iload 5, (2, 0, 5, 0, 0, 0), 0, []), (.iload_n 3, (1, 0, 3, 0, 0, 0), 0, []), (.bipush 10, (2, 0, 0, 0, 0, 0), 10, []), (.imul, (1, 0, 0, 0, 0, 0), 0, []), (.iload 5, (2, 0, 5, 0, 0, 0), 0, []), (.iadd, (1, 0, 0, 0, 0, 0), 0, []), (.aload 4, (2, 0, 4, 0, 0, 0), 0, []), (.invokevirtual 134, (3, 2, 37, 8, 5, 5), 4076, [])],
  [(.aload_n 0, (1, 0, 0, 0, 0, 0), 0, []), (.getfield 15, (3, 0, 4, 2, 1229, 1), 0, []), (.iload 5, (2, 0, 5, 0, 0, 0), 0, []), (.dup2, (1, 0, 0, 0, 0, 0), 0, []), (.iaload, (1, 0, 0, 0, 0, 0), 0, []), (.iconst 1, (1, 0, 0, 0, 0, 0), 1, []), (.isub, (1, 0, 0, 0, 0, 0), 0, []), (.iastore, (1, 0, 0, 0, 0, 0), 0, []), (.aload_n 0, (1, 0, 0, 0, 0, 0), 0, []), (.getfield 18, (3, 0, 4, 3, 1230, 1), 0, []), (.iload 5, (2, 0, 5, 0, 0, 0), 0, []), (.dup2, (1, 0, 0, 0, 0, 0), 0, []), (.iaload, (1, 0, 0, 0, 0, 0), 0, []), (.iload 6, (2, 0, 6, 0, 0, 0), 0, []), (.isub, (1, 0, 0, 0, 0, 0), 0, []), (.iastore, (1, 0, 0, 0, 0, 0), 0, []), (.nop, (0, 1, 9, 0, 0, 0), 0, [])],
  [(.iinc 5 1, (3, 0, 5, 0, 0, 0), 1, []), (.goto (-104), (3, 1, 4, 0, 0, 0), 0, [])],
  [(.return_, (1, 3, 0, 0, 0, 0), 0, [])]]
/-- EvenlyPoured$Search.tellTasted(I[I)V -/
noncomputable def bk_38 : List (List am_P) := [[(.iconst 0, (1, 0, 0, 0, 0, 0), 0, []), (.istore_n 3, (1, 0, 3, 0, 0, 0), 0, []), (.nop, (0, 1, 1, 0, 0, 0), 0, [])],
  [(.iload_n 3, (1, 0, 3, 0, 0, 0), 0, []), (.aload_n 0, (1, 0, 0, 0, 0, 0), 0, []), (.getfield 28, (3, 0, 4, 6, 1233, 0), 0, []), (.if_icmp .ge 22, (3, 1, 5, 2, 0, 0), 0, [])],
  [(.aload_n 0, (1, 0, 0, 0, 0, 0), 0, []), (.getfield 18, (3, 0, 4, 3, 1230, 1), 0, []), (.iload_n 3, (1, 0, 3, 0, 0, 0), 0, []), (.iaload, (1, 0, 0, 0, 0, 0), 0, []), (.aload_n 2, (1, 0, 2, 0, 0, 0), 0, []), (.iload_n 3, (1, 0, 3, 0, 0, 0), 0, []), (.iaload, (1, 0, 0, 0, 0, 0), 0, []), (.if_icmp .eq 4, (3, 1, 4, 3, 0, 0), 0, [])],
  [(.return_, (1, 3, 0, 0, 0, 0), 0, [])],
  [(.iinc 3 1, (3, 0, 3, 0, 0, 0), 1, []), (.goto (-24), (3, 1, 1, 0, 0, 0), 0, [])],
  [(.aload_n 0, (1, 0, 0, 0, 0, 0), 0, []), (.getfield 57, (3, 0, 4, 15, 2005, 0), 0, []), (.ifCond .ne 8, (3, 1, 7, 6, 0, 0), 0, [])],
  [(.aload_n 0, (1, 0, 0, 0, 0, 0), 0, []), (.iload_n 1, (1, 0, 1, 0, 0, 0), 0, []), (.putfield 60, (3, 0, 4, 16, 2007, 0), 0, []), (.nop, (0, 1, 7, 0, 0, 0), 0, [])],
  [(.aload_n 0, (1, 0, 0, 0, 0, 0), 0, []), (.dup, (1, 0, 0, 0, 0, 0), 0, []), (.getfield 57, (3, 0, 4, 15, 2005, 0), 0, []), (.iconst 1, (1, 0, 0, 0, 0, 0), 1, []), (.iadd, (1, 0, 0, 0, 0, 0), 0, []), (.putfield 57, (3, 0, 4, 15, 2005, 0), 0, []), (.return_, (1, 3, 0, 0, 0, 0), 0, [])]]
/-- EvenlyPoured$Sheet.<init>()V -/
noncomputable def bk_39 : List (List am_P) := [[(.aload_n 0, (1, 0, 0, 0, 0, 0), 0, []), (.invokespecial 3, (3, 0, 0, 0, 1155, 0), 0, []), (.aload_n 0, (1, 0, 0, 0, 0, 0), 0, []), (.iconst (-1), (1, 0, 0, 0, 0, 0), (-1), []), (.putfield 9, (3, 0, 5, 0, 1156, 0), 0, []), (.aload_n 0, (1, 0, 0, 0, 0, 0), 0, []), (.iconst 0, (1, 0, 0, 0, 0, 0), 0, []), (.putfield 15, (3, 0, 5, 1, 1158, 0), 0, []), (.aload_n 0, (1, 0, 0, 0, 0, 0), 0, []), (.bipush 40, (2, 0, 0, 0, 0, 0), 40, []), (.newarray .int, (2, 0, 20, 0, 0, 0), 0, []), (.putfield 18, (3, 0, 5, 2, 1160, 1), 0, []), (.return_, (1, 3, 0, 0, 0, 0), 0, [])]]
/-- EvenlyPoured$Sheet.begin(II)V -/
noncomputable def bk_40 : List (List am_P) := [[(.aload_n 0, (1, 0, 0, 0, 0, 0), 0, []), (.iload_n 1, (1, 0, 1, 0, 0, 0), 0, []), (.putfield 9, (3, 0, 5, 0, 1156, 0), 0, []), (.aload_n 0, (1, 0, 0, 0, 0, 0), 0, []), (.iload_n 2, (1, 0, 2, 0, 0, 0), 0, []), (.putfield 15, (3, 0, 5, 1, 1158, 0), 0, []), (.aload_n 0, (1, 0, 0, 0, 0, 0), 0, []), (.getfield 18, (3, 0, 5, 2, 1160, 1), 0, []), (.nop, (0, 1, 1, 0, 0, 0), 0, [])],
  [(.iconst 0, (1, 0, 0, 0, 0, 0), 0, []), (.invokestatic 22, (3, 2, 214, 2, 2, 0), 4135, [])],
  [(.return_, (1, 3, 0, 0, 0, 0), 0, [])]]
/-- EvenlyPoured$Sheet.isMissing()Z -/
noncomputable def bk_41 : List (List am_P) := [[(.aload_n 0, (1, 0, 0, 0, 0, 0), 0, []), (.getfield 9, (3, 0, 5, 0, 1156, 0), 0, []), (.iconst (-1), (1, 0, 0, 0, 0, 0), (-1), []), (.if_icmp .ne 7, (3, 1, 2, 1, 0, 0), 0, [])],
  [(.iconst 1, (1, 0, 0, 0, 0, 0), 1, []), (.goto 4, (3, 1, 3, 0, 0, 0), 0, [])],
  [(.iconst 0, (1, 0, 0, 0, 0, 0), 0, []), (.nop, (0, 1, 3, 0, 0, 0), 0, [])],
  [(.ireturn, (1, 3, 0, 0, 0, 1), 0, [])]]
/-- EvenlyPoured$Sheet.has(I)Z -/
noncomputable def bk_42 : List (List am_P) := [[(.iload_n 1, (1, 0, 1, 0, 0, 0), 0, []), (.ifCond .lt 15, (3, 1, 3, 1, 0, 0), 0, [])],
  [(.iload_n 1, (1, 0, 1, 0, 0, 0), 0, []), (.aload_n 0, (1, 0, 0, 0, 0, 0), 0, []), (.getfield 15, (3, 0, 5, 1, 1158, 0), 0, []), (.if_icmp .ge 7, (3, 1, 3, 2, 0, 0), 0, [])],
  [(.iconst 1, (1, 0, 0, 0, 0, 0), 1, []), (.goto 4, (3, 1, 4, 0, 0, 0), 0, [])],
  [(.iconst 0, (1, 0, 0, 0, 0, 0), 0, []), (.nop, (0, 1, 4, 0, 0, 0), 0, [])],
  [(.ireturn, (1, 3, 0, 0, 0, 1), 0, [])]]
/-- EvenlyPoured$Sheet.hasAll(II)Z -/
noncomputable def bk_43 : List (List am_P) := [[(.iload_n 1, (1, 0, 1, 0, 0, 0), 0, []), (.ifCond .lt 29, (3, 1, 5, 1, 0, 0), 0, [])],
  [(.iload_n 2, (1, 0, 2, 0, 0, 0), 0, []), (.ifCond .lt 25, (3, 1, 5, 2, 0, 0), 0, [])],
  [(.iload_n 1, (1, 0, 1, 0, 0, 0), 0, []), (.aload_n 0, (1, 0, 0, 0, 0, 0), 0, []), (.getfield 15, (3, 0, 5, 1, 1158, 0), 0, []), (.if_icmp .gt 17, (3, 1, 5, 3, 0, 0), 0, [])],
  [(.iload_n 2, (1, 0, 2, 0, 0, 0), 0, []), (.aload_n 0, (1, 0, 0, 0, 0, 0), 0, []), (.getfield 15, (3, 0, 5, 1, 1158, 0), 0, []), (.iload_n 1, (1, 0, 1, 0, 0, 0), 0, []), (.isub, (1, 0, 0, 0, 0, 0), 0, []), (.if_icmp .gt 7, (3, 1, 5, 4, 0, 0), 0, [])],
  [(.iconst 1, (1, 0, 0, 0, 0, 0), 1, []), (.goto 4, (3, 1, 6, 0, 0, 0), 0, [])],
  [(.iconst 0, (1, 0, 0, 0, 0, 0), 0, []), (.nop, (0, 1, 6, 0, 0, 0), 0, [])],
  [(.ireturn, (1, 3, 0, 0, 0, 1), 0, [])]]
/-- EvenlyPoured$Sheet.write(II)V -/
noncomputable def bk_44 : List (List am_P) := [[(.aload_n 0, (1, 0, 0, 0, 0, 0), 0, []), (.getfield 9, (3, 0, 5, 0, 1156, 0), 0, []), (.lookupswitch 50 #[(0, 28), (1, 39)], (28, 1, 0, 5, 0, 0), 0, [(0, 1), (1, 3)])],
  [(.aload_n 0, (1, 0, 0, 0, 0, 0), 0, []), (.getfield 18, (3, 0, 5, 2, 1160, 1), 0, []), (.nop, (0, 1, 2, 0, 0, 0), 0, [])],
  [(.iload_n 1, (1, 0, 1, 0, 0, 0), 0, []), (.iload_n 2, (1, 0, 2, 0, 0, 0), 0, []), (.i2b, (1, 0, 0, 0, 0, 0), 0, []), (.iastore, (1, 0, 0, 0, 0, 0), 0, []), (.goto 21, (3, 1, 7, 0, 0, 0), 0, [])],
  [(.aload_n 0, (1, 0, 0, 0, 0, 0), 0, []), (.getfield 18, (3, 0, 5, 2, 1160, 1), 0, []), (.nop, (0, 1, 4, 0, 0, 0), 0, [])],
  [(.iload_n 1, (1, 0, 1, 0, 0, 0), 0, []), (.iload_n 2, (1, 0, 2, 0, 0, 0), 0, []), (.i2s, (1, 0, 0, 0, 0, 0), 0, []), (.iastore, (1, 0, 0, 0, 0, 0), 0, []), (.goto 10, (3, 1, 7, 0, 0, 0), 0, [])],
  [(.aload_n 0, (1, 0, 0, 0, 0, 0), 0, []), (.getfield 18, (3, 0, 5, 2, 1160, 1), 0, []), (.nop, (0, 1, 6, 0, 0, 0), 0, [])],
  [(.iload_n 1, (1, 0, 1, 0, 0, 0), 0, []), (.iload_n 2, (1, 0, 2, 0, 0, 0), 0, []), (.iastore, (1, 0, 0, 0, 0, 0), 0, []), (.nop, (0, 1, 7, 0, 0, 0), 0, [])],
  [(.return_, (1, 3, 0, 0, 0, 0), 0, [])]]
/-- EvenlyPoured$Tape.<init>()V -/
noncomputable def bk_45 : List (List am_P) := [[(.aload_n 0, (1, 0, 0, 0, 0, 0), 0, []), (.invokespecial 3, (3, 0, 0, 0, 1036, 0), 0, []), (.aload_n 0, (1, 0, 0, 0, 0, 0), 0, []), (.sipush 160, (3, 0, 0, 0, 0, 0), 160, []), (.newarray .int, (2, 0, 20, 0, 0, 0), 0, []), (.putfield 9, (3, 0, 6, 0, 1037, 1), 0, []), (.aload_n 0, (1, 0, 0, 0, 0, 0), 0, []), (.iconst 0, (1, 0, 0, 0, 0, 0), 0, []), (.putfield 15, (3, 0, 6, 1, 1039, 0), 0, []), (.aload_n 0, (1, 0, 0, 0, 0, 0), 0, []), (.sipush 161, (3, 0, 0, 0, 0, 0), 161, []), (.newarray .int, (2, 0, 20, 0, 0, 0), 0, []), (.putfield 19, (3, 0, 6, 2, 1041, 1), 0, []), (.aload_n 0, (1, 0, 0, 0, 0, 0), 0, []), (.sipush 161, (3, 0, 0, 0, 0, 0), 161, []), (.newarray .int, (2, 0, 20, 0, 0, 0), 0, []), (.putfield 22, (3, 0, 6, 3, 1043, 1), 0, []), (.aload_n 0, (1, 0, 0, 0, 0, 0), 0, []), (.iconst 0, (1, 0, 0, 0, 0, 0), 0, []), (.putfield 25, (3, 0, 6, 4, 1045, 0), 0, []), (.return_, (1, 3, 0, 0, 0, 0), 0, [])]]
/-- EvenlyPoured$Tape.splitUp()V -/
noncomputable def bk_46 : List (List am_P) := [[(.aload_n 0, (1, 0, 0, 0, 0, 0), 0, []), (.iconst 0, (1, 0, 0, 0, 0, 0), 0, []), (.putfield 25, (3, 0, 6, 4, 1045, 0), 0, []), (.iconst 0, (1, 0, 0, 0, 0, 0), 0, []), (.istore_n 1, (1, 0, 1, 0, 0, 0), 0, []), (.iconst 0, (1, 0, 0, 0, 0, 0), 0, []), (.istore_n 2, (1, 0, 2, 0, 0, 0), 0, []), (.nop, (0, 1, 1, 0, 0, 0), 0, [])],
  [(.iload_n 2, (1, 0, 2, 0, 0, 0), 0, []), (.sipush 160, (3, 0, 0, 0, 0, 0), 160, []), (.if_icmp .ge 82, (3, 1, 9, 2, 0, 0), 0, [])],
  [(.iload_n 1, (1, 0, 1, 0, 0, 0), 0, []), (.aload_n 0, (1, 0, 0, 0, 0, 0), 0, []), (.getfield 15, (3, 0, 6, 1, 1039, 0), 0, []), (.if_icmp .ge 74, (3, 1, 9, 3, 0, 0), 0, [])],
  [(.aload_n 0, (1, 0, 0, 0, 0, 0), 0, []), (.iload_n 1, (1, 0, 1, 0, 0, 0), 0, []), (.invokevirtual 28, (3, 2, 47, 4, 2, 7), 2172, [])],
  [(.istore_n 3, (1, 0, 3, 0, 0, 0), 0, []), (.aload_n 0, (1, 0, 0, 0, 0, 0), 0, []), (.getfield 9, (3, 0, 6, 0, 1037, 1), 0, []), (.iload_n 1, (1, 0, 1, 0, 0, 0), 0, []), (.iaload, (1, 0, 0, 0, 0, 0), 0, []), (.bipush 32, (2, 0, 0, 0, 0, 0), 32, []), (.if_icmp .eq 49, (3, 1, 8, 5, 0, 0), 0, [])],
  [(.aload_n 0, (1, 0, 0, 0, 0, 0), 0, []), (.getfield 9, (3, 0, 6, 0, 1037, 1), 0, []), (.iload_n 1, (1, 0, 1, 0, 0, 0), 0, []), (.iaload, (1, 0, 0, 0, 0, 0), 0, []), (.bipush 10, (2, 0, 0, 0, 0, 0), 10, []), (.if_icmp .eq 38, (3, 1, 8, 6, 0, 0), 0, [])],
  [(.aload_n 0, (1, 0, 0, 0, 0, 0), 0, []), (.getfield 19, (3, 0, 6, 2, 1041, 1), 0, []), (.aload_n 0, (1, 0, 0, 0, 0, 0), 0, []), (.getfield 25, (3, 0, 6, 4, 1045, 0), 0, []), (.aload_n 0, (1, 0, 0, 0, 0, 0), 0, []), (.iload_n 1, (1, 0, 1, 0, 0, 0), 0, []), (.iload_n 3, (1, 0, 3, 0, 0, 0), 0, []), (.invokevirtual 32, (3, 2, 48, 7, 3, 7), 2182, [])],
  [(.iastore, (1, 0, 0, 0, 0, 0), 0, []), (.aload_n 0, (1, 0, 0, 0, 0, 0), 0, []), (.getfield 22, (3, 0, 6, 3, 1043, 1), 0, []), (.aload_n 0, (1, 0, 0, 0, 0, 0), 0, []), (.getfield 25, (3, 0, 6, 4, 1045, 0), 0, []), (.iload_n 1, (1, 0, 1, 0, 0, 0), 0, []), (.iastore, (1, 0, 0, 0, 0, 0), 0, []), (.aload_n 0, (1, 0, 0, 0, 0, 0), 0, []), (.dup, (1, 0, 0, 0, 0, 0), 0, []), (.getfield 25, (3, 0, 6, 4, 1045, 0), 0, []), (.iconst 1, (1, 0, 0, 0, 0, 0), 1, []), (.iadd, (1, 0, 0, 0, 0, 0), 0, []), (.putfield 25, (3, 0, 6, 4, 1045, 0), 0, []), (.nop, (0, 1, 8, 0, 0, 0), 0, [])],
  [(.iload_n 3, (1, 0, 3, 0, 0, 0), 0, []), (.istore_n 1, (1, 0, 1, 0, 0, 0), 0, []), (.iinc 2 1, (3, 0, 2, 0, 0, 0), 1, []), (.goto (-83), (3, 1, 1, 0, 0, 0), 0, [])],
  [(.aload_n 0, (1, 0, 0, 0, 0, 0), 0, []), (.getfield 19, (3, 0, 6, 2, 1041, 1), 0, []), (.aload_n 0, (1, 0, 0, 0, 0, 0), 0, []), (.getfield 25, (3, 0, 6, 4, 1045, 0), 0, []), (.iconst (-1), (1, 0, 0, 0, 0, 0), (-1), []), (.iastore, (1, 0, 0, 0, 0, 0), 0, []), (.aload_n 0, (1, 0, 0, 0, 0, 0), 0, []), (.getfield 22, (3, 0, 6, 3, 1043, 1), 0, []), (.aload_n 0, (1, 0, 0, 0, 0, 0), 0, []), (.getfield 25, (3, 0, 6, 4, 1045, 0), 0, []), (.aload_n 0, (1, 0, 0, 0, 0, 0), 0, []), (.getfield 15, (3, 0, 6, 1, 1039, 0), 0, []), (.iastore, (1, 0, 0, 0, 0, 0), 0, []), (.return_, (1, 3, 0, 0, 0, 0), 0, [])]]
/-- EvenlyPoured$Tape.endOf(I)I -/
noncomputable def bk_47 : List (List am_P) := [[(.iload_n 1, (1, 0, 1, 0, 0, 0), 0, []), (.iconst 1, (1, 0, 0, 0, 0, 0), 1, []), (.iadd, (1, 0, 0, 0, 0, 0), 0, []), (.istore_n 2, (1, 0, 2, 0, 0, 0), 0, []), (.aload_n 0, (1, 0, 0, 0, 0, 0), 0, []), (.getfield 9, (3, 0, 6, 0, 1037, 1), 0, []), (.iload_n 1, (1, 0, 1, 0, 0, 0), 0, []), (.iaload, (1, 0, 0, 0, 0, 0), 0, []), (.invokestatic 36, (3, 2, 52, 1, 1, 0), 2176, [])],
  [(.ifCond .eq 29, (3, 1, 6, 2, 0, 0), 0, [])],
  [(.iload_n 2, (1, 0, 2, 0, 0, 0), 0, []), (.aload_n 0, (1, 0, 0, 0, 0, 0), 0, []), (.getfield 15, (3, 0, 6, 1, 1039, 0), 0, []), (.if_icmp .ge 59, (3, 1, 12, 3, 0, 0), 0, [])],
  [(.aload_n 0, (1, 0, 0, 0, 0, 0), 0, []), (.getfield 9, (3, 0, 6, 0, 1037, 1), 0, []), (.iload_n 2, (1, 0, 2, 0, 0, 0), 0, []), (.iaload, (1, 0, 0, 0, 0, 0), 0, []), (.invokestatic 36, (3, 2, 52, 4, 1, 0), 2176, [])],
  [(.ifCond .eq 47, (3, 1, 12, 5, 0, 0), 0, [])],
  [(.iinc 2 1, (3, 0, 2, 0, 0, 0), 1, []), (.goto (-23), (3, 1, 2, 0, 0, 0), 0, [])],
  [(.aload_n 0, (1, 0, 0, 0, 0, 0), 0, []), (.getfield 9, (3, 0, 6, 0, 1037, 1), 0, []), (.iload_n 1, (1, 0, 1, 0, 0, 0), 0, []), (.iaload, (1, 0, 0, 0, 0, 0), 0, []), (.invokestatic 40, (3, 2, 53, 7, 1, 0), 2179, [])],
  [(.ifCond .eq 29, (3, 1, 12, 8, 0, 0), 0, [])],
  [(.iload_n 2, (1, 0, 2, 0, 0, 0), 0, []), (.aload_n 0, (1, 0, 0, 0, 0, 0), 0, []), (.getfield 15, (3, 0, 6, 1, 1039, 0), 0, []), (.if_icmp .ge 21, (3, 1, 12, 9, 0, 0), 0, [])],
  [(.aload_n 0, (1, 0, 0, 0, 0, 0), 0, []), (.getfield 9, (3, 0, 6, 0, 1037, 1), 0, []), (.iload_n 2, (1, 0, 2, 0, 0, 0), 0, []), (.iaload, (1, 0, 0, 0, 0, 0), 0, []), (.invokestatic 40, (3, 2, 53, 10, 1, 0), 2179, [])],
  [(.ifCond .eq 9, (3, 1, 12, 11, 0, 0), 0, [])],
  [(.iinc 2 1, (3, 0, 2, 0, 0, 0), 1, []), (.goto (-23), (3, 1, 8, 0, 0, 0), 0, [])],
  [(.iload_n 2, (1, 0, 2, 0, 0, 0), 0, []), (.ireturn, (1, 3, 0, 0, 0, 0), 0, [])]]
/-- EvenlyPoured$Tape.tokenOf(II)I -/
noncomputable def bk_48 : List (List am_P) := [[(.aload_n 0, (1, 0, 0, 0, 0, 0), 0, []), (.getfield 9, (3, 0, 6, 0, 1037, 1), 0, []), (.iload_n 1, (1, 0, 1, 0, 0, 0), 0, []), (.iaload, (1, 0, 0, 0, 0, 0), 0, []), (.istore_n 3, (1, 0, 3, 0, 0, 0), 0, []), (.iload_n 3, (1, 0, 3, 0, 0, 0), 0, []), (.invokestatic 36, (3, 2, 52, 1, 1, 0), 2176, [])],
  [(.ifCond .eq 10, (3, 1, 4, 2, 0, 0), 0, [])],
  [(.aload_n 0, (1, 0, 0, 0, 0, 0), 0, []), (.iload_n 1, (1, 0, 1, 0, 0, 0), 0, []), (.iload_n 2, (1, 0, 2, 0, 0, 0), 0, []), (.invokevirtual 43, (3, 2, 50, 3, 3, 7), 2186, [])],
  [(.ireturn, (1, 3, 0, 0, 0, 0), 0, [])],
  [(.iload_n 3, (1, 0, 3, 0, 0, 0), 0, []), (.invokestatic 40, (3, 2, 53, 5, 1, 0), 2179, [])],
  [(.ifCond .eq 22, (3, 1, 10, 6, 0, 0), 0, [])],
  [(.iload_n 2, (1, 0, 2, 0, 0, 0), 0, []), (.iload_n 1, (1, 0, 1, 0, 0, 0), 0, []), (.isub, (1, 0, 0, 0, 0, 0), 0, []), (.iconst 4, (1, 0, 0, 0, 0, 0), 4, []), (.if_icmp .le 8, (3, 1, 8, 7, 0, 0), 0, [])],
  [(.bipush (-2), (2, 0, 0, 0, 0, 0), (-2), []), (.goto 9, (3, 1, 9, 0, 0, 0), 0, [])],
  [(.aload_n 0, (1, 0, 0, 0, 0, 0), 0, []), (.iload_n 1, (1, 0, 1, 0, 0, 0), 0, []), (.iload_n 2, (1, 0, 2, 0, 0, 0), 0, []), (.invokevirtual 46, (3, 2, 49, 9, 3, 7), 3003, [])],
  [(.ireturn, (1, 3, 0, 0, 0, 0), 0, [])],
  [(.iload_n 3, (1, 0, 3, 0, 0, 0), 0, []), (.invokestatic 49, (3, 2, 54, 11, 1, 0), 3007, [])],
  [(.ifCond .eq 8, (3, 1, 13, 12, 0, 0), 0, [])],
  [(.iload_n 3, (1, 0, 3, 0, 0, 0), 0, []), (.ineg, (1, 0, 0, 0, 0, 0), 0, []), (.goto 5, (3, 1, 14, 0, 0, 0), 0, [])],
  [(.bipush (-2), (2, 0, 0, 0, 0, 0), (-2), []), (.nop, (0, 1, 14, 0, 0, 0), 0, [])],
  [(.ireturn, (1, 3, 0, 0, 0, 0), 0, [])]]
/-- EvenlyPoured$Tape.numberOf(II)I -/
noncomputable def bk_49 : List (List am_P) := [[(.iconst 0, (1, 0, 0, 0, 0, 0), 0, []), (.istore_n 3, (1, 0, 3, 0, 0, 0), 0, []), (.iload_n 1, (1, 0, 1, 0, 0, 0), 0, []), (.istore 4, (2, 0, 4, 0, 0, 0), 0, []), (.nop, (0, 1, 1, 0, 0, 0), 0, [])],
  [(.iload 4, (2, 0, 4, 0, 0, 0), 0, []), (.iload_n 2, (1, 0, 2, 0, 0, 0), 0, []), (.if_icmp .ge 25, (3, 1, 3, 2, 0, 0), 0, [])],
  [(.iload_n 3, (1, 0, 3, 0, 0, 0), 0, []), (.bipush 10, (2, 0, 0, 0, 0, 0), 10, []), (.imul, (1, 0, 0, 0, 0, 0), 0, []), (.aload_n 0, (1, 0, 0, 0, 0, 0), 0, []), (.getfield 9, (3, 0, 6, 0, 1037, 1), 0, []), (.iload 4, (2, 0, 4, 0, 0, 0), 0, []), (.iaload, (1, 0, 0, 0, 0, 0), 0, []), (.iadd, (1, 0, 0, 0, 0, 0), 0, []), (.bipush 48, (2, 0, 0, 0, 0, 0), 48, []), (.isub, (1, 0, 0, 0, 0, 0), 0, []), (.istore_n 3, (1, 0, 3, 0, 0, 0), 0, []), (.iinc 4 1, (3, 0, 4, 0, 0, 0), 1, []), (.goto (-25), (3, 1, 1, 0, 0, 0), 0, [])],
  [(.iload_n 3, (1, 0, 3, 0, 0, 0), 0, []), (.ireturn, (1, 3, 0, 0, 0, 0), 0, [])]]
/-- EvenlyPoured$Tape.wordOf(II)I -/
noncomputable def bk_50 : List (List am_P) := [[(.iconst 0, (1, 0, 0, 0, 0, 0), 0, []), (.istore_n 3, (1, 0, 3, 0, 0, 0), 0, []), (.iconst 0, (1, 0, 0, 0, 0, 0), 0, []), (.istore 4, (2, 0, 4, 0, 0, 0), 0, []), (.iconst 0, (1, 0, 0, 0, 0, 0), 0, []), (.istore 5, (2, 0, 5, 0, 0, 0), 0, []), (.nop, (0, 1, 1, 0, 0, 0), 0, [])],
  [(.iload 5, (2, 0, 5, 0, 0, 0), 0, []), (.ldc 52, (2, 0, 0, 0, 2190, 1), 0, []), (.invokevirtual 54, (3, 2, 208, 2, 1, 27), 2191, [])],
  [(.if_icmp .ge 70, (3, 1, 14, 3, 0, 0), 0, [])],
  [(.ldc 52, (2, 0, 0, 0, 2190, 1), 0, []), (.iload 5, (2, 0, 5, 0, 0, 0), 0, []), (.invokevirtual 60, (3, 2, 209, 4, 2, 27), 2201, [])],
  [(.bipush 32, (2, 0, 0, 0, 0, 0), 32, []), (.if_icmp .ne 52, (3, 1, 13, 5, 0, 0), 0, [])],
  [(.iload 5, (2, 0, 5, 0, 0, 0), 0, []), (.iload 4, (2, 0, 4, 0, 0, 0), 0, []), (.isub, (1, 0, 0, 0, 0, 0), 0, []), (.iload_n 2, (1, 0, 2, 0, 0, 0), 0, []), (.iload_n 1, (1, 0, 1, 0, 0, 0), 0, []), (.isub, (1, 0, 0, 0, 0, 0), 0, []), (.if_icmp .ne 32, (3, 1, 12, 6, 0, 0), 0, [])],
  [(.aload_n 0, (1, 0, 0, 0, 0, 0), 0, []), (.iload_n 1, (1, 0, 1, 0, 0, 0), 0, []), (.iload 4, (2, 0, 4, 0, 0, 0), 0, []), (.iload 5, (2, 0, 5, 0, 0, 0), 0, []), (.invokevirtual 64, (3, 2, 51, 7, 4, 7), 2239, [])],
  [(.ifCond .eq 20, (3, 1, 12, 8, 0, 0), 0, [])],
  [(.iload_n 3, (1, 0, 3, 0, 0, 0), 0, []), (.bipush 6, (2, 0, 0, 0, 0, 0), 6, []), (.if_icmp .ge 11, (3, 1, 10, 9, 0, 0), 0, [])],
  [(.sipush 10000, (3, 0, 0, 0, 0, 0), 10000, []), (.iload_n 3, (1, 0, 3, 0, 0, 0), 0, []), (.iadd, (1, 0, 0, 0, 0, 0), 0, []), (.goto 5, (3, 1, 11, 0, 0, 0), 0, [])],
  [(.iload_n 3, (1, 0, 3, 0, 0, 0), 0, []), (.ineg, (1, 0, 0, 0, 0, 0), 0, []), (.nop, (0, 1, 11, 0, 0, 0), 0, [])],
  [(.ireturn, (1, 3, 0, 0, 0, 0), 0, [])],
  [(.iinc 3 1, (3, 0, 3, 0, 0, 0), 1, []), (.iload 5, (2, 0, 5, 0, 0, 0), 0, []), (.iconst 1, (1, 0, 0, 0, 0, 0), 1, []), (.iadd, (1, 0, 0, 0, 0, 0), 0, []), (.istore 4, (2, 0, 4, 0, 0, 0), 0, []), (.nop, (0, 1, 13, 0, 0, 0), 0, [])],
  [(.iinc 5 1, (3, 0, 5, 0, 0, 0), 1, []), (.goto (-74), (3, 1, 1, 0, 0, 0), 0, [])],
  [(.bipush (-2), (2, 0, 0, 0, 0, 0), (-2), []), (.ireturn, (1, 3, 0, 0, 0, 0), 0, [])]]
/-- EvenlyPoured$Tape.isSpelled(III)Z -/
noncomputable def bk_51 : List (List am_P) := [[(.iload_n 2, (1, 0, 2, 0, 0, 0), 0, []), (.istore 4, (2, 0, 4, 0, 0, 0), 0, []), (.nop, (0, 1, 1, 0, 0, 0), 0, [])],
  [(.iload 4, (2, 0, 4, 0, 0, 0), 0, []), (.iload_n 3, (1, 0, 3, 0, 0, 0), 0, []), (.if_icmp .ge 32, (3, 1, 6, 2, 0, 0), 0, [])],
  [(.ldc 52, (2, 0, 0, 0, 2190, 1), 0, []), (.iload 4, (2, 0, 4, 0, 0, 0), 0, []), (.invokevirtual 60, (3, 2, 209, 3, 2, 27), 2201, [])],
  [(.aload_n 0, (1, 0, 0, 0, 0, 0), 0, []), (.getfield 9, (3, 0, 6, 0, 1037, 1), 0, []), (.iload_n 1, (1, 0, 1, 0, 0, 0), 0, []), (.iload 4, (2, 0, 4, 0, 0, 0), 0, []), (.iadd, (1, 0, 0, 0, 0, 0), 0, []), (.iload_n 2, (1, 0, 2, 0, 0, 0), 0, []), (.isub, (1, 0, 0, 0, 0, 0), 0, []), (.iaload, (1, 0, 0, 0, 0, 0), 0, []), (.if_icmp .eq 5, (3, 1, 5, 4, 0, 0), 0, [])],
  [(.iconst 0, (1, 0, 0, 0, 0, 0), 0, []), (.ireturn, (1, 3, 0, 0, 0, 1), 0, [])],
  [(.iinc 4 1, (3, 0, 4, 0, 0, 0), 1, []), (.goto (-32), (3, 1, 1, 0, 0, 0), 0, [])],
  [(.iconst 1, (1, 0, 0, 0, 0, 0), 1, []), (.ireturn, (1, 3, 0, 0, 0, 1), 0, [])]]
/-- EvenlyPoured$Tape.isLetter(I)Z -/
noncomputable def bk_52 : List (List am_P) := [[(.iload_n 0, (1, 0, 0, 0, 0, 0), 0, []), (.bipush 97, (2, 0, 0, 0, 0, 0), 97, []), (.if_icmp .lt 13, (3, 1, 3, 1, 0, 0), 0, [])],
  [(.iload_n 0, (1, 0, 0, 0, 0, 0), 0, []), (.bipush 122, (2, 0, 0, 0, 0, 0), 122, []), (.if_icmp .gt 7, (3, 1, 3, 2, 0, 0), 0, [])],
  [(.iconst 1, (1, 0, 0, 0, 0, 0), 1, []), (.goto 4, (3, 1, 4, 0, 0, 0), 0, [])],
  [(.iconst 0, (1, 0, 0, 0, 0, 0), 0, []), (.nop, (0, 1, 4, 0, 0, 0), 0, [])],
  [(.ireturn, (1, 3, 0, 0, 0, 1), 0, [])]]
/-- EvenlyPoured$Tape.isDigit(I)Z -/
noncomputable def bk_53 : List (List am_P) := [[(.iload_n 0, (1, 0, 0, 0, 0, 0), 0, []), (.bipush 48, (2, 0, 0, 0, 0, 0), 48, []), (.if_icmp .lt 13, (3, 1, 3, 1, 0, 0), 0, [])],
  [(.iload_n 0, (1, 0, 0, 0, 0, 0), 0, []), (.bipush 57, (2, 0, 0, 0, 0, 0), 57, []), (.if_icmp .gt 7, (3, 1, 3, 2, 0, 0), 0, [])],
  [(.iconst 1, (1, 0, 0, 0, 0, 0), 1, []), (.goto 4, (3, 1, 4, 0, 0, 0), 0, [])],
  [(.iconst 0, (1, 0, 0, 0, 0, 0), 0, []), (.nop, (0, 1, 4, 0, 0, 0), 0, [])],
  [(.ireturn, (1, 3, 0, 0, 0, 1), 0, [])]]
/-- EvenlyPoured$Tape.isSign(I)Z -/
noncomputable def bk_54 : List (List am_P) := [[(.iload_n 0, (1, 0, 0, 0, 0, 0), 0, []), (.tableswitch 105 40 61 #[103, 103, 103, 103, 105, 103, 105, 105, 105, 105, 105, 105, 105, 105, 105, 105, 105, 105, 105, 103, 103, 103], (103, 1, 0, 2, 0, 0), 0, [(40, 1), (41, 1), (42, 1), (43, 1), (44, 2), (45, 1), (46, 2), (47, 2), (48, 2), (49, 2), (50, 2), (51, 2), (52, 2), (53, 2), (54, 2), (55, 2), (56, 2), (57, 2), (58, 2), (59, 1), (60, 1), (61, 1)])],
  [(.iconst 1, (1, 0, 0, 0, 0, 0), 1, []), (.ireturn, (1, 3, 0, 0, 0, 1), 0, [])],
  [(.iconst 0, (1, 0, 0, 0, 0, 0), 0, []), (.ireturn, (1, 3, 0, 0, 0, 1), 0, [])]]
/-- EvenlyPoured$Teller.<init>(LEvenlyPoured$Text;)V -/
noncomputable def bk_55 : List (List am_P) := [[(.aload_n 0, (1, 0, 0, 0, 0, 0), 0, []), (.invokespecial 3, (3, 0, 0, 0, 1174, 0), 0, []), (.aload_n 0, (1, 0, 0, 0, 0, 0), 0, []), (.bipush 6, (2, 0, 0, 0, 0, 0), 6, []), (.newarray .int, (2, 0, 20, 0, 0, 0), 0, []), (.putfield 9, (3, 0, 7, 0, 1175, 1), 0, []), (.aload_n 0, (1, 0, 0, 0, 0, 0), 0, []), (.bipush 40, (2, 0, 0, 0, 0, 0), 40, []), (.newarray .int, (2, 0, 20, 0, 0, 0), 0, []), (.putfield 15, (3, 0, 7, 1, 1176, 1), 0, []), (.aload_n 0, (1, 0, 0, 0, 0, 0), 0, []), (.aload_n 1, (1, 0, 1, 0, 0, 0), 0, []), (.putfield 18, (3, 0, 7, 2, 1177, 1), 0, []), (.return_, (1, 3, 0, 0, 0, 0), 0, [])]]
/-- EvenlyPoured$Teller.begin(LEvenlyPoured$Text;II)V -/
noncomputable def bk_56 : List (List am_P) := [[(.aload_n 0, (1, 0, 0, 0, 0, 0), 0, []), (.aload_n 1, (1, 0, 1, 0, 0, 0), 0, []), (.putfield 18, (3, 0, 7, 2, 1177, 1), 0, []), (.aload_n 0, (1, 0, 0, 0, 0, 0), 0, []), (.getfield 9, (3, 0, 7, 0, 1175, 1), 0, []), (.iconst 2, (1, 0, 0, 0, 0, 0), 2, []), (.iload_n 2, (1, 0, 2, 0, 0, 0), 0, []), (.iastore, (1, 0, 0, 0, 0, 0), 0, []), (.aload_n 0, (1, 0, 0, 0, 0, 0), 0, []), (.getfield 9, (3, 0, 7, 0, 1175, 1), 0, []), (.iconst 1, (1, 0, 0, 0, 0, 0), 1, []), (.iload_n 3, (1, 0, 3, 0, 0, 0), 0, []), (.iastore, (1, 0, 0, 0, 0, 0), 0, []), (.return_, (1, 3, 0, 0, 0, 0), 0, [])]]
/-- EvenlyPoured$Teller.look(IIII)V -/
noncomputable def bk_57 : List (List am_P) := [[(.aload_n 0, (1, 0, 0, 0, 0, 0), 0, []), (.getfield 9, (3, 0, 7, 0, 1175, 1), 0, []), (.iconst 0, (1, 0, 0, 0, 0, 0), 0, []), (.iload_n 1, (1, 0, 1, 0, 0, 0), 0, []), (.iastore, (1, 0, 0, 0, 0, 0), 0, []), (.aload_n 0, (1, 0, 0, 0, 0, 0), 0, []), (.getfield 9, (3, 0, 7, 0, 1175, 1), 0, []), (.iconst 3, (1, 0, 0, 0, 0, 0), 3, []), (.iload_n 2, (1, 0, 2, 0, 0, 0), 0, []), (.iastore, (1, 0, 0, 0, 0, 0), 0, []), (.aload_n 0, (1, 0, 0, 0, 0, 0), 0, []), (.getfield 9, (3, 0, 7, 0, 1175, 1), 0, []), (.iconst 4, (1, 0, 0, 0, 0, 0), 4, []), (.iload_n 3, (1, 0, 3, 0, 0, 0), 0, []), (.iastore, (1, 0, 0, 0, 0, 0), 0, []), (.aload_n 0, (1, 0, 0, 0, 0, 0), 0, []), (.getfield 9, (3, 0, 7, 0, 1175, 1), 0, []), (.iconst 5, (1, 0, 0, 0, 0, 0), 5, []), (.iload 4, (2, 0, 4, 0, 0, 0), 0, []), (.iastore, (1, 0, 0, 0, 0, 0), 0, []), (.return_, (1, 3, 0, 0, 0, 0), 0, [])]]
/-- EvenlyPoured$Teller.strong()I -/
noncomputable def bk_58 : List (List am_P) := [[(.aload_n 0, (1, 0, 0, 0, 0, 0), 0, []), (.aload_n 0, (1, 0, 0, 0, 0, 0), 0, []), (.getfield 18, (3, 0, 7, 2, 1177, 1), 0, []), (.getfield 22, (3, 0, 8, 0, 1124, 1), 0, []), (.nop, (0, 1, 1, 0, 0, 0), 0, [])],
  [(.invokevirtual 27, (3, 2, 62, 2, 2, 8), 3105, [])],
  [(.sipush 999, (3, 0, 0, 0, 0, 0), 999, []), (.invokestatic 31, (3, 2, 61, 3, 2, 0), 3116, [])],
  [(.ireturn, (1, 3, 0, 0, 0, 0), 0, [])]]
/-- EvenlyPoured$Teller.drips(I)I -/
noncomputable def bk_59 : List (List am_P) := [[(.aload_n 0, (1, 0, 0, 0, 0, 0), 0, []), (.aload_n 0, (1, 0, 0, 0, 0, 0), 0, []), (.getfield 18, (3, 0, 7, 2, 1177, 1), 0, []), (.getfield 35, (3, 0, 8, 1, 1126, 1), 0, []), (.nop, (0, 1, 1, 0, 0, 0), 0, [])],
  [(.invokevirtual 27, (3, 2, 62, 2, 2, 8), 3105, [])],
  [(.sipush 999, (3, 0, 0, 0, 0, 0), 999, []), (.invokestatic 31, (3, 2, 61, 3, 2, 0), 3116, [])],
  [(.iload_n 1, (1, 0, 1, 0, 0, 0), 0, []), (.invokestatic 38, (3, 0, 0, 0, 3119, 2), 0, []), (.ireturn, (1, 3, 0, 0, 0, 0), 0, [])]]
/-- EvenlyPoured$Teller.liked()I -/
noncomputable def bk_60 : List (List am_P) := [[(.aload_n 0, (1, 0, 0, 0, 0, 0), 0, []), (.aload_n 0, (1, 0, 0, 0, 0, 0), 0, []), (.getfield 18, (3, 0, 7, 2, 1177, 1), 0, []), (.getfield 43, (3, 0, 8, 2, 1128, 1), 0, []), (.nop, (0, 1, 1, 0, 0, 0), 0, [])],
  [(.invokevirtual 27, (3, 2, 62, 2, 2, 8), 3105, [])],
  [(.sipush 9999, (3, 0, 0, 0, 0, 0), 9999, []), (.invokestatic 31, (3, 2, 61, 3, 2, 0), 3116, [])],
  [(.ireturn, (1, 3, 0, 0, 0, 0), 0, [])]]
/-- EvenlyPoured$Teller.within(II)I -/
noncomputable def bk_61 : List (List am_P) := [[(.iconst 0, (1, 0, 0, 0, 0, 0), 0, []), (.iload_n 0, (1, 0, 0, 0, 0, 0), 0, []), (.iload_n 1, (1, 0, 1, 0, 0, 0), 0, []), (.invokestatic 38, (3, 0, 0, 0, 3119, 2), 0, []), (.invokestatic 46, (3, 0, 0, 0, 3120, 1), 0, []), (.ireturn, (1, 3, 0, 0, 0, 0), 0, [])]]
/-- EvenlyPoured$Teller.worth([I)I -/
noncomputable def bk_62 : List (List am_P) := [[(.iconst 0, (1, 0, 0, 0, 0, 0), 0, []), (.istore_n 2, (1, 0, 2, 0, 0, 0), 0, []), (.iconst 0, (1, 0, 0, 0, 0, 0), 0, []), (.istore_n 3, (1, 0, 3, 0, 0, 0), 0, []), (.nop, (0, 1, 1, 0, 0, 0), 0, [])],
  [(.iload_n 3, (1, 0, 3, 0, 0, 0), 0, []), (.aload_n 1, (1, 0, 1, 0, 0, 0), 0, []), (.arraylength, (1, 0, 0, 0, 0, 0), 0, []), (.if_icmp .ge 164, (3, 1, 25, 2, 0, 0), 0, [])],
  [(.aload_n 1, (1, 0, 1, 0, 0, 0), 0, []), (.iload_n 3, (1, 0, 3, 0, 0, 0), 0, []), (.iaload, (1, 0, 0, 0, 0, 0), 0, []), (.istore 4, (2, 0, 4, 0, 0, 0), 0, []), (.iload 4, (2, 0, 4, 0, 0, 0), 0, []), (.ifCond .lt 46, (3, 1, 9, 3, 0, 0), 0, [])],
  [(.iload_n 2, (1, 0, 2, 0, 0, 0), 0, []), (.bipush 40, (2, 0, 0, 0, 0, 0), 40, []), (.if_icmp .lt 5, (3, 1, 5, 4, 0, 0), 0, [])],
  [(.iconst 0, (1, 0, 0, 0, 0, 0), 0, []), (.ireturn, (1, 3, 0, 0, 0, 0), 0, [])],
  [(.aload_n 0, (1, 0, 0, 0, 0, 0), 0, []), (.getfield 15, (3, 0, 7, 1, 1176, 1), 0, []), (.iload_n 2, (1, 0, 2, 0, 0, 0), 0, []), (.iload 4, (2, 0, 4, 0, 0, 0), 0, []), (.sipush 10000, (3, 0, 0, 0, 0, 0), 10000, []), (.if_icmp .ge 8, (3, 1, 7, 6, 0, 0), 0, [])],
  [(.iload 4, (2, 0, 4, 0, 0, 0), 0, []), (.goto 13, (3, 1, 8, 0, 0, 0), 0, [])],
  [(.aload_n 0, (1, 0, 0, 0, 0, 0), 0, []), (.iload 4, (2, 0, 4, 0, 0, 0), 0, []), (.sipush 10000, (3, 0, 0, 0, 0, 0), 10000, []), (.isub, (1, 0, 0, 0, 0, 0), 0, []), (.invokevirtual 49, (3, 2, 63, 8, 2, 8), 3109, [])],
  [(.iastore, (1, 0, 0, 0, 0, 0), 0, []), (.iinc 2 1, (3, 0, 2, 0, 0, 0), 1, []), (.goto 105, (3, 1, 24, 0, 0, 0), 0, [])],
  [(.iload 4, (2, 0, 4, 0, 0, 0), 0, []), (.bipush (-11), (2, 0, 0, 0, 0, 0), (-11), []), (.if_icmp .eq 10, (3, 1, 11, 10, 0, 0), 0, [])],
  [(.iload 4, (2, 0, 4, 0, 0, 0), 0, []), (.bipush (-3), (2, 0, 0, 0, 0, 0), (-3), []), (.if_icmp .ne 54, (3, 1, 19, 11, 0, 0), 0, [])],
  [(.iload_n 2, (1, 0, 2, 0, 0, 0), 0, []), (.iconst 1, (1, 0, 0, 0, 0, 0), 1, []), (.if_icmp .ge 5, (3, 1, 13, 12, 0, 0), 0, [])],
  [(.iconst 0, (1, 0, 0, 0, 0, 0), 0, []), (.ireturn, (1, 3, 0, 0, 0, 0), 0, [])],
  [(.aload_n 0, (1, 0, 0, 0, 0, 0), 0, []), (.getfield 15, (3, 0, 7, 1, 1176, 1), 0, []), (.iload_n 2, (1, 0, 2, 0, 0, 0), 0, []), (.iconst 1, (1, 0, 0, 0, 0, 0), 1, []), (.isub, (1, 0, 0, 0, 0, 0), 0, []), (.iaload, (1, 0, 0, 0, 0, 0), 0, []), (.istore 5, (2, 0, 5, 0, 0, 0), 0, []), (.aload_n 0, (1, 0, 0, 0, 0, 0), 0, []), (.getfield 15, (3, 0, 7, 1, 1176, 1), 0, []), (.iload_n 2, (1, 0, 2, 0, 0, 0), 0, []), (.iconst 1, (1, 0, 0, 0, 0, 0), 1, []), (.isub, (1, 0, 0, 0, 0, 0), 0, []), (.iload 4, (2, 0, 4, 0, 0, 0), 0, []), (.bipush (-3), (2, 0, 0, 0, 0, 0), (-3), []), (.if_icmp .ne 9, (3, 1, 15, 14, 0, 0), 0, [])],
  [(.iload 5, (2, 0, 5, 0, 0, 0), 0, []), (.ineg, (1, 0, 0, 0, 0, 0), 0, []), (.goto 13, (3, 1, 18, 0, 0, 0), 0, [])],
  [(.iload 5, (2, 0, 5, 0, 0, 0), 0, []), (.ifCond .ne 7, (3, 1, 17, 16, 0, 0), 0, [])],
  [(.iconst 1, (1, 0, 0, 0, 0, 0), 1, []), (.goto 4, (3, 1, 18, 0, 0, 0), 0, [])],
  [(.iconst 0, (1, 0, 0, 0, 0, 0), 0, []), (.nop, (0, 1, 18, 0, 0, 0), 0, [])],
  [(.iastore, (1, 0, 0, 0, 0, 0), 0, []), (.goto 40, (3, 1, 24, 0, 0, 0), 0, [])],
  [(.iload_n 2, (1, 0, 2, 0, 0, 0), 0, []), (.iconst 2, (1, 0, 0, 0, 0, 0), 2, []), (.if_icmp .ge 5, (3, 1, 21, 20, 0, 0), 0, [])],
  [(.iconst 0, (1, 0, 0, 0, 0, 0), 0, []), (.ireturn, (1, 3, 0, 0, 0, 0), 0, [])],
  [(.iinc 2 (-1), (3, 0, 2, 0, 0, 0), (-1), []), (.nop, (0, 1, 22, 0, 0, 0), 0, [])],
  [(.aload_n 0, (1, 0, 0, 0, 0, 0), 0, []), (.getfield 15, (3, 0, 7, 1, 1176, 1), 0, []), (.iload_n 2, (1, 0, 2, 0, 0, 0), 0, []), (.iconst 1, (1, 0, 0, 0, 0, 0), 1, []), (.isub, (1, 0, 0, 0, 0, 0), 0, []), (.iload 4, (2, 0, 4, 0, 0, 0), 0, []), (.aload_n 0, (1, 0, 0, 0, 0, 0), 0, []), (.getfield 15, (3, 0, 7, 1, 1176, 1), 0, []), (.iload_n 2, (1, 0, 2, 0, 0, 0), 0, []), (.iconst 1, (1, 0, 0, 0, 0, 0), 1, []), (.isub, (1, 0, 0, 0, 0, 0), 0, []), (.iaload, (1, 0, 0, 0, 0, 0), 0, []), (.aload_n 0, (1, 0, 0, 0, 0, 0), 0, []), (.getfield 15, (3, 0, 7, 1, 1176, 1), 0, []), (.iload_n 2, (1, 0, 2, 0, 0, 0), 0, []), (.iaload, (1, 0, 0, 0, 0, 0), 0, []), (.invokestatic 53, (3, 2, 64, 23, 3, 0), 3113, [])],
  [(.iastore, (1, 0, 0, 0, 0, 0), 0, []), (.nop, (0, 1, 24, 0, 0, 0), 0, [])],
  [(.iinc 3 1, (3, 0, 3, 0, 0, 0), 1, []), (.goto (-164), (3, 1, 1, 0, 0, 0), 0, [])],
  [(.iload_n 2, (1, 0, 2, 0, 0, 0), 0, []), (.iconst 1, (1, 0, 0, 0, 0, 0), 1, []), (.if_icmp .ne 12, (3, 1, 27, 26, 0, 0), 0, [])],
  [(.aload_n 0, (1, 0, 0, 0, 0, 0), 0, []), (.getfield 15, (3, 0, 7, 1, 1176, 1), 0, []), (.iconst 0, (1, 0, 0, 0, 0, 0), 0, []), (.iaload, (1, 0, 0, 0, 0, 0), 0, []), (.goto 4, (3, 1, 28, 0, 0, 0), 0, [])],
  [(.iconst 0, (1, 0, 0, 0, 0, 0), 0, []), (.nop, (0, 1, 28, 0, 0, 0), 0, [])],
  [(.ireturn, (1, 3, 0, 0, 0, 0), 0, [])]]
/-- EvenlyPoured$Teller.named(I)I -/
noncomputable def bk_63 : List (List am_P) := [[(.iload_n 1, (1, 0, 1, 0, 0, 0), 0, []), (.bipush 6, (2, 0, 0, 0, 0, 0), 6, []), (.if_icmp .ge 12, (3, 1, 2, 1, 0, 0), 0, [])],
  [(.aload_n 0, (1, 0, 0, 0, 0, 0), 0, []), (.getfield 9, (3, 0, 7, 0, 1175, 1), 0, []), (.iload_n 1, (1, 0, 1, 0, 0, 0), 0, []), (.iaload, (1, 0, 0, 0, 0, 0), 0, []), (.goto 4, (3, 1, 3, 0, 0, 0), 0, [])],
  [(.iconst 0, (1, 0, 0, 0, 0, 0), 0, []), (.nop, (0, 1, 3, 0, 0, 0), 0, [])],
  [(.ireturn, (1, 3, 0, 0, 0, 0), 0, [])]]
/-- EvenlyPoured$Teller.joined(III)I -/
noncomputable def bk_64 : List (List am_P) := [[(.iload_n 0, (1, 0, 0, 0, 0, 0), 0, []), (.lookupswitch 117 #[(-61, 98), (-60, 87), (-45, 113), (-43, 109), (-10, 73), (-9, 59)], (59, 1, 0, 21, 0, 0), 0, [(-61, 15), (-60, 11), (-45, 20), (-43, 19), (-10, 6), (-9, 1)])],
  [(.iload_n 1, (1, 0, 1, 0, 0, 0), 0, []), (.ifCond .ne 7, (3, 1, 3, 2, 0, 0), 0, [])],
  [(.iload_n 2, (1, 0, 2, 0, 0, 0), 0, []), (.ifCond .eq 7, (3, 1, 4, 3, 0, 0), 0, [])],
  [(.iconst 1, (1, 0, 0, 0, 0, 0), 1, []), (.goto 4, (3, 1, 5, 0, 0, 0), 0, [])],
  [(.iconst 0, (1, 0, 0, 0, 0, 0), 0, []), (.nop, (0, 1, 5, 0, 0, 0), 0, [])],
  [(.ireturn, (1, 3, 0, 0, 0, 0), 0, [])],
  [(.iload_n 1, (1, 0, 1, 0, 0, 0), 0, []), (.ifCond .eq 11, (3, 1, 9, 7, 0, 0), 0, [])],
  [(.iload_n 2, (1, 0, 2, 0, 0, 0), 0, []), (.ifCond .eq 7, (3, 1, 9, 8, 0, 0), 0, [])],
  [(.iconst 1, (1, 0, 0, 0, 0, 0), 1, []), (.goto 4, (3, 1, 10, 0, 0, 0), 0, [])],
  [(.iconst 0, (1, 0, 0, 0, 0, 0), 0, []), (.nop, (0, 1, 10, 0, 0, 0), 0, [])],
  [(.ireturn, (1, 3, 0, 0, 0, 0), 0, [])],
  [(.iload_n 1, (1, 0, 1, 0, 0, 0), 0, []), (.iload_n 2, (1, 0, 2, 0, 0, 0), 0, []), (.if_icmp .ge 7, (3, 1, 13, 12, 0, 0), 0, [])],
  [(.iconst 1, (1, 0, 0, 0, 0, 0), 1, []), (.goto 4, (3, 1, 14, 0, 0, 0), 0, [])],
  [(.iconst 0, (1, 0, 0, 0, 0, 0), 0, []), (.nop, (0, 1, 14, 0, 0, 0), 0, [])],
  [(.ireturn, (1, 3, 0, 0, 0, 0), 0, [])],
  [(.iload_n 1, (1, 0, 1, 0, 0, 0), 0, []), (.iload_n 2, (1, 0, 2, 0, 0, 0), 0, []), (.if_icmp .ne 7, (3, 1, 17, 16, 0, 0), 0, [])],
  [(.iconst 1, (1, 0, 0, 0, 0, 0), 1, []), (.goto 4, (3, 1, 18, 0, 0, 0), 0, [])],
  [(.iconst 0, (1, 0, 0, 0, 0, 0), 0, []), (.nop, (0, 1, 18, 0, 0, 0), 0, [])],
  [(.ireturn, (1, 3, 0, 0, 0, 0), 0, [])],
  [(.iload_n 1, (1, 0, 1, 0, 0, 0), 0, []), (.iload_n 2, (1, 0, 2, 0, 0, 0), 0, []), (.iadd, (1, 0, 0, 0, 0, 0), 0, []), (.ireturn, (1, 3, 0, 0, 0, 0), 0, [])],
  [(.iload_n 1, (1, 0, 1, 0, 0, 0), 0, []), (.iload_n 2, (1, 0, 2, 0, 0, 0), 0, []), (.isub, (1, 0, 0, 0, 0, 0), 0, []), (.ireturn, (1, 3, 0, 0, 0, 0), 0, [])],
  [(.iload_n 1, (1, 0, 1, 0, 0, 0), 0, []), (.iload_n 2, (1, 0, 2, 0, 0, 0), 0, []), (.imul, (1, 0, 0, 0, 0, 0), 0, []), (.ireturn, (1, 3, 0, 0, 0, 0), 0, [])]]
/-- EvenlyPoured$Text.<init>([I[I[I)V -/
noncomputable def bk_65 : List (List am_P) := [[(.aload_n 0, (1, 0, 0, 0, 0, 0), 0, []), (.invokespecial 1, (3, 0, 0, 0, 1122, 0), 0, []), (.aload_n 0, (1, 0, 0, 0, 0, 0), 0, []), (.aload_n 1, (1, 0, 1, 0, 0, 0), 0, []), (.putfield 7, (3, 0, 8, 0, 1123, 1), 0, []), (.aload_n 0, (1, 0, 0, 0, 0, 0), 0, []), (.aload_n 2, (1, 0, 2, 0, 0, 0), 0, []), (.putfield 13, (3, 0, 8, 1, 1125, 1), 0, []), (.aload_n 0, (1, 0, 0, 0, 0, 0), 0, []), (.aload_n 3, (1, 0, 3, 0, 0, 0), 0, []), (.putfield 16, (3, 0, 8, 2, 1127, 1), 0, []), (.return_, (1, 3, 0, 0, 0, 0), 0, [])]]
/-- EvenlyPoured.<init>()V -/
noncomputable def bk_66 : List (List am_P) := [[(.aload_n 0, (1, 0, 0, 0, 0, 0), 0, []), (.invokespecial 1, (3, 0, 0, 0, 1024, 0), 0, []), (.aload_n 0, (1, 0, 0, 0, 0, 0), 0, []), (.iconst 2, (1, 0, 0, 0, 0, 0), 2, []), (.putfield 7, (3, 0, 9, 0, 2044, 0), 0, []), (.aload_n 0, (1, 0, 0, 0, 0, 0), 0, []), (.bipush 8, (2, 0, 0, 0, 0, 0), 8, []), (.putfield 13, (3, 0, 9, 1, 2045, 0), 0, []), (.aload_n 0, (1, 0, 0, 0, 0, 0), 0, []), (.bipush 24, (2, 0, 0, 0, 0, 0), 24, []), (.newarray .int, (2, 0, 20, 0, 0, 0), 0, []), (.putfield 16, (3, 0, 9, 2, 2046, 1), 0, []), (.aload_n 0, (1, 0, 0, 0, 0, 0), 0, []), (.bipush 8, (2, 0, 0, 0, 0, 0), 8, []), (.newarray .int, (2, 0, 20, 0, 0, 0), 0, []), (.putfield 20, (3, 0, 9, 3, 2047, 1), 0, []), (.aload_n 0, (1, 0, 0, 0, 0, 0), 0, []), (.bipush 6, (2, 0, 0, 0, 0, 0), 6, []), (.anewarray 23, (3, 0, 22, 0, 1027, 0), 0, []), (.putfield 25, (3, 0, 9, 4, 2048, 1), 0, []), (.aload_n 0, (1, 0, 0, 0, 0, 0), 0, []), (.iconst 0, (1, 0, 0, 0, 0, 0), 0, []), (.putfield 29, (3, 0, 9, 5, 2049, 0), 0, []), (.aload_n 0, (1, 0, 0, 0, 0, 0), 0, []), (.bipush 6, (2, 0, 0, 0, 0, 0), 6, []), (.anewarray 32, (3, 0, 23, 0, 1029, 0), 0, []), (.putfield 34, (3, 0, 9, 6, 2050, 1), 0, []), (.aload_n 0, (1, 0, 0, 0, 0, 0), 0, []), (.iconst 1, (1, 0, 0, 0, 0, 0), 1, []), (.putfield 38, (3, 0, 9, 7, 2051, 0), 0, []), (.aload_n 0, (1, 0, 0, 0, 0, 0), 0, []), (.iconst 0, (1, 0, 0, 0, 0, 0), 0, []), (.putfield 41, (3, 0, 9, 8, 2052, 0), 0, []), (.aload_n 0, (1, 0, 0, 0, 0, 0), 0, []), (.new 44, (3, 0, 6, 5, 1031, 0), 0, []), (.dup, (1, 0, 0, 0, 0, 0), 0, []), (.invokespecial 46, (3, 2, 45, 1, 1, 0), 1033, [])],
  [(.putfield 47, (3, 0, 9, 9, 2053, 1), 0, []), (.aload_n 0, (1, 0, 0, 0, 0, 0), 0, []), (.new 51, (3, 0, 3, 5, 1059, 0), 0, []), (.dup, (1, 0, 0, 0, 0, 0), 0, []), (.aload_n 0, (1, 0, 0, 0, 0, 0), 0, []), (.getfield 47, (3, 0, 9, 9, 2053, 1), 0, []), (.invokespecial 53, (3, 2, 13, 2, 2, 0), 1061, [])],
  [(.putfield 56, (3, 0, 9, 10, 2054, 1), 0, []), (.aload_n 0, (1, 0, 0, 0, 0, 0), 0, []), (.iconst 4, (1, 0, 0, 0, 0, 0), 4, []), (.anewarray 60, (3, 0, 24, 0, 1081, 0), 0, []), (.putfield 62, (3, 0, 9, 11, 2055, 1), 0, []), (.aload_n 0, (1, 0, 0, 0, 0, 0), 0, []), (.new 66, (3, 0, 0, 8, 1083, 0), 0, []), (.dup, (1, 0, 0, 0, 0, 0), 0, []), (.invokespecial 68, (3, 2, 0, 3, 1, 0), 1085, [])],
  [(.putfield 69, (3, 0, 9, 12, 2056, 1), 0, []), (.aload_n 0, (1, 0, 0, 0, 0, 0), 0, []), (.bipush 24, (2, 0, 0, 0, 0, 0), 24, []), (.newarray .int, (2, 0, 20, 0, 0, 0), 0, []), (.putfield 73, (3, 0, 9, 15, 2059, 1), 0, []), (.aload_n 0, (1, 0, 0, 0, 0, 0), 0, []), (.iconst 4, (1, 0, 0, 0, 0, 0), 4, []), (.newarray .int, (2, 0, 20, 0, 0, 0), 0, []), (.putfield 76, (3, 0, 9, 16, 2060, 1), 0, []), (.aload_n 0, (1, 0, 0, 0, 0, 0), 0, []), (.bipush 8, (2, 0, 0, 0, 0, 0), 8, []), (.newarray .boolean, (2, 0, 21, 0, 0, 0), 0, []), (.putfield 79, (3, 0, 9, 17, 2061, 1), 0, []), (.iconst 3, (1, 0, 0, 0, 0, 0), 3, []), (.newarray .int, (2, 0, 20, 0, 0, 0), 0, []), (.dup, (1, 0, 0, 0, 0, 0), 0, []), (.iconst 0, (1, 0, 0, 0, 0, 0), 0, []), (.sipush 10000, (3, 0, 0, 0, 0, 0), 10000, []), (.iastore, (1, 0, 0, 0, 0, 0), 0, []), (.dup, (1, 0, 0, 0, 0, 0), 0, []), (.iconst 1, (1, 0, 0, 0, 0, 0), 1, []), (.iconst 1, (1, 0, 0, 0, 0, 0), 1, []), (.iastore, (1, 0, 0, 0, 0, 0), 0, []), (.dup, (1, 0, 0, 0, 0, 0), 0, []), (.iconst 2, (1, 0, 0, 0, 0, 0), 2, []), (.bipush (-43), (2, 0, 0, 0, 0, 0), (-43), []), (.iastore, (1, 0, 0, 0, 0, 0), 0, []), (.astore_n 1, (1, 0, 1, 0, 0, 0), 0, []), (.iconst 1, (1, 0, 0, 0, 0, 0), 1, []), (.newarray .int, (2, 0, 20, 0, 0, 0), 0, []), (.dup, (1, 0, 0, 0, 0, 0), 0, []), (.iconst 0, (1, 0, 0, 0, 0, 0), 0, []), (.iconst 0, (1, 0, 0, 0, 0, 0), 0, []), (.iastore, (1, 0, 0, 0, 0, 0), 0, []), (.astore_n 2, (1, 0, 2, 0, 0, 0), 0, []), (.iconst 3, (1, 0, 0, 0, 0, 0), 3, []), (.newarray .int, (2, 0, 20, 0, 0, 0), 0, []), (.dup, (1, 0, 0, 0, 0, 0), 0, []), (.iconst 0, (1, 0, 0, 0, 0, 0), 0, []), (.sipush 10001, (3, 0, 0, 0, 0, 0), 10001, []), (.iastore, (1, 0, 0, 0, 0, 0), 0, []), (.dup, (1, 0, 0, 0, 0, 0), 0, []), (.iconst 1, (1, 0, 0, 0, 0, 0), 1, []), (.iconst 3, (1, 0, 0, 0, 0, 0), 3, []), (.iastore, (1, 0, 0, 0, 0, 0), 0, []), (.dup, (1, 0, 0, 0, 0, 0), 0, []), (.iconst 2, (1, 0, 0, 0, 0, 0), 2, []), (.bipush (-42), (2, 0, 0, 0, 0, 0), (-42), []), (.iastore, (1, 0, 0, 0, 0, 0), 0, []), (.astore_n 3, (1, 0, 3, 0, 0, 0), 0, []), (.new 32, (3, 0, 8, 3, 1029, 0), 0, []), (.dup, (1, 0, 0, 0, 0, 0), 0, []), (.aload_n 1, (1, 0, 1, 0, 0, 0), 0, []), (.aload_n 2, (1, 0, 2, 0, 0, 0), 0, []), (.aload_n 3, (1, 0, 3, 0, 0, 0), 0, []), (.invokespecial 83, (3, 2, 65, 4, 4, 0), 1119, [])],
  [(.astore 4, (2, 0, 4, 0, 0, 0), 0, []), (.iconst 0, (1, 0, 0, 0, 0, 0), 0, []), (.istore 5, (2, 0, 5, 0, 0, 0), 0, []), (.nop, (0, 1, 5, 0, 0, 0), 0, [])],
  [(.iload 5, (2, 0, 5, 0, 0, 0), 0, []), (.bipush 6, (2, 0, 0, 0, 0, 0), 6, []), (.if_icmp .ge 18, (3, 1, 7, 6, 0, 0), 0, [])],
  [(.aload_n 0, (1, 0, 0, 0, 0, 0), 0, []), (.getfield 34, (3, 0, 9, 6, 2050, 1), 0, []), (.iload 5, (2, 0, 5, 0, 0, 0), 0, []), (.aload 4, (2, 0, 4, 0, 0, 0), 0, []), (.aastore, (1, 0, 23, 8, 0, 0), 0, []), (.iinc 5 1, (3, 0, 5, 0, 0, 0), 1, []), (.goto (-19), (3, 1, 5, 0, 0, 0), 0, [])],
  [(.iconst 0, (1, 0, 0, 0, 0, 0), 0, []), (.istore 5, (2, 0, 5, 0, 0, 0), 0, []), (.nop, (0, 1, 8, 0, 0, 0), 0, [])],
  [(.iload 5, (2, 0, 5, 0, 0, 0), 0, []), (.bipush 6, (2, 0, 0, 0, 0, 0), 6, []), (.if_icmp .ge 23, (3, 1, 11, 9, 0, 0), 0, [])],
  [(.aload_n 0, (1, 0, 0, 0, 0, 0), 0, []), (.getfield 25, (3, 0, 9, 4, 2048, 1), 0, []), (.iload 5, (2, 0, 5, 0, 0, 0), 0, []), (.new 23, (3, 0, 1, 2, 1027, 0), 0, []), (.dup, (1, 0, 0, 0, 0, 0), 0, []), (.invokespecial 86, (3, 2, 1, 10, 1, 0), 1138, [])],
  [(.aastore, (1, 0, 22, 1, 0, 0), 0, []), (.iinc 5 1, (3, 0, 5, 0, 0, 0), 1, []), (.goto (-24), (3, 1, 8, 0, 0, 0), 0, [])],
  [(.iconst 0, (1, 0, 0, 0, 0, 0), 0, []), (.istore 5, (2, 0, 5, 0, 0, 0), 0, []), (.nop, (0, 1, 12, 0, 0, 0), 0, [])],
  [(.iload 5, (2, 0, 5, 0, 0, 0), 0, []), (.iconst 4, (1, 0, 0, 0, 0, 0), 4, []), (.if_icmp .ge 23, (3, 1, 15, 13, 0, 0), 0, [])],
  [(.aload_n 0, (1, 0, 0, 0, 0, 0), 0, []), (.getfield 62, (3, 0, 9, 11, 2055, 1), 0, []), (.iload 5, (2, 0, 5, 0, 0, 0), 0, []), (.new 60, (3, 0, 5, 3, 1081, 0), 0, []), (.dup, (1, 0, 0, 0, 0, 0), 0, []), (.invokespecial 87, (3, 2, 39, 14, 1, 0), 1152, [])],
  [(.aastore, (1, 0, 24, 5, 0, 0), 0, []), (.iinc 5 1, (3, 0, 5, 0, 0, 0), 1, []), (.goto (-23), (3, 1, 12, 0, 0, 0), 0, [])],
  [(.new 88, (3, 0, 7, 3, 1169, 0), 0, []), (.dup, (1, 0, 0, 0, 0, 0), 0, []), (.aload 4, (2, 0, 4, 0, 0, 0), 0, []), (.invokespecial 90, (3, 2, 55, 16, 2, 0), 1171, [])],
  [(.astore 5, (2, 0, 5, 0, 0, 0), 0, []), (.aload_n 0, (1, 0, 0, 0, 0, 0), 0, []), (.new 93, (3, 0, 2, 8, 1185, 0), 0, []), (.dup, (1, 0, 0, 0, 0, 0), 0, []), (.aload 5, (2, 0, 5, 0, 0, 0), 0, []), (.invokespecial 95, (3, 2, 7, 17, 2, 0), 1187, [])],
  [(.putfield 98, (3, 0, 9, 13, 2057, 1), 0, []), (.aload_n 0, (1, 0, 0, 0, 0, 0), 0, []), (.new 102, (3, 0, 4, 17, 1220, 0), 0, []), (.dup, (1, 0, 0, 0, 0, 0), 0, []), (.aload 5, (2, 0, 5, 0, 0, 0), 0, []), (.invokespecial 104, (3, 2, 25, 18, 2, 0), 1222, [])],
  [(.putfield 105, (3, 0, 9, 14, 2058, 1), 0, []), (.return_, (1, 3, 0, 0, 0, 0), 0, [])]]
/-- EvenlyPoured.set(III)I -/
noncomputable def bk_67 : List (List am_P) := [[(.iload_n 1, (1, 0, 1, 0, 0, 0), 0, []), (.tableswitch 57 0 3 #[31, 37, 43, 50], (31, 1, 0, 9, 0, 0), 0, [(0, 1), (1, 3), (2, 5), (3, 7)])],
  [(.aload_n 0, (1, 0, 0, 0, 0, 0), 0, []), (.iload_n 3, (1, 0, 3, 0, 0, 0), 0, []), (.invokevirtual 109, (3, 2, 68, 2, 2, 10), 2103, [])],
  [(.ireturn, (1, 3, 0, 0, 0, 0), 0, [])],
  [(.aload_n 0, (1, 0, 0, 0, 0, 0), 0, []), (.iload_n 3, (1, 0, 3, 0, 0, 0), 0, []), (.invokevirtual 113, (3, 2, 69, 4, 2, 10), 2110, [])],
  [(.ireturn, (1, 3, 0, 0, 0, 0), 0, [])],
  [(.aload_n 0, (1, 0, 0, 0, 0, 0), 0, []), (.iload_n 2, (1, 0, 2, 0, 0, 0), 0, []), (.iload_n 3, (1, 0, 3, 0, 0, 0), 0, []), (.invokevirtual 116, (3, 2, 70, 6, 3, 10), 2114, [])],
  [(.ireturn, (1, 3, 0, 0, 0, 0), 0, [])],
  [(.aload_n 0, (1, 0, 0, 0, 0, 0), 0, []), (.iload_n 2, (1, 0, 2, 0, 0, 0), 0, []), (.iload_n 3, (1, 0, 3, 0, 0, 0), 0, []), (.invokevirtual 120, (3, 2, 71, 8, 3, 10), 2122, [])],
  [(.ireturn, (1, 3, 0, 0, 0, 0), 0, [])],
  [(.bipush (-2), (2, 0, 0, 0, 0, 0), (-2), []), (.ireturn, (1, 3, 0, 0, 0, 0), 0, [])]]
/-- EvenlyPoured.changeCups(I)I -/
noncomputable def bk_68 : List (List am_P) := [[(.iload_n 1, (1, 0, 1, 0, 0, 0), 0, []), (.iconst 1, (1, 0, 0, 0, 0, 0), 1, []), (.if_icmp .lt 8, (3, 1, 2, 1, 0, 0), 0, [])],
  [(.iload_n 1, (1, 0, 1, 0, 0, 0), 0, []), (.iconst 4, (1, 0, 0, 0, 0, 0), 4, []), (.if_icmp .le 6, (3, 1, 3, 2, 0, 0), 0, [])],
  [(.bipush (-2), (2, 0, 0, 0, 0, 0), (-2), []), (.ireturn, (1, 3, 0, 0, 0, 0), 0, [])],
  [(.aload_n 0, (1, 0, 0, 0, 0, 0), 0, []), (.getfield 7, (3, 0, 9, 0, 2044, 0), 0, []), (.istore_n 2, (1, 0, 2, 0, 0, 0), 0, []), (.aload_n 0, (1, 0, 0, 0, 0, 0), 0, []), (.iload_n 1, (1, 0, 1, 0, 0, 0), 0, []), (.putfield 7, (3, 0, 9, 0, 2044, 0), 0, []), (.aload_n 0, (1, 0, 0, 0, 0, 0), 0, []), (.getfield 16, (3, 0, 9, 2, 2046, 1), 0, []), (.iconst 0, (1, 0, 0, 0, 0, 0), 0, []), (.invokestatic 123, (3, 2, 214, 4, 2, 0), 2107, [])],
  [(.iload_n 2, (1, 0, 2, 0, 0, 0), 0, []), (.ireturn, (1, 3, 0, 0, 0, 0), 0, [])]]
/-- EvenlyPoured.changeDribs(I)I -/
noncomputable def bk_69 : List (List am_P) := [[(.iload_n 1, (1, 0, 1, 0, 0, 0), 0, []), (.ifCond .lt 9, (3, 1, 2, 1, 0, 0), 0, [])],
  [(.iload_n 1, (1, 0, 1, 0, 0, 0), 0, []), (.bipush 24, (2, 0, 0, 0, 0, 0), 24, []), (.if_icmp .le 6, (3, 1, 3, 2, 0, 0), 0, [])],
  [(.bipush (-2), (2, 0, 0, 0, 0, 0), (-2), []), (.ireturn, (1, 3, 0, 0, 0, 0), 0, [])],
  [(.aload_n 0, (1, 0, 0, 0, 0, 0), 0, []), (.getfield 13, (3, 0, 9, 1, 2045, 0), 0, []), (.istore_n 2, (1, 0, 2, 0, 0, 0), 0, []), (.aload_n 0, (1, 0, 0, 0, 0, 0), 0, []), (.iload_n 1, (1, 0, 1, 0, 0, 0), 0, []), (.putfield 13, (3, 0, 9, 1, 2045, 0), 0, []), (.aload_n 0, (1, 0, 0, 0, 0, 0), 0, []), (.getfield 16, (3, 0, 9, 2, 2046, 1), 0, []), (.iconst 0, (1, 0, 0, 0, 0, 0), 0, []), (.invokestatic 123, (3, 2, 214, 4, 2, 0), 2107, [])],
  [(.iload_n 2, (1, 0, 2, 0, 0, 0), 0, []), (.ireturn, (1, 3, 0, 0, 0, 0), 0, [])]]
/-- EvenlyPoured.changeNumber(II)I -/
noncomputable def bk_70 : List (List am_P) := [[(.aload_n 0, (1, 0, 0, 0, 0, 0), 0, []), (.iload_n 1, (1, 0, 1, 0, 0, 0), 0, []), (.invokevirtual 129, (3, 2, 78, 1, 2, 10), 2118, [])],
  [(.ifCond .eq 13, (3, 1, 4, 2, 0, 0), 0, [])],
  [(.iload_n 2, (1, 0, 2, 0, 0, 0), 0, []), (.ifCond .lt 9, (3, 1, 4, 3, 0, 0), 0, [])],
  [(.iload_n 2, (1, 0, 2, 0, 0, 0), 0, []), (.bipush 9, (2, 0, 0, 0, 0, 0), 9, []), (.if_icmp .le 6, (3, 1, 5, 4, 0, 0), 0, [])],
  [(.bipush (-2), (2, 0, 0, 0, 0, 0), (-2), []), (.ireturn, (1, 3, 0, 0, 0, 0), 0, [])],
  [(.aload_n 0, (1, 0, 0, 0, 0, 0), 0, []), (.getfield 25, (3, 0, 9, 4, 2048, 1), 0, []), (.iload_n 1, (1, 0, 1, 0, 0, 0), 0, []), (.aaload, (1, 0, 22, 0, 0, 0), 0, []), (.nop, (0, 1, 6, 0, 0, 0), 0, [])],
  [(.getfield 133, (3, 0, 1, 1, 1145, 0), 0, []), (.istore_n 3, (1, 0, 3, 0, 0, 0), 0, []), (.aload_n 0, (1, 0, 0, 0, 0, 0), 0, []), (.getfield 25, (3, 0, 9, 4, 2048, 1), 0, []), (.iload_n 1, (1, 0, 1, 0, 0, 0), 0, []), (.aaload, (1, 0, 22, 0, 0, 0), 0, []), (.nop, (0, 1, 7, 0, 0, 0), 0, [])],
  [(.iload_n 2, (1, 0, 2, 0, 0, 0), 0, []), (.putfield 133, (3, 0, 1, 1, 1145, 0), 0, []), (.iload_n 3, (1, 0, 3, 0, 0, 0), 0, []), (.ireturn, (1, 3, 0, 0, 0, 0), 0, [])]]
/-- EvenlyPoured.changePrice(II)I -/
noncomputable def bk_71 : List (List am_P) := [[(.iload_n 1, (1, 0, 1, 0, 0, 0), 0, []), (.invokestatic 136, (3, 2, 80, 1, 1, 0), 2126, [])],
  [(.ifCond .eq 13, (3, 1, 4, 2, 0, 0), 0, [])],
  [(.iload_n 2, (1, 0, 2, 0, 0, 0), 0, []), (.ifCond .lt 9, (3, 1, 4, 3, 0, 0), 0, [])],
  [(.iload_n 2, (1, 0, 2, 0, 0, 0), 0, []), (.bipush 99, (2, 0, 0, 0, 0, 0), 99, []), (.if_icmp .le 6, (3, 1, 5, 4, 0, 0), 0, [])],
  [(.bipush (-2), (2, 0, 0, 0, 0, 0), (-2), []), (.ireturn, (1, 3, 0, 0, 0, 0), 0, [])],
  [(.aload_n 0, (1, 0, 0, 0, 0, 0), 0, []), (.getfield 20, (3, 0, 9, 3, 2047, 1), 0, []), (.iload_n 1, (1, 0, 1, 0, 0, 0), 0, []), (.iaload, (1, 0, 0, 0, 0, 0), 0, []), (.istore_n 3, (1, 0, 3, 0, 0, 0), 0, []), (.aload_n 0, (1, 0, 0, 0, 0, 0), 0, []), (.getfield 20, (3, 0, 9, 3, 2047, 1), 0, []), (.iload_n 1, (1, 0, 1, 0, 0, 0), 0, []), (.iload_n 2, (1, 0, 2, 0, 0, 0), 0, []), (.iastore, (1, 0, 0, 0, 0, 0), 0, []), (.iload_n 3, (1, 0, 3, 0, 0, 0), 0, []), (.ireturn, (1, 3, 0, 0, 0, 0), 0, [])]]
/-- EvenlyPoured.told(II)I -/
noncomputable def bk_72 : List (List am_P) := [[(.iload_n 2, (1, 0, 2, 0, 0, 0), 0, []), (.tableswitch 92 0 2 #[27, 50, 73], (27, 1, 0, 18, 0, 0), 0, [(0, 1), (1, 7), (2, 13)])],
  [(.aload_n 0, (1, 0, 0, 0, 0, 0), 0, []), (.iload_n 1, (1, 0, 1, 0, 0, 0), 0, []), (.invokevirtual 129, (3, 2, 78, 2, 2, 10), 2118, [])],
  [(.ifCond .eq 15, (3, 1, 5, 3, 0, 0), 0, [])],
  [(.aload_n 0, (1, 0, 0, 0, 0, 0), 0, []), (.getfield 25, (3, 0, 9, 4, 2048, 1), 0, []), (.iload_n 1, (1, 0, 1, 0, 0, 0), 0, []), (.aaload, (1, 0, 22, 0, 0, 0), 0, []), (.nop, (0, 1, 4, 0, 0, 0), 0, [])],
  [(.getfield 133, (3, 0, 1, 1, 1145, 0), 0, []), (.goto 5, (3, 1, 6, 0, 0, 0), 0, [])],
  [(.bipush (-2), (2, 0, 0, 0, 0, 0), (-2), []), (.nop, (0, 1, 6, 0, 0, 0), 0, [])],
  [(.ireturn, (1, 3, 0, 0, 0, 0), 0, [])],
  [(.aload_n 0, (1, 0, 0, 0, 0, 0), 0, []), (.iload_n 1, (1, 0, 1, 0, 0, 0), 0, []), (.invokevirtual 129, (3, 2, 78, 8, 2, 10), 2118, [])],
  [(.ifCond .eq 15, (3, 1, 11, 9, 0, 0), 0, [])],
  [(.aload_n 0, (1, 0, 0, 0, 0, 0), 0, []), (.getfield 25, (3, 0, 9, 4, 2048, 1), 0, []), (.iload_n 1, (1, 0, 1, 0, 0, 0), 0, []), (.aaload, (1, 0, 22, 0, 0, 0), 0, []), (.nop, (0, 1, 10, 0, 0, 0), 0, [])],
  [(.getfield 139, (3, 0, 1, 0, 1143, 0), 0, []), (.goto 5, (3, 1, 12, 0, 0, 0), 0, [])],
  [(.bipush (-2), (2, 0, 0, 0, 0, 0), (-2), []), (.nop, (0, 1, 12, 0, 0, 0), 0, [])],
  [(.ireturn, (1, 3, 0, 0, 0, 0), 0, [])],
  [(.iload_n 1, (1, 0, 1, 0, 0, 0), 0, []), (.invokestatic 136, (3, 2, 80, 14, 1, 0), 2126, [])],
  [(.ifCond .eq 12, (3, 1, 16, 15, 0, 0), 0, [])],
  [(.aload_n 0, (1, 0, 0, 0, 0, 0), 0, []), (.getfield 20, (3, 0, 9, 3, 2047, 1), 0, []), (.iload_n 1, (1, 0, 1, 0, 0, 0), 0, []), (.iaload, (1, 0, 0, 0, 0, 0), 0, []), (.goto 5, (3, 1, 17, 0, 0, 0), 0, [])],
  [(.bipush (-2), (2, 0, 0, 0, 0, 0), (-2), []), (.nop, (0, 1, 17, 0, 0, 0), 0, [])],
  [(.ireturn, (1, 3, 0, 0, 0, 0), 0, [])],
  [(.bipush (-2), (2, 0, 0, 0, 0, 0), (-2), []), (.ireturn, (1, 3, 0, 0, 0, 0), 0, [])]]
/-- EvenlyPoured.lay(II)I -/
noncomputable def bk_73 : List (List am_P) := [[(.aload_n 0, (1, 0, 0, 0, 0, 0), 0, []), (.iload_n 1, (1, 0, 1, 0, 0, 0), 0, []), (.invokevirtual 142, (3, 2, 77, 1, 2, 10), 2137, [])],
  [(.ifCond .eq 11, (3, 1, 4, 2, 0, 0), 0, [])],
  [(.aload_n 0, (1, 0, 0, 0, 0, 0), 0, []), (.iload_n 2, (1, 0, 2, 0, 0, 0), 0, []), (.invokevirtual 145, (3, 2, 76, 3, 2, 10), 2141, [])],
  [(.ifCond .ne 6, (3, 1, 5, 4, 0, 0), 0, [])],
  [(.bipush (-2), (2, 0, 0, 0, 0, 0), (-2), []), (.ireturn, (1, 3, 0, 0, 0, 0), 0, [])],
  [(.aload_n 0, (1, 0, 0, 0, 0, 0), 0, []), (.getfield 16, (3, 0, 9, 2, 2046, 1), 0, []), (.iload_n 1, (1, 0, 1, 0, 0, 0), 0, []), (.iaload, (1, 0, 0, 0, 0, 0), 0, []), (.istore_n 3, (1, 0, 3, 0, 0, 0), 0, []), (.aload_n 0, (1, 0, 0, 0, 0, 0), 0, []), (.getfield 16, (3, 0, 9, 2, 2046, 1), 0, []), (.iload_n 1, (1, 0, 1, 0, 0, 0), 0, []), (.iload_n 2, (1, 0, 2, 0, 0, 0), 0, []), (.iastore, (1, 0, 0, 0, 0, 0), 0, []), (.iload_n 3, (1, 0, 3, 0, 0, 0), 0, []), (.ireturn, (1, 3, 0, 0, 0, 0), 0, [])]]
/-- EvenlyPoured.at(I)I -/
noncomputable def bk_74 : List (List am_P) := [[(.aload_n 0, (1, 0, 0, 0, 0, 0), 0, []), (.iload_n 1, (1, 0, 1, 0, 0, 0), 0, []), (.invokevirtual 142, (3, 2, 77, 1, 2, 10), 2137, [])],
  [(.ifCond .eq 12, (3, 1, 3, 2, 0, 0), 0, [])],
  [(.aload_n 0, (1, 0, 0, 0, 0, 0), 0, []), (.getfield 16, (3, 0, 9, 2, 2046, 1), 0, []), (.iload_n 1, (1, 0, 1, 0, 0, 0), 0, []), (.iaload, (1, 0, 0, 0, 0, 0), 0, []), (.goto 5, (3, 1, 4, 0, 0, 0), 0, [])],
  [(.bipush (-2), (2, 0, 0, 0, 0, 0), (-2), []), (.nop, (0, 1, 4, 0, 0, 0), 0, [])],
  [(.ireturn, (1, 3, 0, 0, 0, 0), 0, [])]]
/-- EvenlyPoured.pourer(II)I -/
noncomputable def bk_75 : List (List am_P) := [[(.iload_n 1, (1, 0, 1, 0, 0, 0), 0, []), (.invokestatic 148, (3, 2, 79, 1, 1, 0), 2153, [])],
  [(.ifCond .eq 13, (3, 1, 4, 2, 0, 0), 0, [])],
  [(.iload_n 2, (1, 0, 2, 0, 0, 0), 0, []), (.ifCond .lt 9, (3, 1, 4, 3, 0, 0), 0, [])],
  [(.iload_n 2, (1, 0, 2, 0, 0, 0), 0, []), (.bipush 9, (2, 0, 0, 0, 0, 0), 9, []), (.if_icmp .le 6, (3, 1, 5, 4, 0, 0), 0, [])],
  [(.bipush (-2), (2, 0, 0, 0, 0, 0), (-2), []), (.ireturn, (1, 3, 0, 0, 0, 0), 0, [])],
  [(.aload_n 0, (1, 0, 0, 0, 0, 0), 0, []), (.getfield 29, (3, 0, 9, 5, 2049, 0), 0, []), (.bipush 6, (2, 0, 0, 0, 0, 0), 6, []), (.if_icmp .lt 6, (3, 1, 7, 6, 0, 0), 0, [])],
  [(.bipush (-4), (2, 0, 0, 0, 0, 0), (-4), []), (.ireturn, (1, 3, 0, 0, 0, 0), 0, [])],
  [(.aload_n 0, (1, 0, 0, 0, 0, 0), 0, []), (.getfield 25, (3, 0, 9, 4, 2048, 1), 0, []), (.aload_n 0, (1, 0, 0, 0, 0, 0), 0, []), (.getfield 29, (3, 0, 9, 5, 2049, 0), 0, []), (.aaload, (1, 0, 22, 0, 0, 0), 0, []), (.nop, (0, 1, 8, 0, 0, 0), 0, [])],
  [(.iload_n 1, (1, 0, 1, 0, 0, 0), 0, []), (.putfield 139, (3, 0, 1, 0, 1143, 0), 0, []), (.aload_n 0, (1, 0, 0, 0, 0, 0), 0, []), (.getfield 25, (3, 0, 9, 4, 2048, 1), 0, []), (.aload_n 0, (1, 0, 0, 0, 0, 0), 0, []), (.getfield 29, (3, 0, 9, 5, 2049, 0), 0, []), (.aaload, (1, 0, 22, 0, 0, 0), 0, []), (.nop, (0, 1, 9, 0, 0, 0), 0, [])],
  [(.iload_n 2, (1, 0, 2, 0, 0, 0), 0, []), (.putfield 133, (3, 0, 1, 1, 1145, 0), 0, []), (.aload_n 0, (1, 0, 0, 0, 0, 0), 0, []), (.dup, (1, 0, 0, 0, 0, 0), 0, []), (.getfield 29, (3, 0, 9, 5, 2049, 0), 0, []), (.iconst 1, (1, 0, 0, 0, 0, 0), 1, []), (.iadd, (1, 0, 0, 0, 0, 0), 0, []), (.putfield 29, (3, 0, 9, 5, 2049, 0), 0, []), (.aload_n 0, (1, 0, 0, 0, 0, 0), 0, []), (.getfield 29, (3, 0, 9, 5, 2049, 0), 0, []), (.iconst 1, (1, 0, 0, 0, 0, 0), 1, []), (.isub, (1, 0, 0, 0, 0, 0), 0, []), (.ireturn, (1, 3, 0, 0, 0, 0), 0, [])]]
/-- EvenlyPoured.isCup(I)Z -/
noncomputable def bk_76 : List (List am_P) := [[(.iload_n 1, (1, 0, 1, 0, 0, 0), 0, []), (.ifCond .lt 15, (3, 1, 3, 1, 0, 0), 0, [])],
  [(.iload_n 1, (1, 0, 1, 0, 0, 0), 0, []), (.aload_n 0, (1, 0, 0, 0, 0, 0), 0, []), (.getfield 7, (3, 0, 9, 0, 2044, 0), 0, []), (.if_icmp .ge 7, (3, 1, 3, 2, 0, 0), 0, [])],
  [(.iconst 1, (1, 0, 0, 0, 0, 0), 1, []), (.goto 4, (3, 1, 4, 0, 0, 0), 0, [])],
  [(.iconst 0, (1, 0, 0, 0, 0, 0), 0, []), (.nop, (0, 1, 4, 0, 0, 0), 0, [])],
  [(.ireturn, (1, 3, 0, 0, 0, 1), 0, [])]]
/-- EvenlyPoured.isDrib(I)Z -/
noncomputable def bk_77 : List (List am_P) := [[(.iload_n 1, (1, 0, 1, 0, 0, 0), 0, []), (.ifCond .lt 15, (3, 1, 3, 1, 0, 0), 0, [])],
  [(.iload_n 1, (1, 0, 1, 0, 0, 0), 0, []), (.aload_n 0, (1, 0, 0, 0, 0, 0), 0, []), (.getfield 13, (3, 0, 9, 1, 2045, 0), 0, []), (.if_icmp .ge 7, (3, 1, 3, 2, 0, 0), 0, [])],
  [(.iconst 1, (1, 0, 0, 0, 0, 0), 1, []), (.goto 4, (3, 1, 4, 0, 0, 0), 0, [])],
  [(.iconst 0, (1, 0, 0, 0, 0, 0), 0, []), (.nop, (0, 1, 4, 0, 0, 0), 0, [])],
  [(.ireturn, (1, 3, 0, 0, 0, 1), 0, [])]]
/-- EvenlyPoured.isPourer(I)Z -/
noncomputable def bk_78 : List (List am_P) := [[(.iload_n 1, (1, 0, 1, 0, 0, 0), 0, []), (.ifCond .lt 15, (3, 1, 3, 1, 0, 0), 0, [])],
  [(.iload_n 1, (1, 0, 1, 0, 0, 0), 0, []), (.aload_n 0, (1, 0, 0, 0, 0, 0), 0, []), (.getfield 29, (3, 0, 9, 5, 2049, 0), 0, []), (.if_icmp .ge 7, (3, 1, 3, 2, 0, 0), 0, [])],
  [(.iconst 1, (1, 0, 0, 0, 0, 0), 1, []), (.goto 4, (3, 1, 4, 0, 0, 0), 0, [])],
  [(.iconst 0, (1, 0, 0, 0, 0, 0), 0, []), (.nop, (0, 1, 4, 0, 0, 0), 0, [])],
  [(.ireturn, (1, 3, 0, 0, 0, 1), 0, [])]]
/-- EvenlyPoured.isKind(I)Z -/
noncomputable def bk_79 : List (List am_P) := [[(.iload_n 0, (1, 0, 0, 0, 0, 0), 0, []), (.ifCond .lt 13, (3, 1, 3, 1, 0, 0), 0, [])],
  [(.iload_n 0, (1, 0, 0, 0, 0, 0), 0, []), (.bipush 6, (2, 0, 0, 0, 0, 0), 6, []), (.if_icmp .ge 7, (3, 1, 3, 2, 0, 0), 0, [])],
  [(.iconst 1, (1, 0, 0, 0, 0, 0), 1, []), (.goto 4, (3, 1, 4, 0, 0, 0), 0, [])],
  [(.iconst 0, (1, 0, 0, 0, 0, 0), 0, []), (.nop, (0, 1, 4, 0, 0, 0), 0, [])],
  [(.ireturn, (1, 3, 0, 0, 0, 1), 0, [])]]
/-- EvenlyPoured.isThing(I)Z -/
noncomputable def bk_80 : List (List am_P) := [[(.iload_n 0, (1, 0, 0, 0, 0, 0), 0, []), (.ifCond .lt 13, (3, 1, 3, 1, 0, 0), 0, [])],
  [(.iload_n 0, (1, 0, 0, 0, 0, 0), 0, []), (.bipush 8, (2, 0, 0, 0, 0, 0), 8, []), (.if_icmp .ge 7, (3, 1, 3, 2, 0, 0), 0, [])],
  [(.iconst 1, (1, 0, 0, 0, 0, 0), 1, []), (.goto 4, (3, 1, 4, 0, 0, 0), 0, [])],
  [(.iconst 0, (1, 0, 0, 0, 0, 0), 0, []), (.nop, (0, 1, 4, 0, 0, 0), 0, [])],
  [(.ireturn, (1, 3, 0, 0, 0, 1), 0, [])]]
/-- EvenlyPoured.feed(I)I -/
noncomputable def bk_81 : List (List am_P) := [[(.iload_n 1, (1, 0, 1, 0, 0, 0), 0, []), (.ifCond .lt 10, (3, 1, 2, 1, 0, 0), 0, [])],
  [(.iload_n 1, (1, 0, 1, 0, 0, 0), 0, []), (.sipush 255, (3, 0, 0, 0, 0, 0), 255, []), (.if_icmp .le 6, (3, 1, 3, 2, 0, 0), 0, [])],
  [(.bipush (-2), (2, 0, 0, 0, 0, 0), (-2), []), (.ireturn, (1, 3, 0, 0, 0, 0), 0, [])],
  [(.aload_n 0, (1, 0, 0, 0, 0, 0), 0, []), (.getfield 47, (3, 0, 9, 9, 2053, 1), 0, []), (.getfield 151, (3, 0, 6, 1, 1040, 0), 0, []), (.sipush 160, (3, 0, 0, 0, 0, 0), 160, []), (.if_icmp .lt 6, (3, 1, 5, 4, 0, 0), 0, [])],
  [(.bipush (-4), (2, 0, 0, 0, 0, 0), (-4), []), (.ireturn, (1, 3, 0, 0, 0, 0), 0, [])],
  [(.aload_n 0, (1, 0, 0, 0, 0, 0), 0, []), (.getfield 47, (3, 0, 9, 9, 2053, 1), 0, []), (.getfield 154, (3, 0, 6, 0, 1038, 1), 0, []), (.aload_n 0, (1, 0, 0, 0, 0, 0), 0, []), (.getfield 47, (3, 0, 9, 9, 2053, 1), 0, []), (.getfield 151, (3, 0, 6, 1, 1040, 0), 0, []), (.iload_n 1, (1, 0, 1, 0, 0, 0), 0, []), (.iastore, (1, 0, 0, 0, 0, 0), 0, []), (.aload_n 0, (1, 0, 0, 0, 0, 0), 0, []), (.getfield 47, (3, 0, 9, 9, 2053, 1), 0, []), (.dup, (1, 0, 0, 0, 0, 0), 0, []), (.getfield 151, (3, 0, 6, 1, 1040, 0), 0, []), (.iconst 1, (1, 0, 0, 0, 0, 0), 1, []), (.iadd, (1, 0, 0, 0, 0, 0), 0, []), (.putfield 151, (3, 0, 6, 1, 1040, 0), 0, []), (.aload_n 0, (1, 0, 0, 0, 0, 0), 0, []), (.getfield 47, (3, 0, 9, 9, 2053, 1), 0, []), (.getfield 151, (3, 0, 6, 1, 1040, 0), 0, []), (.ireturn, (1, 3, 0, 0, 0, 0), 0, [])]]
/-- EvenlyPoured.text()I -/
noncomputable def bk_82 : List (List am_P) := [[(.aload_n 0, (1, 0, 0, 0, 0, 0), 0, []), (.getfield 38, (3, 0, 9, 7, 2051, 0), 0, []), (.bipush 6, (2, 0, 0, 0, 0, 0), 6, []), (.if_icmp .lt 6, (3, 1, 2, 1, 0, 0), 0, [])],
  [(.bipush (-4), (2, 0, 0, 0, 0, 0), (-4), []), (.ireturn, (1, 3, 0, 0, 0, 0), 0, [])],
  [(.aload_n 0, (1, 0, 0, 0, 0, 0), 0, []), (.getfield 56, (3, 0, 9, 10, 2054, 1), 0, []), (.invokevirtual 157, (3, 2, 14, 3, 1, 4), 2164, [])],
  [(.astore_n 1, (1, 0, 1, 0, 0, 0), 0, []), (.aload_n 0, (1, 0, 0, 0, 0, 0), 0, []), (.getfield 47, (3, 0, 9, 9, 2053, 1), 0, []), (.iconst 0, (1, 0, 0, 0, 0, 0), 0, []), (.putfield 151, (3, 0, 6, 1, 1040, 0), 0, []), (.aload_n 1, (1, 0, 1, 0, 0, 0), 0, []), (.ifnonnull 14, (3, 1, 6, 4, 0, 0), 0, [])],
  [(.bipush (-100), (2, 0, 0, 0, 0, 0), (-100), []), (.aload_n 0, (1, 0, 0, 0, 0, 0), 0, []), (.getfield 56, (3, 0, 9, 10, 2054, 1), 0, []), (.invokevirtual 161, (3, 2, 15, 5, 1, 4), 3063, [])],
  [(.isub, (1, 0, 0, 0, 0, 0), 0, []), (.ireturn, (1, 3, 0, 0, 0, 0), 0, [])],
  [(.aload_n 0, (1, 0, 0, 0, 0, 0), 0, []), (.getfield 34, (3, 0, 9, 6, 2050, 1), 0, []), (.aload_n 0, (1, 0, 0, 0, 0, 0), 0, []), (.getfield 38, (3, 0, 9, 7, 2051, 0), 0, []), (.aload_n 1, (1, 0, 1, 0, 0, 0), 0, []), (.aastore, (1, 0, 23, 8, 0, 0), 0, []), (.aload_n 0, (1, 0, 0, 0, 0, 0), 0, []), (.dup, (1, 0, 0, 0, 0, 0), 0, []), (.getfield 38, (3, 0, 9, 7, 2051, 0), 0, []), (.iconst 1, (1, 0, 0, 0, 0, 0), 1, []), (.iadd, (1, 0, 0, 0, 0, 0), 0, []), (.putfield 38, (3, 0, 9, 7, 2051, 0), 0, []), (.aload_n 0, (1, 0, 0, 0, 0, 0), 0, []), (.getfield 38, (3, 0, 9, 7, 2051, 0), 0, []), (.iconst 1, (1, 0, 0, 0, 0, 0), 1, []), (.isub, (1, 0, 0, 0, 0, 0), 0, []), (.ireturn, (1, 3, 0, 0, 0, 0), 0, [])]]
/-- EvenlyPoured.force(I)I -/
noncomputable def bk_83 : List (List am_P) := [[(.iload_n 1, (1, 0, 1, 0, 0, 0), 0, []), (.ifCond .lt 11, (3, 1, 2, 1, 0, 0), 0, [])],
  [(.iload_n 1, (1, 0, 1, 0, 0, 0), 0, []), (.aload_n 0, (1, 0, 0, 0, 0, 0), 0, []), (.getfield 38, (3, 0, 9, 7, 2051, 0), 0, []), (.if_icmp .lt 6, (3, 1, 3, 2, 0, 0), 0, [])],
  [(.bipush (-2), (2, 0, 0, 0, 0, 0), (-2), []), (.ireturn, (1, 3, 0, 0, 0, 0), 0, [])],
  [(.aload_n 0, (1, 0, 0, 0, 0, 0), 0, []), (.getfield 41, (3, 0, 9, 8, 2052, 0), 0, []), (.istore_n 2, (1, 0, 2, 0, 0, 0), 0, []), (.aload_n 0, (1, 0, 0, 0, 0, 0), 0, []), (.iload_n 1, (1, 0, 1, 0, 0, 0), 0, []), (.putfield 41, (3, 0, 9, 8, 2052, 0), 0, []), (.iload_n 2, (1, 0, 2, 0, 0, 0), 0, []), (.ireturn, (1, 3, 0, 0, 0, 0), 0, [])]]
/-- EvenlyPoured.cup(II)I -/
noncomputable def bk_84 : List (List am_P) := [[(.aload_n 0, (1, 0, 0, 0, 0, 0), 0, []), (.iload_n 1, (1, 0, 1, 0, 0, 0), 0, []), (.invokevirtual 145, (3, 2, 76, 1, 2, 10), 2141, [])],
  [(.ifCond .eq 12, (3, 1, 4, 2, 0, 0), 0, [])],
  [(.iload_n 2, (1, 0, 2, 0, 0, 0), 0, []), (.ifCond .lt 8, (3, 1, 4, 3, 0, 0), 0, [])],
  [(.iload_n 2, (1, 0, 2, 0, 0, 0), 0, []), (.iconst 2, (1, 0, 0, 0, 0, 0), 2, []), (.if_icmp .le 6, (3, 1, 5, 4, 0, 0), 0, [])],
  [(.bipush (-2), (2, 0, 0, 0, 0, 0), (-2), []), (.ireturn, (1, 3, 0, 0, 0, 0), 0, [])],
  [(.aload_n 0, (1, 0, 0, 0, 0, 0), 0, []), (.invokevirtual 165, (3, 2, 92, 6, 1, 10), 3076, [])],
  [(.iload_n 2, (1, 0, 2, 0, 0, 0), 0, []), (.lookupswitch 47 #[(0, 27), (1, 37)], (27, 1, 0, 9, 0, 0), 0, [(0, 7), (1, 8)])],
  [(.aload_n 0, (1, 0, 0, 0, 0, 0), 0, []), (.getfield 98, (3, 0, 9, 13, 2057, 1), 0, []), (.getfield 168, (3, 0, 2, 1, 1193, 1), 0, []), (.iload_n 1, (1, 0, 1, 0, 0, 0), 0, []), (.iaload, (1, 0, 0, 0, 0, 0), 0, []), (.ireturn, (1, 3, 0, 0, 0, 0), 0, [])],
  [(.aload_n 0, (1, 0, 0, 0, 0, 0), 0, []), (.getfield 98, (3, 0, 9, 13, 2057, 1), 0, []), (.getfield 171, (3, 0, 2, 2, 1195, 1), 0, []), (.iload_n 1, (1, 0, 1, 0, 0, 0), 0, []), (.iaload, (1, 0, 0, 0, 0, 0), 0, []), (.ireturn, (1, 3, 0, 0, 0, 0), 0, [])],
  [(.aload_n 0, (1, 0, 0, 0, 0, 0), 0, []), (.getfield 98, (3, 0, 9, 13, 2057, 1), 0, []), (.iload_n 1, (1, 0, 1, 0, 0, 0), 0, []), (.invokevirtual 174, (3, 2, 12, 10, 2, 3), 3127, [])],
  [(.ireturn, (1, 3, 0, 0, 0, 0), 0, [])]]
/-- EvenlyPoured.all(I)I -/
noncomputable def bk_85 : List (List am_P) := [[(.iload_n 1, (1, 0, 1, 0, 0, 0), 0, []), (.ifCond .lt 8, (3, 1, 2, 1, 0, 0), 0, [])],
  [(.iload_n 1, (1, 0, 1, 0, 0, 0), 0, []), (.iconst 4, (1, 0, 0, 0, 0, 0), 4, []), (.if_icmp .le 6, (3, 1, 3, 2, 0, 0), 0, [])],
  [(.bipush (-2), (2, 0, 0, 0, 0, 0), (-2), []), (.ireturn, (1, 3, 0, 0, 0, 0), 0, [])],
  [(.aload_n 0, (1, 0, 0, 0, 0, 0), 0, []), (.invokevirtual 165, (3, 2, 92, 4, 1, 10), 3076, [])],
  [(.iload_n 1, (1, 0, 1, 0, 0, 0), 0, []), (.tableswitch 63 0 3 #[31, 39, 47, 55], (31, 1, 0, 11, 0, 0), 0, [(0, 5), (1, 7), (2, 9), (3, 10)])],
  [(.aload_n 0, (1, 0, 0, 0, 0, 0), 0, []), (.getfield 98, (3, 0, 9, 13, 2057, 1), 0, []), (.invokevirtual 177, (3, 2, 10, 6, 1, 3), 3139, [])],
  [(.ireturn, (1, 3, 0, 0, 0, 0), 0, [])],
  [(.aload_n 0, (1, 0, 0, 0, 0, 0), 0, []), (.getfield 98, (3, 0, 9, 13, 2057, 1), 0, []), (.invokevirtual 180, (3, 2, 11, 8, 1, 3), 3148, [])],
  [(.ireturn, (1, 3, 0, 0, 0, 0), 0, [])],
  [(.aload_n 0, (1, 0, 0, 0, 0, 0), 0, []), (.getfield 98, (3, 0, 9, 13, 2057, 1), 0, []), (.getfield 183, (3, 0, 2, 6, 1200, 0), 0, []), (.ireturn, (1, 3, 0, 0, 0, 0), 0, [])],
  [(.aload_n 0, (1, 0, 0, 0, 0, 0), 0, []), (.getfield 98, (3, 0, 9, 13, 2057, 1), 0, []), (.getfield 186, (3, 0, 2, 7, 1202, 0), 0, []), (.ireturn, (1, 3, 0, 0, 0, 0), 0, [])],
  [(.aload_n 0, (1, 0, 0, 0, 0, 0), 0, []), (.invokevirtual 189, (3, 2, 94, 12, 1, 10), 3156, [])],
  [(.ireturn, (1, 3, 0, 0, 0, 0), 0, [])]]
/-- EvenlyPoured.mean(II)J -/
noncomputable def bk_86 : List (List am_P) := [[(.aload_n 0, (1, 0, 0, 0, 0, 0), 0, []), (.iload_n 1, (1, 0, 1, 0, 0, 0), 0, []), (.invokevirtual 145, (3, 2, 76, 1, 2, 10), 2141, [])],
  [(.ifCond .eq 10, (3, 1, 4, 2, 0, 0), 0, [])],
  [(.iload_n 2, (1, 0, 2, 0, 0, 0), 0, []), (.invokestatic 192, (3, 2, 99, 3, 1, 0), 3172, [])],
  [(.ifCond .ne 7, (3, 1, 5, 4, 0, 0), 0, [])],
  [(.ldc2_w 195, (3, 0, 100000, 0, 3175, 0), 0, []), (.lreturn, (1, 3, 0, 0, 0, 0), 0, [])],
  [(.aload_n 0, (1, 0, 0, 0, 0, 0), 0, []), (.invokevirtual 165, (3, 2, 92, 6, 1, 10), 3076, [])],
  [(.aload_n 0, (1, 0, 0, 0, 0, 0), 0, []), (.getfield 98, (3, 0, 9, 13, 2057, 1), 0, []), (.getfield 168, (3, 0, 2, 1, 1193, 1), 0, []), (.iload_n 1, (1, 0, 1, 0, 0, 0), 0, []), (.iaload, (1, 0, 0, 0, 0, 0), 0, []), (.istore_n 3, (1, 0, 3, 0, 0, 0), 0, []), (.iload_n 3, (1, 0, 3, 0, 0, 0), 0, []), (.ifCond .ne 9, (3, 1, 8, 7, 0, 0), 0, [])],
  [(.ldc2_w 195, (3, 0, 100000, 0, 3175, 0), 0, []), (.goto 19, (3, 1, 9, 0, 0, 0), 0, [])],
  [(.aload_n 0, (1, 0, 0, 0, 0, 0), 0, []), (.getfield 98, (3, 0, 9, 13, 2057, 1), 0, []), (.getfield 171, (3, 0, 2, 2, 1195, 1), 0, []), (.iload_n 1, (1, 0, 1, 0, 0, 0), 0, []), (.iaload, (1, 0, 0, 0, 0, 0), 0, []), (.i2l, (1, 0, 0, 0, 0, 0), 0, []), (.iload_n 3, (1, 0, 3, 0, 0, 0), 0, []), (.i2l, (1, 0, 0, 0, 0, 0), 0, []), (.iload_n 2, (1, 0, 2, 0, 0, 0), 0, []), (.invokestatic 197, (3, 2, 100, 9, 3, 0), 3176, [])],
  [(.lreturn, (1, 3, 0, 0, 0, 0), 0, [])]]
/-- EvenlyPoured.evenest(I)I -/
noncomputable def bk_87 : List (List am_P) := [[(.iload_n 1, (1, 0, 1, 0, 0, 0), 0, []), (.ifCond .lt 13, (3, 1, 2, 1, 0, 0), 0, [])],
  [(.iload_n 1, (1, 0, 1, 0, 0, 0), 0, []), (.iconst 2, (1, 0, 0, 0, 0, 0), 2, []), (.aload_n 0, (1, 0, 0, 0, 0, 0), 0, []), (.getfield 13, (3, 0, 9, 1, 2045, 0), 0, []), (.iadd, (1, 0, 0, 0, 0, 0), 0, []), (.if_icmp .lt 6, (3, 1, 3, 2, 0, 0), 0, [])],
  [(.bipush (-2), (2, 0, 0, 0, 0, 0), (-2), []), (.ireturn, (1, 3, 0, 0, 0, 0), 0, [])],
  [(.aload_n 0, (1, 0, 0, 0, 0, 0), 0, []), (.invokevirtual 201, (3, 2, 97, 4, 1, 10), 3183, [])],
  [(.ifCond .ne 6, (3, 1, 6, 5, 0, 0), 0, [])],
  [(.bipush (-3), (2, 0, 0, 0, 0, 0), (-3), []), (.ireturn, (1, 3, 0, 0, 0, 0), 0, [])],
  [(.aload_n 0, (1, 0, 0, 0, 0, 0), 0, []), (.invokevirtual 205, (3, 2, 98, 7, 1, 10), 3188, [])],
  [(.iload_n 1, (1, 0, 1, 0, 0, 0), 0, []), (.lookupswitch 44 #[(0, 28), (1, 36)], (28, 1, 0, 10, 0, 0), 0, [(0, 8), (1, 9)])],
  [(.aload_n 0, (1, 0, 0, 0, 0, 0), 0, []), (.getfield 105, (3, 0, 9, 14, 2058, 1), 0, []), (.getfield 208, (3, 0, 4, 12, 2001, 0), 0, []), (.ireturn, (1, 3, 0, 0, 0, 0), 0, [])],
  [(.aload_n 0, (1, 0, 0, 0, 0, 0), 0, []), (.getfield 105, (3, 0, 9, 14, 2058, 1), 0, []), (.getfield 211, (3, 0, 4, 13, 2003, 0), 0, []), (.ireturn, (1, 3, 0, 0, 0, 0), 0, [])],
  [(.aload_n 0, (1, 0, 0, 0, 0, 0), 0, []), (.getfield 105, (3, 0, 9, 14, 2058, 1), 0, []), (.getfield 214, (3, 0, 4, 11, 1239, 1), 0, []), (.iload_n 1, (1, 0, 1, 0, 0, 0), 0, []), (.iconst 2, (1, 0, 0, 0, 0, 0), 2, []), (.isub, (1, 0, 0, 0, 0, 0), 0, []), (.iaload, (1, 0, 0, 0, 0, 0), 0, []), (.ireturn, (1, 3, 0, 0, 0, 0), 0, [])]]
/-- EvenlyPoured.become()I -/
noncomputable def bk_88 : List (List am_P) := [[(.aload_n 0, (1, 0, 0, 0, 0, 0), 0, []), (.invokevirtual 201, (3, 2, 97, 1, 1, 10), 3183, [])],
  [(.ifCond .ne 6, (3, 1, 3, 2, 0, 0), 0, [])],
  [(.bipush (-3), (2, 0, 0, 0, 0, 0), (-3), []), (.ireturn, (1, 3, 0, 0, 0, 0), 0, [])],
  [(.aload_n 0, (1, 0, 0, 0, 0, 0), 0, []), (.invokevirtual 205, (3, 2, 98, 4, 1, 10), 3188, [])],
  [(.aload_n 0, (1, 0, 0, 0, 0, 0), 0, []), (.getfield 105, (3, 0, 9, 14, 2058, 1), 0, []), (.getfield 214, (3, 0, 4, 11, 1239, 1), 0, []), (.iconst 0, (1, 0, 0, 0, 0, 0), 0, []), (.aload_n 0, (1, 0, 0, 0, 0, 0), 0, []), (.getfield 16, (3, 0, 9, 2, 2046, 1), 0, []), (.iconst 0, (1, 0, 0, 0, 0, 0), 0, []), (.aload_n 0, (1, 0, 0, 0, 0, 0), 0, []), (.getfield 13, (3, 0, 9, 1, 2045, 0), 0, []), (.invokestatic 217, (3, 0, 0, 0, 4000, 0), 0, []), (.aload_n 0, (1, 0, 0, 0, 0, 0), 0, []), (.getfield 105, (3, 0, 9, 14, 2058, 1), 0, []), (.getfield 208, (3, 0, 4, 12, 2001, 0), 0, []), (.ireturn, (1, 3, 0, 0, 0, 0), 0, [])]]
/-- EvenlyPoured.fewest(I)I -/
noncomputable def bk_89 : List (List am_P) := [[(.iload_n 1, (1, 0, 1, 0, 0, 0), 0, []), (.ifCond .lt 9, (3, 1, 2, 1, 0, 0), 0, [])],
  [(.iload_n 1, (1, 0, 1, 0, 0, 0), 0, []), (.ldc 223, (2, 0, 0, 0, 4005, 0), 99999, []), (.if_icmp .le 6, (3, 1, 3, 2, 0, 0), 0, [])],
  [(.bipush (-2), (2, 0, 0, 0, 0, 0), (-2), []), (.ireturn, (1, 3, 0, 0, 0, 0), 0, [])],
  [(.aload_n 0, (1, 0, 0, 0, 0, 0), 0, []), (.invokevirtual 201, (3, 2, 97, 4, 1, 10), 3183, [])],
  [(.ifCond .ne 6, (3, 1, 6, 5, 0, 0), 0, [])],
  [(.bipush (-3), (2, 0, 0, 0, 0, 0), (-3), []), (.ireturn, (1, 3, 0, 0, 0, 0), 0, [])],
  [(.aload_n 0, (1, 0, 0, 0, 0, 0), 0, []), (.invokevirtual 205, (3, 2, 98, 7, 1, 10), 3188, [])],
  [(.aload_n 0, (1, 0, 0, 0, 0, 0), 0, []), (.getfield 105, (3, 0, 9, 14, 2058, 1), 0, []), (.iload_n 1, (1, 0, 1, 0, 0, 0), 0, []), (.invokevirtual 224, (3, 2, 31, 8, 2, 5), 4006, [])],
  [(.ireturn, (1, 3, 0, 0, 0, 0), 0, [])]]
/-- EvenlyPoured.next(I)I -/
noncomputable def bk_90 : List (List am_P) := [[(.iload_n 1, (1, 0, 1, 0, 0, 0), 0, []), (.ifCond .lt 8, (3, 1, 2, 1, 0, 0), 0, [])],
  [(.iload_n 1, (1, 0, 1, 0, 0, 0), 0, []), (.iconst 1, (1, 0, 0, 0, 0, 0), 1, []), (.if_icmp .le 6, (3, 1, 3, 2, 0, 0), 0, [])],
  [(.bipush (-2), (2, 0, 0, 0, 0, 0), (-2), []), (.ireturn, (1, 3, 0, 0, 0, 0), 0, [])],
  [(.aload_n 0, (1, 0, 0, 0, 0, 0), 0, []), (.getfield 13, (3, 0, 9, 1, 2045, 0), 0, []), (.bipush 24, (2, 0, 0, 0, 0, 0), 24, []), (.if_icmp .lt 6, (3, 1, 5, 4, 0, 0), 0, [])],
  [(.bipush (-3), (2, 0, 0, 0, 0, 0), (-3), []), (.ireturn, (1, 3, 0, 0, 0, 0), 0, [])],
  [(.iconst 0, (1, 0, 0, 0, 0, 0), 0, []), (.istore_n 2, (1, 0, 2, 0, 0, 0), 0, []), (.aload_n 0, (1, 0, 0, 0, 0, 0), 0, []), (.iconst 0, (1, 0, 0, 0, 0, 0), 0, []), (.invokevirtual 227, (3, 2, 91, 6, 2, 10), 4014, [])],
  [(.istore_n 3, (1, 0, 3, 0, 0, 0), 0, []), (.iconst 1, (1, 0, 0, 0, 0, 0), 1, []), (.istore 4, (2, 0, 4, 0, 0, 0), 0, []), (.nop, (0, 1, 7, 0, 0, 0), 0, [])],
  [(.iload 4, (2, 0, 4, 0, 0, 0), 0, []), (.aload_n 0, (1, 0, 0, 0, 0, 0), 0, []), (.getfield 7, (3, 0, 9, 0, 2044, 0), 0, []), (.if_icmp .ge 29, (3, 1, 12, 8, 0, 0), 0, [])],
  [(.aload_n 0, (1, 0, 0, 0, 0, 0), 0, []), (.iload 4, (2, 0, 4, 0, 0, 0), 0, []), (.invokevirtual 227, (3, 2, 91, 9, 2, 10), 4014, [])],
  [(.istore 5, (2, 0, 5, 0, 0, 0), 0, []), (.iload 5, (2, 0, 5, 0, 0, 0), 0, []), (.iload_n 3, (1, 0, 3, 0, 0, 0), 0, []), (.if_icmp .ge 9, (3, 1, 11, 10, 0, 0), 0, [])],
  [(.iload 5, (2, 0, 5, 0, 0, 0), 0, []), (.istore_n 3, (1, 0, 3, 0, 0, 0), 0, []), (.iload 4, (2, 0, 4, 0, 0, 0), 0, []), (.istore_n 2, (1, 0, 2, 0, 0, 0), 0, []), (.nop, (0, 1, 11, 0, 0, 0), 0, [])],
  [(.iinc 4 1, (3, 0, 4, 0, 0, 0), 1, []), (.goto (-32), (3, 1, 7, 0, 0, 0), 0, [])],
  [(.iload_n 1, (1, 0, 1, 0, 0, 0), 0, []), (.ifCond .ne 7, (3, 1, 14, 13, 0, 0), 0, [])],
  [(.iload_n 2, (1, 0, 2, 0, 0, 0), 0, []), (.goto 4, (3, 1, 15, 0, 0, 0), 0, [])],
  [(.iload_n 3, (1, 0, 3, 0, 0, 0), 0, []), (.nop, (0, 1, 15, 0, 0, 0), 0, [])],
  [(.ireturn, (1, 3, 0, 0, 0, 0), 0, [])]]
/-- EvenlyPoured.unevenWithOneMore(I)I -/
noncomputable def bk_91 : List (List am_P) := [[(.aload_n 0, (1, 0, 0, 0, 0, 0), 0, []), (.getfield 98, (3, 0, 9, 13, 2057, 1), 0, []), (.aload_n 0, (1, 0, 0, 0, 0, 0), 0, []), (.getfield 34, (3, 0, 9, 6, 2050, 1), 0, []), (.aload_n 0, (1, 0, 0, 0, 0, 0), 0, []), (.getfield 41, (3, 0, 9, 8, 2052, 0), 0, []), (.aaload, (1, 0, 23, 0, 0, 0), 0, []), (.nop, (0, 1, 1, 0, 0, 0), 0, [])],
  [(.aload_n 0, (1, 0, 0, 0, 0, 0), 0, []), (.getfield 7, (3, 0, 9, 0, 2044, 0), 0, []), (.aload_n 0, (1, 0, 0, 0, 0, 0), 0, []), (.getfield 13, (3, 0, 9, 1, 2045, 0), 0, []), (.iconst 1, (1, 0, 0, 0, 0, 0), 1, []), (.iadd, (1, 0, 0, 0, 0, 0), 0, []), (.invokevirtual 230, (3, 2, 8, 2, 4, 3), 3084, [])],
  [(.iconst 0, (1, 0, 0, 0, 0, 0), 0, []), (.istore_n 2, (1, 0, 2, 0, 0, 0), 0, []), (.nop, (0, 1, 3, 0, 0, 0), 0, [])],
  [(.iload_n 2, (1, 0, 2, 0, 0, 0), 0, []), (.aload_n 0, (1, 0, 0, 0, 0, 0), 0, []), (.getfield 13, (3, 0, 9, 1, 2045, 0), 0, []), (.if_icmp .ge 24, (3, 1, 6, 4, 0, 0), 0, [])],
  [(.aload_n 0, (1, 0, 0, 0, 0, 0), 0, []), (.getfield 98, (3, 0, 9, 13, 2057, 1), 0, []), (.iload_n 2, (1, 0, 2, 0, 0, 0), 0, []), (.aload_n 0, (1, 0, 0, 0, 0, 0), 0, []), (.getfield 16, (3, 0, 9, 2, 2046, 1), 0, []), (.iload_n 2, (1, 0, 2, 0, 0, 0), 0, []), (.iaload, (1, 0, 0, 0, 0, 0), 0, []), (.iconst 0, (1, 0, 0, 0, 0, 0), 0, []), (.invokevirtual 234, (3, 2, 9, 5, 4, 3), 3093, [])],
  [(.iinc 2 1, (3, 0, 2, 0, 0, 0), 1, []), (.goto (-26), (3, 1, 3, 0, 0, 0), 0, [])],
  [(.aload_n 0, (1, 0, 0, 0, 0, 0), 0, []), (.getfield 98, (3, 0, 9, 13, 2057, 1), 0, []), (.aload_n 0, (1, 0, 0, 0, 0, 0), 0, []), (.getfield 13, (3, 0, 9, 1, 2045, 0), 0, []), (.iload_n 1, (1, 0, 1, 0, 0, 0), 0, []), (.iconst 0, (1, 0, 0, 0, 0, 0), 0, []), (.invokevirtual 234, (3, 2, 9, 7, 4, 3), 3093, [])],
  [(.aload_n 0, (1, 0, 0, 0, 0, 0), 0, []), (.getfield 98, (3, 0, 9, 13, 2057, 1), 0, []), (.invokevirtual 177, (3, 2, 10, 8, 1, 3), 3139, [])],
  [(.ireturn, (1, 3, 0, 0, 0, 0), 0, [])]]
/-- EvenlyPoured.pourRow()V -/
noncomputable def bk_92 : List (List am_P) := [[(.aload_n 0, (1, 0, 0, 0, 0, 0), 0, []), (.iconst (-1), (1, 0, 0, 0, 0, 0), (-1), []), (.invokevirtual 238, (3, 2, 93, 1, 2, 10), 3080, [])],
  [(.return_, (1, 3, 0, 0, 0, 0), 0, [])]]
/-- EvenlyPoured.pourAllBut(I)V -/
noncomputable def bk_93 : List (List am_P) := [[(.aload_n 0, (1, 0, 0, 0, 0, 0), 0, []), (.getfield 98, (3, 0, 9, 13, 2057, 1), 0, []), (.aload_n 0, (1, 0, 0, 0, 0, 0), 0, []), (.getfield 34, (3, 0, 9, 6, 2050, 1), 0, []), (.aload_n 0, (1, 0, 0, 0, 0, 0), 0, []), (.getfield 41, (3, 0, 9, 8, 2052, 0), 0, []), (.aaload, (1, 0, 23, 0, 0, 0), 0, []), (.nop, (0, 1, 1, 0, 0, 0), 0, [])],
  [(.aload_n 0, (1, 0, 0, 0, 0, 0), 0, []), (.getfield 7, (3, 0, 9, 0, 2044, 0), 0, []), (.aload_n 0, (1, 0, 0, 0, 0, 0), 0, []), (.getfield 13, (3, 0, 9, 1, 2045, 0), 0, []), (.invokevirtual 230, (3, 2, 8, 2, 4, 3), 3084, [])],
  [(.iconst 0, (1, 0, 0, 0, 0, 0), 0, []), (.istore_n 2, (1, 0, 2, 0, 0, 0), 0, []), (.nop, (0, 1, 3, 0, 0, 0), 0, [])],
  [(.iload_n 2, (1, 0, 2, 0, 0, 0), 0, []), (.aload_n 0, (1, 0, 0, 0, 0, 0), 0, []), (.getfield 13, (3, 0, 9, 1, 2045, 0), 0, []), (.if_icmp .ge 34, (3, 1, 7, 4, 0, 0), 0, [])],
  [(.aload_n 0, (1, 0, 0, 0, 0, 0), 0, []), (.getfield 16, (3, 0, 9, 2, 2046, 1), 0, []), (.iload_n 2, (1, 0, 2, 0, 0, 0), 0, []), (.iaload, (1, 0, 0, 0, 0, 0), 0, []), (.iload_n 1, (1, 0, 1, 0, 0, 0), 0, []), (.if_icmp .eq 18, (3, 1, 6, 5, 0, 0), 0, [])],
  [(.aload_n 0, (1, 0, 0, 0, 0, 0), 0, []), (.getfield 98, (3, 0, 9, 13, 2057, 1), 0, []), (.iload_n 2, (1, 0, 2, 0, 0, 0), 0, []), (.aload_n 0, (1, 0, 0, 0, 0, 0), 0, []), (.getfield 16, (3, 0, 9, 2, 2046, 1), 0, []), (.iload_n 2, (1, 0, 2, 0, 0, 0), 0, []), (.iaload, (1, 0, 0, 0, 0, 0), 0, []), (.iconst 0, (1, 0, 0, 0, 0, 0), 0, []), (.invokevirtual 234, (3, 2, 9, 6, 4, 3), 3093, [])],
  [(.iinc 2 1, (3, 0, 2, 0, 0, 0), 1, []), (.goto (-36), (3, 1, 3, 0, 0, 0), 0, [])],
  [(.return_, (1, 3, 0, 0, 0, 0), 0, [])]]
/-- EvenlyPoured.greatestEvenPower()I -/
noncomputable def bk_94 : List (List am_P) := [[(.iconst 0, (1, 0, 0, 0, 0, 0), 0, []), (.istore_n 1, (1, 0, 1, 0, 0, 0), 0, []), (.nop, (0, 1, 1, 0, 0, 0), 0, [])],
  [(.iload_n 1, (1, 0, 1, 0, 0, 0), 0, []), (.iconst 4, (1, 0, 0, 0, 0, 0), 4, []), (.if_icmp .gt 21, (3, 1, 6, 2, 0, 0), 0, [])],
  [(.aload_n 0, (1, 0, 0, 0, 0, 0), 0, []), (.iload_n 1, (1, 0, 1, 0, 0, 0), 0, []), (.invokevirtual 242, (3, 2, 95, 3, 2, 10), 3160, [])],
  [(.ifCond .ne 7, (3, 1, 5, 4, 0, 0), 0, [])],
  [(.iload_n 1, (1, 0, 1, 0, 0, 0), 0, []), (.iconst 1, (1, 0, 0, 0, 0, 0), 1, []), (.isub, (1, 0, 0, 0, 0, 0), 0, []), (.ireturn, (1, 3, 0, 0, 0, 0), 0, [])],
  [(.iinc 1 1, (3, 0, 1, 0, 0, 0), 1, []), (.goto (-20), (3, 1, 1, 0, 0, 0), 0, [])],
  [(.iconst 4, (1, 0, 0, 0, 0, 0), 4, []), (.ireturn, (1, 3, 0, 0, 0, 0), 0, [])]]
/-- EvenlyPoured.isAsMuchInEachCup(I)Z -/
noncomputable def bk_95 : List (List am_P) := [[(.aload_n 0, (1, 0, 0, 0, 0, 0), 0, []), (.iconst 0, (1, 0, 0, 0, 0, 0), 0, []), (.iload_n 1, (1, 0, 1, 0, 0, 0), 0, []), (.invokevirtual 245, (3, 2, 96, 1, 3, 10), 3164, [])],
  [(.istore_n 2, (1, 0, 2, 0, 0, 0), 0, []), (.iconst 1, (1, 0, 0, 0, 0, 0), 1, []), (.istore_n 3, (1, 0, 3, 0, 0, 0), 0, []), (.nop, (0, 1, 2, 0, 0, 0), 0, [])],
  [(.iload_n 3, (1, 0, 3, 0, 0, 0), 0, []), (.aload_n 0, (1, 0, 0, 0, 0, 0), 0, []), (.getfield 7, (3, 0, 9, 0, 2044, 0), 0, []), (.if_icmp .ge 21, (3, 1, 7, 3, 0, 0), 0, [])],
  [(.aload_n 0, (1, 0, 0, 0, 0, 0), 0, []), (.iload_n 3, (1, 0, 3, 0, 0, 0), 0, []), (.iload_n 1, (1, 0, 1, 0, 0, 0), 0, []), (.invokevirtual 245, (3, 2, 96, 4, 3, 10), 3164, [])],
  [(.iload_n 2, (1, 0, 2, 0, 0, 0), 0, []), (.if_icmp .eq 5, (3, 1, 6, 5, 0, 0), 0, [])],
  [(.iconst 0, (1, 0, 0, 0, 0, 0), 0, []), (.ireturn, (1, 3, 0, 0, 0, 1), 0, [])],
  [(.iinc 3 1, (3, 0, 3, 0, 0, 0), 1, []), (.goto (-23), (3, 1, 2, 0, 0, 0), 0, [])],
  [(.iconst 1, (1, 0, 0, 0, 0, 0), 1, []), (.ireturn, (1, 3, 0, 0, 0, 1), 0, [])]]
/-- EvenlyPoured.sumOfPowers(II)I -/
noncomputable def bk_96 : List (List am_P) := [[(.iconst 0, (1, 0, 0, 0, 0, 0), 0, []), (.istore_n 3, (1, 0, 3, 0, 0, 0), 0, []), (.iconst 0, (1, 0, 0, 0, 0, 0), 0, []), (.istore 4, (2, 0, 4, 0, 0, 0), 0, []), (.nop, (0, 1, 1, 0, 0, 0), 0, [])],
  [(.iload 4, (2, 0, 4, 0, 0, 0), 0, []), (.aload_n 0, (1, 0, 0, 0, 0, 0), 0, []), (.getfield 13, (3, 0, 9, 1, 2045, 0), 0, []), (.if_icmp .ge 50, (3, 1, 8, 2, 0, 0), 0, [])],
  [(.aload_n 0, (1, 0, 0, 0, 0, 0), 0, []), (.getfield 16, (3, 0, 9, 2, 2046, 1), 0, []), (.iload 4, (2, 0, 4, 0, 0, 0), 0, []), (.iaload, (1, 0, 0, 0, 0, 0), 0, []), (.iload_n 1, (1, 0, 1, 0, 0, 0), 0, []), (.if_icmp .ne 33, (3, 1, 7, 3, 0, 0), 0, [])],
  [(.iconst 1, (1, 0, 0, 0, 0, 0), 1, []), (.istore 5, (2, 0, 5, 0, 0, 0), 0, []), (.iconst 0, (1, 0, 0, 0, 0, 0), 0, []), (.istore 6, (2, 0, 6, 0, 0, 0), 0, []), (.nop, (0, 1, 4, 0, 0, 0), 0, [])],
  [(.iload 6, (2, 0, 6, 0, 0, 0), 0, []), (.iload_n 2, (1, 0, 2, 0, 0, 0), 0, []), (.if_icmp .ge 16, (3, 1, 6, 5, 0, 0), 0, [])],
  [(.iload 5, (2, 0, 5, 0, 0, 0), 0, []), (.iload 4, (2, 0, 4, 0, 0, 0), 0, []), (.imul, (1, 0, 0, 0, 0, 0), 0, []), (.istore 5, (2, 0, 5, 0, 0, 0), 0, []), (.iinc 6 1, (3, 0, 6, 0, 0, 0), 1, []), (.goto (-16), (3, 1, 4, 0, 0, 0), 0, [])],
  [(.iload_n 3, (1, 0, 3, 0, 0, 0), 0, []), (.iload 5, (2, 0, 5, 0, 0, 0), 0, []), (.iadd, (1, 0, 0, 0, 0, 0), 0, []), (.istore_n 3, (1, 0, 3, 0, 0, 0), 0, []), (.nop, (0, 1, 7, 0, 0, 0), 0, [])],
  [(.iinc 4 1, (3, 0, 4, 0, 0, 0), 1, []), (.goto (-53), (3, 1, 1, 0, 0, 0), 0, [])],
  [(.iload_n 3, (1, 0, 3, 0, 0, 0), 0, []), (.ireturn, (1, 3, 0, 0, 0, 0), 0, [])]]
/-- EvenlyPoured.waysAreFew()Z -/
noncomputable def bk_97 : List (List am_P) := [[(.iconst 1, (1, 0, 0, 0, 0, 0), 1, []), (.istore_n 1, (1, 0, 1, 0, 0, 0), 0, []), (.iconst 0, (1, 0, 0, 0, 0, 0), 0, []), (.istore_n 2, (1, 0, 2, 0, 0, 0), 0, []), (.nop, (0, 1, 1, 0, 0, 0), 0, [])],
  [(.iload_n 2, (1, 0, 2, 0, 0, 0), 0, []), (.aload_n 0, (1, 0, 0, 0, 0, 0), 0, []), (.getfield 13, (3, 0, 9, 1, 2045, 0), 0, []), (.if_icmp .ge 24, (3, 1, 5, 2, 0, 0), 0, [])],
  [(.iload_n 1, (1, 0, 1, 0, 0, 0), 0, []), (.aload_n 0, (1, 0, 0, 0, 0, 0), 0, []), (.getfield 7, (3, 0, 9, 0, 2044, 0), 0, []), (.imul, (1, 0, 0, 0, 0, 0), 0, []), (.istore_n 1, (1, 0, 1, 0, 0, 0), 0, []), (.iload_n 1, (1, 0, 1, 0, 0, 0), 0, []), (.ldc 248, (2, 0, 0, 0, 3187, 0), 65536, []), (.if_icmp .le 5, (3, 1, 4, 3, 0, 0), 0, [])],
  [(.iconst 0, (1, 0, 0, 0, 0, 0), 0, []), (.ireturn, (1, 3, 0, 0, 0, 1), 0, [])],
  [(.iinc 2 1, (3, 0, 2, 0, 0, 0), 1, []), (.goto (-26), (3, 1, 1, 0, 0, 0), 0, [])],
  [(.iconst 1, (1, 0, 0, 0, 0, 0), 1, []), (.ireturn, (1, 3, 0, 0, 0, 1), 0, [])]]
/-- EvenlyPoured.findEvenest()V -/
noncomputable def bk_98 : List (List am_P) := [[(.aload_n 0, (1, 0, 0, 0, 0, 0), 0, []), (.getfield 105, (3, 0, 9, 14, 2058, 1), 0, []), (.aload_n 0, (1, 0, 0, 0, 0, 0), 0, []), (.getfield 41, (3, 0, 9, 8, 2052, 0), 0, []), (.aload_n 0, (1, 0, 0, 0, 0, 0), 0, []), (.getfield 34, (3, 0, 9, 6, 2050, 1), 0, []), (.aload_n 0, (1, 0, 0, 0, 0, 0), 0, []), (.getfield 41, (3, 0, 9, 8, 2052, 0), 0, []), (.aaload, (1, 0, 23, 0, 0, 0), 0, []), (.nop, (0, 1, 1, 0, 0, 0), 0, [])],
  [(.aload_n 0, (1, 0, 0, 0, 0, 0), 0, []), (.getfield 7, (3, 0, 9, 0, 2044, 0), 0, []), (.aload_n 0, (1, 0, 0, 0, 0, 0), 0, []), (.getfield 13, (3, 0, 9, 1, 2045, 0), 0, []), (.invokevirtual 249, (3, 2, 26, 2, 5, 5), 3192, [])],
  [(.aload_n 0, (1, 0, 0, 0, 0, 0), 0, []), (.getfield 105, (3, 0, 9, 14, 2058, 1), 0, []), (.invokevirtual 253, (3, 2, 30, 3, 1, 5), 3208, [])],
  [(.return_, (1, 3, 0, 0, 0, 0), 0, [])]]
/-- EvenlyPoured.isPart(I)Z -/
noncomputable def bk_99 : List (List am_P) := [[(.iload_n 0, (1, 0, 0, 0, 0, 0), 0, []), (.ifCond .eq 8, (3, 1, 2, 1, 0, 0), 0, [])],
  [(.iload_n 0, (1, 0, 0, 0, 0, 0), 0, []), (.iconst 1, (1, 0, 0, 0, 0, 0), 1, []), (.if_icmp .ne 7, (3, 1, 3, 2, 0, 0), 0, [])],
  [(.iconst 1, (1, 0, 0, 0, 0, 0), 1, []), (.goto 4, (3, 1, 4, 0, 0, 0), 0, [])],
  [(.iconst 0, (1, 0, 0, 0, 0, 0), 0, []), (.nop, (0, 1, 4, 0, 0, 0), 0, [])],
  [(.ireturn, (1, 3, 0, 0, 0, 1), 0, [])]]
/-- EvenlyPoured.inLowestTerms(JJI)J -/
noncomputable def bk_100 : List (List am_P) := [[(.lload_n 0, (1, 0, 0, 0, 0, 0), 0, []), (.lstore 5, (2, 0, 5, 0, 0, 0), 0, []), (.lload_n 2, (1, 0, 2, 0, 0, 0), 0, []), (.lstore 7, (2, 0, 7, 0, 0, 0), 0, []), (.iconst 0, (1, 0, 0, 0, 0, 0), 0, []), (.istore 9, (2, 0, 9, 0, 0, 0), 0, []), (.nop, (0, 1, 1, 0, 0, 0), 0, [])],
  [(.iload 9, (2, 0, 9, 0, 0, 0), 0, []), (.sipush 200, (3, 0, 0, 0, 0, 0), 200, []), (.if_icmp .ge 31, (3, 1, 4, 2, 0, 0), 0, [])],
  [(.lload 7, (2, 0, 7, 0, 0, 0), 0, []), (.lconst 0, (1, 0, 0, 0, 0, 0), 0, []), (.lcmp, (1, 0, 0, 0, 0, 0), 0, []), (.ifCond .eq 24, (3, 1, 4, 3, 0, 0), 0, [])],
  [(.lload 5, (2, 0, 5, 0, 0, 0), 0, []), (.lload 7, (2, 0, 7, 0, 0, 0), 0, []), (.lrem, (1, 0, 0, 0, 0, 0), 0, []), (.lstore 10, (2, 0, 10, 0, 0, 0), 0, []), (.lload 7, (2, 0, 7, 0, 0, 0), 0, []), (.lstore 5, (2, 0, 5, 0, 0, 0), 0, []), (.lload 10, (2, 0, 10, 0, 0, 0), 0, []), (.lstore 7, (2, 0, 7, 0, 0, 0), 0, []), (.iinc 9 1, (3, 0, 9, 0, 0, 0), 1, []), (.goto (-33), (3, 1, 1, 0, 0, 0), 0, [])],
  [(.lload 5, (2, 0, 5, 0, 0, 0), 0, []), (.lconst 0, (1, 0, 0, 0, 0, 0), 0, []), (.lcmp, (1, 0, 0, 0, 0, 0), 0, []), (.ifCond .ne 7, (3, 1, 6, 5, 0, 0), 0, [])],
  [(.ldc2_w 195, (3, 0, 100000, 0, 3175, 0), 0, []), (.lreturn, (1, 3, 0, 0, 0, 0), 0, [])],
  [(.iload 4, (2, 0, 4, 0, 0, 0), 0, []), (.ifCond .ne 7, (3, 1, 8, 7, 0, 0), 0, [])],
  [(.lload_n 0, (1, 0, 0, 0, 0, 0), 0, []), (.goto 4, (3, 1, 9, 0, 0, 0), 0, [])],
  [(.lload_n 2, (1, 0, 2, 0, 0, 0), 0, []), (.nop, (0, 1, 9, 0, 0, 0), 0, [])],
  [(.lload 5, (2, 0, 5, 0, 0, 0), 0, []), (.ldiv, (1, 0, 0, 0, 0, 0), 0, []), (.lreturn, (1, 3, 0, 0, 0, 0), 0, [])]]
/-- EvenlyPoured.poured(II)I -/
noncomputable def bk_101 : List (List am_P) := [[(.aload_n 0, (1, 0, 0, 0, 0, 0), 0, []), (.iload_n 1, (1, 0, 1, 0, 0, 0), 0, []), (.invokevirtual 129, (3, 2, 78, 1, 2, 10), 2118, [])],
  [(.ifCond .eq 16, (3, 1, 5, 2, 0, 0), 0, [])],
  [(.iload_n 2, (1, 0, 2, 0, 0, 0), 0, []), (.iconst (-1), (1, 0, 0, 0, 0, 0), (-1), []), (.if_icmp .eq 14, (3, 1, 6, 3, 0, 0), 0, [])],
  [(.aload_n 0, (1, 0, 0, 0, 0, 0), 0, []), (.iload_n 2, (1, 0, 2, 0, 0, 0), 0, []), (.invokevirtual 142, (3, 2, 77, 4, 2, 10), 2137, [])],
  [(.ifCond .ne 6, (3, 1, 6, 5, 0, 0), 0, [])],
  [(.bipush (-2), (2, 0, 0, 0, 0, 0), (-2), []), (.ireturn, (1, 3, 0, 0, 0, 0), 0, [])],
  [(.aload_n 0, (1, 0, 0, 0, 0, 0), 0, []), (.aload_n 0, (1, 0, 0, 0, 0, 0), 0, []), (.getfield 25, (3, 0, 9, 4, 2048, 1), 0, []), (.iload_n 1, (1, 0, 1, 0, 0, 0), 0, []), (.aaload, (1, 0, 22, 0, 0, 0), 0, []), (.nop, (0, 1, 7, 0, 0, 0), 0, [])],
  [(.invokevirtual 254, (3, 2, 104, 8, 2, 10), 4022, [])],
  [(.iload_n 2, (1, 0, 2, 0, 0, 0), 0, []), (.iconst (-1), (1, 0, 0, 0, 0, 0), (-1), []), (.if_icmp .ne 13, (3, 1, 11, 9, 0, 0), 0, [])],
  [(.aload_n 0, (1, 0, 0, 0, 0, 0), 0, []), (.getfield 98, (3, 0, 9, 13, 2057, 1), 0, []), (.invokevirtual 177, (3, 2, 10, 10, 1, 3), 3139, [])],
  [(.goto 9, (3, 1, 12, 0, 0, 0), 0, [])],
  [(.aload_n 0, (1, 0, 0, 0, 0, 0), 0, []), (.getfield 73, (3, 0, 9, 15, 2059, 1), 0, []), (.iload_n 2, (1, 0, 2, 0, 0, 0), 0, []), (.iaload, (1, 0, 0, 0, 0, 0), 0, []), (.nop, (0, 1, 12, 0, 0, 0), 0, [])],
  [(.ireturn, (1, 3, 0, 0, 0, 0), 0, [])]]
/-- EvenlyPoured.follow(I)I -/
noncomputable def bk_102 : List (List am_P) := [[(.aload_n 0, (1, 0, 0, 0, 0, 0), 0, []), (.iload_n 1, (1, 0, 1, 0, 0, 0), 0, []), (.invokevirtual 129, (3, 2, 78, 1, 2, 10), 2118, [])],
  [(.ifCond .ne 6, (3, 1, 3, 2, 0, 0), 0, [])],
  [(.bipush (-2), (2, 0, 0, 0, 0, 0), (-2), []), (.ireturn, (1, 3, 0, 0, 0, 0), 0, [])],
  [(.aload_n 0, (1, 0, 0, 0, 0, 0), 0, []), (.aload_n 0, (1, 0, 0, 0, 0, 0), 0, []), (.getfield 25, (3, 0, 9, 4, 2048, 1), 0, []), (.iload_n 1, (1, 0, 1, 0, 0, 0), 0, []), (.aaload, (1, 0, 22, 0, 0, 0), 0, []), (.nop, (0, 1, 4, 0, 0, 0), 0, [])],
  [(.invokevirtual 254, (3, 2, 104, 5, 2, 10), 4022, [])],
  [(.aload_n 0, (1, 0, 0, 0, 0, 0), 0, []), (.getfield 73, (3, 0, 9, 15, 2059, 1), 0, []), (.iconst 0, (1, 0, 0, 0, 0, 0), 0, []), (.aload_n 0, (1, 0, 0, 0, 0, 0), 0, []), (.getfield 16, (3, 0, 9, 2, 2046, 1), 0, []), (.iconst 0, (1, 0, 0, 0, 0, 0), 0, []), (.aload_n 0, (1, 0, 0, 0, 0, 0), 0, []), (.getfield 13, (3, 0, 9, 1, 2045, 0), 0, []), (.invokestatic 217, (3, 0, 0, 0, 4000, 0), 0, []), (.aload_n 0, (1, 0, 0, 0, 0, 0), 0, []), (.getfield 98, (3, 0, 9, 13, 2057, 1), 0, []), (.invokevirtual 177, (3, 2, 10, 6, 1, 3), 3139, [])],
  [(.ireturn, (1, 3, 0, 0, 0, 0), 0, [])]]
/-- EvenlyPoured.which(I)I -/
noncomputable def bk_103 : List (List am_P) := [[(.iload_n 1, (1, 0, 1, 0, 0, 0), 0, []), (.ifCond .lt 8, (3, 1, 2, 1, 0, 0), 0, [])],
  [(.iload_n 1, (1, 0, 1, 0, 0, 0), 0, []), (.iconst 1, (1, 0, 0, 0, 0, 0), 1, []), (.if_icmp .le 6, (3, 1, 3, 2, 0, 0), 0, [])],
  [(.bipush (-2), (2, 0, 0, 0, 0, 0), (-2), []), (.ireturn, (1, 3, 0, 0, 0, 0), 0, [])],
  [(.iconst (-1), (1, 0, 0, 0, 0, 0), (-1), []), (.istore_n 2, (1, 0, 2, 0, 0, 0), 0, []), (.iconst (-1), (1, 0, 0, 0, 0, 0), (-1), []), (.istore_n 3, (1, 0, 3, 0, 0, 0), 0, []), (.iconst 0, (1, 0, 0, 0, 0, 0), 0, []), (.istore 4, (2, 0, 4, 0, 0, 0), 0, []), (.nop, (0, 1, 4, 0, 0, 0), 0, [])],
  [(.iload 4, (2, 0, 4, 0, 0, 0), 0, []), (.aload_n 0, (1, 0, 0, 0, 0, 0), 0, []), (.getfield 29, (3, 0, 9, 5, 2049, 0), 0, []), (.if_icmp .ge 46, (3, 1, 12, 5, 0, 0), 0, [])],
  [(.aload_n 0, (1, 0, 0, 0, 0, 0), 0, []), (.aload_n 0, (1, 0, 0, 0, 0, 0), 0, []), (.getfield 25, (3, 0, 9, 4, 2048, 1), 0, []), (.iload 4, (2, 0, 4, 0, 0, 0), 0, []), (.aaload, (1, 0, 22, 0, 0, 0), 0, []), (.nop, (0, 1, 6, 0, 0, 0), 0, [])],
  [(.invokevirtual 254, (3, 2, 104, 7, 2, 10), 4022, [])],
  [(.aload_n 0, (1, 0, 0, 0, 0, 0), 0, []), (.getfield 98, (3, 0, 9, 13, 2057, 1), 0, []), (.invokevirtual 177, (3, 2, 10, 8, 1, 3), 3139, [])],
  [(.istore 5, (2, 0, 5, 0, 0, 0), 0, []), (.iload_n 2, (1, 0, 2, 0, 0, 0), 0, []), (.iconst (-1), (1, 0, 0, 0, 0, 0), (-1), []), (.if_icmp .eq 9, (3, 1, 10, 9, 0, 0), 0, [])],
  [(.iload 5, (2, 0, 5, 0, 0, 0), 0, []), (.iload_n 3, (1, 0, 3, 0, 0, 0), 0, []), (.if_icmp .ge 9, (3, 1, 11, 10, 0, 0), 0, [])],
  [(.iload 4, (2, 0, 4, 0, 0, 0), 0, []), (.istore_n 2, (1, 0, 2, 0, 0, 0), 0, []), (.iload 5, (2, 0, 5, 0, 0, 0), 0, []), (.istore_n 3, (1, 0, 3, 0, 0, 0), 0, []), (.nop, (0, 1, 11, 0, 0, 0), 0, [])],
  [(.iinc 4 1, (3, 0, 4, 0, 0, 0), 1, []), (.goto (-49), (3, 1, 4, 0, 0, 0), 0, [])],
  [(.iload_n 1, (1, 0, 1, 0, 0, 0), 0, []), (.ifCond .ne 7, (3, 1, 14, 13, 0, 0), 0, [])],
  [(.iload_n 2, (1, 0, 2, 0, 0, 0), 0, []), (.goto 4, (3, 1, 15, 0, 0, 0), 0, [])],
  [(.iload_n 3, (1, 0, 3, 0, 0, 0), 0, []), (.nop, (0, 1, 15, 0, 0, 0), 0, [])],
  [(.ireturn, (1, 3, 0, 0, 0, 0), 0, [])]]
/-- EvenlyPoured.pourBy(LEvenlyPoured$Pourer;)V -/
noncomputable def bk_104 : List (List am_P) := [[(.aload_n 0, (1, 0, 0, 0, 0, 0), 0, []), (.getfield 98, (3, 0, 9, 13, 2057, 1), 0, []), (.aload_n 0, (1, 0, 0, 0, 0, 0), 0, []), (.getfield 34, (3, 0, 9, 6, 2050, 1), 0, []), (.aload_n 0, (1, 0, 0, 0, 0, 0), 0, []), (.getfield 41, (3, 0, 9, 8, 2052, 0), 0, []), (.aaload, (1, 0, 23, 0, 0, 0), 0, []), (.nop, (0, 1, 1, 0, 0, 0), 0, [])],
  [(.aload_n 0, (1, 0, 0, 0, 0, 0), 0, []), (.getfield 7, (3, 0, 9, 0, 2044, 0), 0, []), (.aload_n 0, (1, 0, 0, 0, 0, 0), 0, []), (.getfield 13, (3, 0, 9, 1, 2045, 0), 0, []), (.invokevirtual 230, (3, 2, 8, 2, 4, 3), 3084, [])],
  [(.iconst 0, (1, 0, 0, 0, 0, 0), 0, []), (.istore_n 2, (1, 0, 2, 0, 0, 0), 0, []), (.nop, (0, 1, 3, 0, 0, 0), 0, [])],
  [(.iload_n 2, (1, 0, 2, 0, 0, 0), 0, []), (.aload_n 0, (1, 0, 0, 0, 0, 0), 0, []), (.getfield 13, (3, 0, 9, 1, 2045, 0), 0, []), (.if_icmp .ge 43, (3, 1, 7, 4, 0, 0), 0, [])],
  [(.aload_n 1, (1, 0, 1, 0, 0, 0), 0, []), (.iload_n 2, (1, 0, 2, 0, 0, 0), 0, []), (.aload_n 0, (1, 0, 0, 0, 0, 0), 0, []), (.getfield 7, (3, 0, 9, 0, 2044, 0), 0, []), (.aload_n 0, (1, 0, 0, 0, 0, 0), 0, []), (.getfield 98, (3, 0, 9, 13, 2057, 1), 0, []), (.getfield 171, (3, 0, 2, 2, 1195, 1), 0, []), (.invokevirtual 258, (3, 2, 3, 5, 4, 2), 4026, [])],
  [(.istore_n 3, (1, 0, 3, 0, 0, 0), 0, []), (.aload_n 0, (1, 0, 0, 0, 0, 0), 0, []), (.getfield 73, (3, 0, 9, 15, 2059, 1), 0, []), (.iload_n 2, (1, 0, 2, 0, 0, 0), 0, []), (.iload_n 3, (1, 0, 3, 0, 0, 0), 0, []), (.iastore, (1, 0, 0, 0, 0, 0), 0, []), (.aload_n 0, (1, 0, 0, 0, 0, 0), 0, []), (.getfield 98, (3, 0, 9, 13, 2057, 1), 0, []), (.iload_n 2, (1, 0, 2, 0, 0, 0), 0, []), (.iload_n 3, (1, 0, 3, 0, 0, 0), 0, []), (.iconst 0, (1, 0, 0, 0, 0, 0), 0, []), (.invokevirtual 234, (3, 2, 9, 6, 4, 3), 3093, [])],
  [(.iinc 2 1, (3, 0, 2, 0, 0, 0), 1, []), (.goto (-45), (3, 1, 3, 0, 0, 0), 0, [])],
  [(.return_, (1, 3, 0, 0, 0, 0), 0, [])]]
/-- EvenlyPoured.captains(I)I -/
noncomputable def bk_105 : List (List am_P) := [[(.iload_n 1, (1, 0, 1, 0, 0, 0), 0, []), (.iconst (-1), (1, 0, 0, 0, 0, 0), (-1), []), (.if_icmp .eq 14, (3, 1, 4, 1, 0, 0), 0, [])],
  [(.aload_n 0, (1, 0, 0, 0, 0, 0), 0, []), (.iload_n 1, (1, 0, 1, 0, 0, 0), 0, []), (.invokevirtual 145, (3, 2, 76, 2, 2, 10), 2141, [])],
  [(.ifCond .ne 6, (3, 1, 4, 3, 0, 0), 0, [])],
  [(.bipush (-2), (2, 0, 0, 0, 0, 0), (-2), []), (.ireturn, (1, 3, 0, 0, 0, 0), 0, [])],
  [(.aload_n 0, (1, 0, 0, 0, 0, 0), 0, []), (.getfield 76, (3, 0, 9, 16, 2060, 1), 0, []), (.iconst 0, (1, 0, 0, 0, 0, 0), 0, []), (.invokestatic 123, (3, 2, 214, 5, 2, 0), 2107, [])],
  [(.iconst 0, (1, 0, 0, 0, 0, 0), 0, []), (.istore_n 2, (1, 0, 2, 0, 0, 0), 0, []), (.nop, (0, 1, 6, 0, 0, 0), 0, [])],
  [(.iload_n 2, (1, 0, 2, 0, 0, 0), 0, []), (.bipush 8, (2, 0, 0, 0, 0, 0), 8, []), (.if_icmp .ge 16, (3, 1, 8, 7, 0, 0), 0, [])],
  [(.aload_n 0, (1, 0, 0, 0, 0, 0), 0, []), (.getfield 79, (3, 0, 9, 17, 2061, 1), 0, []), (.iload_n 2, (1, 0, 2, 0, 0, 0), 0, []), (.iconst 0, (1, 0, 0, 0, 0, 0), 0, []), (.bastore, (1, 0, 0, 0, 0, 0), 0, []), (.iinc 2 1, (3, 0, 2, 0, 0, 0), 1, []), (.goto (-16), (3, 1, 6, 0, 0, 0), 0, [])],
  [(.iconst 0, (1, 0, 0, 0, 0, 0), 0, []), (.istore_n 2, (1, 0, 2, 0, 0, 0), 0, []), (.nop, (0, 1, 9, 0, 0, 0), 0, [])],
  [(.iload_n 2, (1, 0, 2, 0, 0, 0), 0, []), (.aload_n 0, (1, 0, 0, 0, 0, 0), 0, []), (.getfield 13, (3, 0, 9, 1, 2045, 0), 0, []), (.if_icmp .ge 46, (3, 1, 14, 10, 0, 0), 0, [])],
  [(.aload_n 0, (1, 0, 0, 0, 0, 0), 0, []), (.invokevirtual 262, (3, 2, 106, 11, 1, 10), 4052, [])],
  [(.istore_n 3, (1, 0, 3, 0, 0, 0), 0, []), (.iload_n 3, (1, 0, 3, 0, 0, 0), 0, []), (.iconst (-1), (1, 0, 0, 0, 0, 0), (-1), []), (.if_icmp .eq 30, (3, 1, 13, 12, 0, 0), 0, [])],
  [(.aload_n 0, (1, 0, 0, 0, 0, 0), 0, []), (.getfield 79, (3, 0, 9, 17, 2061, 1), 0, []), (.iload_n 3, (1, 0, 3, 0, 0, 0), 0, []), (.iconst 1, (1, 0, 0, 0, 0, 0), 1, []), (.bastore, (1, 0, 0, 0, 0, 0), 0, []), (.aload_n 0, (1, 0, 0, 0, 0, 0), 0, []), (.getfield 76, (3, 0, 9, 16, 2060, 1), 0, []), (.aload_n 0, (1, 0, 0, 0, 0, 0), 0, []), (.getfield 16, (3, 0, 9, 2, 2046, 1), 0, []), (.iload_n 2, (1, 0, 2, 0, 0, 0), 0, []), (.iaload, (1, 0, 0, 0, 0, 0), 0, []), (.dup2, (1, 0, 0, 0, 0, 0), 0, []), (.iaload, (1, 0, 0, 0, 0, 0), 0, []), (.aload_n 0, (1, 0, 0, 0, 0, 0), 0, []), (.getfield 20, (3, 0, 9, 3, 2047, 1), 0, []), (.iload_n 3, (1, 0, 3, 0, 0, 0), 0, []), (.iaload, (1, 0, 0, 0, 0, 0), 0, []), (.iadd, (1, 0, 0, 0, 0, 0), 0, []), (.iastore, (1, 0, 0, 0, 0, 0), 0, []), (.nop, (0, 1, 13, 0, 0, 0), 0, [])],
  [(.iinc 2 1, (3, 0, 2, 0, 0, 0), 1, []), (.goto (-48), (3, 1, 9, 0, 0, 0), 0, [])],
  [(.iload_n 1, (1, 0, 1, 0, 0, 0), 0, []), (.iconst (-1), (1, 0, 0, 0, 0, 0), (-1), []), (.if_icmp .ne 17, (3, 1, 17, 15, 0, 0), 0, [])],
  [(.aload_n 0, (1, 0, 0, 0, 0, 0), 0, []), (.getfield 76, (3, 0, 9, 16, 2060, 1), 0, []), (.aload_n 0, (1, 0, 0, 0, 0, 0), 0, []), (.getfield 7, (3, 0, 9, 0, 2044, 0), 0, []), (.invokestatic 265, (3, 2, 107, 16, 2, 0), 4056, [])],
  [(.goto 9, (3, 1, 18, 0, 0, 0), 0, [])],
  [(.aload_n 0, (1, 0, 0, 0, 0, 0), 0, []), (.getfield 76, (3, 0, 9, 16, 2060, 1), 0, []), (.iload_n 1, (1, 0, 1, 0, 0, 0), 0, []), (.iaload, (1, 0, 0, 0, 0, 0), 0, []), (.nop, (0, 1, 18, 0, 0, 0), 0, [])],
  [(.ireturn, (1, 3, 0, 0, 0, 0), 0, [])]]
/-- EvenlyPoured.dearestLeft()I -/
noncomputable def bk_106 : List (List am_P) := [[(.iconst (-1), (1, 0, 0, 0, 0, 0), (-1), []), (.istore_n 1, (1, 0, 1, 0, 0, 0), 0, []), (.iconst 0, (1, 0, 0, 0, 0, 0), 0, []), (.istore_n 2, (1, 0, 2, 0, 0, 0), 0, []), (.nop, (0, 1, 1, 0, 0, 0), 0, [])],
  [(.iload_n 2, (1, 0, 2, 0, 0, 0), 0, []), (.bipush 8, (2, 0, 0, 0, 0, 0), 8, []), (.if_icmp .ge 40, (3, 1, 7, 2, 0, 0), 0, [])],
  [(.aload_n 0, (1, 0, 0, 0, 0, 0), 0, []), (.getfield 79, (3, 0, 9, 17, 2061, 1), 0, []), (.iload_n 2, (1, 0, 2, 0, 0, 0), 0, []), (.baload, (1, 0, 21, 0, 0, 0), 0, []), (.ifCond .ne 25, (3, 1, 6, 3, 0, 0), 0, [])],
  [(.iload_n 1, (1, 0, 1, 0, 0, 0), 0, []), (.iconst (-1), (1, 0, 0, 0, 0, 0), (-1), []), (.if_icmp .eq 18, (3, 1, 5, 4, 0, 0), 0, [])],
  [(.aload_n 0, (1, 0, 0, 0, 0, 0), 0, []), (.getfield 20, (3, 0, 9, 3, 2047, 1), 0, []), (.iload_n 2, (1, 0, 2, 0, 0, 0), 0, []), (.iaload, (1, 0, 0, 0, 0, 0), 0, []), (.aload_n 0, (1, 0, 0, 0, 0, 0), 0, []), (.getfield 20, (3, 0, 9, 3, 2047, 1), 0, []), (.iload_n 1, (1, 0, 1, 0, 0, 0), 0, []), (.iaload, (1, 0, 0, 0, 0, 0), 0, []), (.if_icmp .le 5, (3, 1, 6, 5, 0, 0), 0, [])],
  [(.iload_n 2, (1, 0, 2, 0, 0, 0), 0, []), (.istore_n 1, (1, 0, 1, 0, 0, 0), 0, []), (.nop, (0, 1, 6, 0, 0, 0), 0, [])],
  [(.iinc 2 1, (3, 0, 2, 0, 0, 0), 1, []), (.goto (-40), (3, 1, 1, 0, 0, 0), 0, [])],
  [(.iload_n 1, (1, 0, 1, 0, 0, 0), 0, []), (.ireturn, (1, 3, 0, 0, 0, 0), 0, [])]]
/-- EvenlyPoured.mostLessLeast([II)I -/
noncomputable def bk_107 : List (List am_P) := [[(.aload_n 0, (1, 0, 0, 0, 0, 0), 0, []), (.iconst 0, (1, 0, 0, 0, 0, 0), 0, []), (.iaload, (1, 0, 0, 0, 0, 0), 0, []), (.istore_n 2, (1, 0, 2, 0, 0, 0), 0, []), (.aload_n 0, (1, 0, 0, 0, 0, 0), 0, []), (.iconst 0, (1, 0, 0, 0, 0, 0), 0, []), (.iaload, (1, 0, 0, 0, 0, 0), 0, []), (.istore_n 3, (1, 0, 3, 0, 0, 0), 0, []), (.iconst 1, (1, 0, 0, 0, 0, 0), 1, []), (.istore 4, (2, 0, 4, 0, 0, 0), 0, []), (.nop, (0, 1, 1, 0, 0, 0), 0, [])],
  [(.iload 4, (2, 0, 4, 0, 0, 0), 0, []), (.iload_n 1, (1, 0, 1, 0, 0, 0), 0, []), (.if_icmp .ge 27, (3, 1, 3, 2, 0, 0), 0, [])],
  [(.iload_n 2, (1, 0, 2, 0, 0, 0), 0, []), (.aload_n 0, (1, 0, 0, 0, 0, 0), 0, []), (.iload 4, (2, 0, 4, 0, 0, 0), 0, []), (.iaload, (1, 0, 0, 0, 0, 0), 0, []), (.invokestatic 269, (3, 0, 0, 0, 3146, 1), 0, []), (.istore_n 2, (1, 0, 2, 0, 0, 0), 0, []), (.iload_n 3, (1, 0, 3, 0, 0, 0), 0, []), (.aload_n 0, (1, 0, 0, 0, 0, 0), 0, []), (.iload 4, (2, 0, 4, 0, 0, 0), 0, []), (.iaload, (1, 0, 0, 0, 0, 0), 0, []), (.invokestatic 274, (3, 0, 0, 0, 3147, 2), 0, []), (.istore_n 3, (1, 0, 3, 0, 0, 0), 0, []), (.iinc 4 1, (3, 0, 4, 0, 0, 0), 1, []), (.goto (-27), (3, 1, 1, 0, 0, 0), 0, [])],
  [(.iload_n 2, (1, 0, 2, 0, 0, 0), 0, []), (.iload_n 3, (1, 0, 3, 0, 0, 0), 0, []), (.isub, (1, 0, 0, 0, 0, 0), 0, []), (.ireturn, (1, 3, 0, 0, 0, 0), 0, [])]]
/-- EvenlyPoured.tastes(II)I -/
noncomputable def bk_108 : List (List am_P) := [[(.iload_n 1, (1, 0, 1, 0, 0, 0), 0, []), (.invokestatic 277, (3, 2, 125, 1, 1, 0), 4061, [])],
  [(.ifCond .eq 12, (3, 1, 4, 2, 0, 0), 0, [])],
  [(.iload_n 2, (1, 0, 2, 0, 0, 0), 0, []), (.ifCond .lt 8, (3, 1, 4, 3, 0, 0), 0, [])],
  [(.iload_n 2, (1, 0, 2, 0, 0, 0), 0, []), (.iconst 1, (1, 0, 0, 0, 0, 0), 1, []), (.if_icmp .le 6, (3, 1, 5, 4, 0, 0), 0, [])],
  [(.bipush (-2), (2, 0, 0, 0, 0, 0), (-2), []), (.ireturn, (1, 3, 0, 0, 0, 0), 0, [])],
  [(.aload_n 0, (1, 0, 0, 0, 0, 0), 0, []), (.iload_n 1, (1, 0, 1, 0, 0, 0), 0, []), (.invokevirtual 280, (3, 2, 111, 6, 2, 10), 4064, [])],
  [(.istore_n 3, (1, 0, 3, 0, 0, 0), 0, []), (.iload_n 3, (1, 0, 3, 0, 0, 0), 0, []), (.ifCond .eq 5, (3, 1, 8, 7, 0, 0), 0, [])],
  [(.iload_n 3, (1, 0, 3, 0, 0, 0), 0, []), (.ireturn, (1, 3, 0, 0, 0, 0), 0, [])],
  [(.aload_n 0, (1, 0, 0, 0, 0, 0), 0, []), (.getfield 13, (3, 0, 9, 1, 2045, 0), 0, []), (.bipush 9, (2, 0, 0, 0, 0, 0), 9, []), (.if_icmp .gt 10, (3, 1, 11, 9, 0, 0), 0, [])],
  [(.aload_n 0, (1, 0, 0, 0, 0, 0), 0, []), (.invokevirtual 201, (3, 2, 97, 10, 1, 10), 3183, [])],
  [(.ifCond .ne 6, (3, 1, 12, 11, 0, 0), 0, [])],
  [(.bipush (-3), (2, 0, 0, 0, 0, 0), (-3), []), (.ireturn, (1, 3, 0, 0, 0, 0), 0, [])],
  [(.aload_n 0, (1, 0, 0, 0, 0, 0), 0, []), (.getfield 105, (3, 0, 9, 14, 2058, 1), 0, []), (.aload_n 0, (1, 0, 0, 0, 0, 0), 0, []), (.getfield 41, (3, 0, 9, 8, 2052, 0), 0, []), (.aload_n 0, (1, 0, 0, 0, 0, 0), 0, []), (.getfield 34, (3, 0, 9, 6, 2050, 1), 0, []), (.aload_n 0, (1, 0, 0, 0, 0, 0), 0, []), (.getfield 41, (3, 0, 9, 8, 2052, 0), 0, []), (.aaload, (1, 0, 23, 0, 0, 0), 0, []), (.nop, (0, 1, 13, 0, 0, 0), 0, [])],
  [(.aload_n 0, (1, 0, 0, 0, 0, 0), 0, []), (.getfield 7, (3, 0, 9, 0, 2044, 0), 0, []), (.aload_n 0, (1, 0, 0, 0, 0, 0), 0, []), (.getfield 13, (3, 0, 9, 1, 2045, 0), 0, []), (.invokevirtual 249, (3, 2, 26, 14, 5, 5), 3192, [])],
  [(.aload_n 0, (1, 0, 0, 0, 0, 0), 0, []), (.getfield 105, (3, 0, 9, 14, 2058, 1), 0, []), (.aload_n 0, (1, 0, 0, 0, 0, 0), 0, []), (.getfield 62, (3, 0, 9, 11, 2055, 1), 0, []), (.iload_n 1, (1, 0, 1, 0, 0, 0), 0, []), (.aaload, (1, 0, 24, 0, 0, 0), 0, []), (.nop, (0, 1, 15, 0, 0, 0), 0, [])],
  [(.getfield 283, (3, 0, 5, 2, 1161, 1), 0, []), (.nop, (0, 1, 16, 0, 0, 0), 0, [])],
  [(.invokevirtual 286, (3, 2, 36, 17, 2, 5), 4072, [])],
  [(.iload_n 2, (1, 0, 2, 0, 0, 0), 0, []), (.ifCond .ne 13, (3, 1, 19, 18, 0, 0), 0, [])],
  [(.aload_n 0, (1, 0, 0, 0, 0, 0), 0, []), (.getfield 105, (3, 0, 9, 14, 2058, 1), 0, []), (.getfield 290, (3, 0, 4, 15, 2006, 0), 0, []), (.goto 10, (3, 1, 20, 0, 0, 0), 0, [])],
  [(.aload_n 0, (1, 0, 0, 0, 0, 0), 0, []), (.getfield 105, (3, 0, 9, 14, 2058, 1), 0, []), (.getfield 293, (3, 0, 4, 16, 2008, 0), 0, []), (.nop, (0, 1, 20, 0, 0, 0), 0, [])],
  [(.ireturn, (1, 3, 0, 0, 0, 0), 0, [])]]
/-- EvenlyPoured.whom(I)I -/
noncomputable def bk_109 : List (List am_P) := [[(.iload_n 1, (1, 0, 1, 0, 0, 0), 0, []), (.invokestatic 277, (3, 2, 125, 1, 1, 0), 4061, [])],
  [(.ifCond .ne 6, (3, 1, 3, 2, 0, 0), 0, [])],
  [(.bipush (-2), (2, 0, 0, 0, 0, 0), (-2), []), (.ireturn, (1, 3, 0, 0, 0, 0), 0, [])],
  [(.aload_n 0, (1, 0, 0, 0, 0, 0), 0, []), (.iload_n 1, (1, 0, 1, 0, 0, 0), 0, []), (.invokevirtual 280, (3, 2, 111, 4, 2, 10), 4064, [])],
  [(.istore_n 2, (1, 0, 2, 0, 0, 0), 0, []), (.iload_n 2, (1, 0, 2, 0, 0, 0), 0, []), (.ifCond .eq 5, (3, 1, 6, 5, 0, 0), 0, [])],
  [(.iload_n 2, (1, 0, 2, 0, 0, 0), 0, []), (.ireturn, (1, 3, 0, 0, 0, 0), 0, [])],
  [(.iconst 0, (1, 0, 0, 0, 0, 0), 0, []), (.istore_n 3, (1, 0, 3, 0, 0, 0), 0, []), (.iconst 0, (1, 0, 0, 0, 0, 0), 0, []), (.istore 4, (2, 0, 4, 0, 0, 0), 0, []), (.nop, (0, 1, 7, 0, 0, 0), 0, [])],
  [(.iload 4, (2, 0, 4, 0, 0, 0), 0, []), (.aload_n 0, (1, 0, 0, 0, 0, 0), 0, []), (.getfield 29, (3, 0, 9, 5, 2049, 0), 0, []), (.if_icmp .ge 44, (3, 1, 16, 8, 0, 0), 0, [])],
  [(.aload_n 0, (1, 0, 0, 0, 0, 0), 0, []), (.aload_n 0, (1, 0, 0, 0, 0, 0), 0, []), (.getfield 25, (3, 0, 9, 4, 2048, 1), 0, []), (.iload 4, (2, 0, 4, 0, 0, 0), 0, []), (.aaload, (1, 0, 22, 0, 0, 0), 0, []), (.nop, (0, 1, 9, 0, 0, 0), 0, [])],
  [(.invokevirtual 254, (3, 2, 104, 10, 2, 10), 4022, [])],
  [(.aload_n 0, (1, 0, 0, 0, 0, 0), 0, []), (.aload_n 0, (1, 0, 0, 0, 0, 0), 0, []), (.getfield 62, (3, 0, 9, 11, 2055, 1), 0, []), (.iload_n 1, (1, 0, 1, 0, 0, 0), 0, []), (.aaload, (1, 0, 24, 0, 0, 0), 0, []), (.nop, (0, 1, 11, 0, 0, 0), 0, [])],
  [(.getfield 283, (3, 0, 5, 2, 1161, 1), 0, []), (.nop, (0, 1, 12, 0, 0, 0), 0, [])],
  [(.iconst (-1), (1, 0, 0, 0, 0, 0), (-1), []), (.invokevirtual 296, (3, 2, 112, 13, 3, 10), 4088, [])],
  [(.ifCond .eq 10, (3, 1, 15, 14, 0, 0), 0, [])],
  [(.iload_n 3, (1, 0, 3, 0, 0, 0), 0, []), (.iconst 1, (1, 0, 0, 0, 0, 0), 1, []), (.iload 4, (2, 0, 4, 0, 0, 0), 0, []), (.ishl, (1, 0, 0, 0, 0, 0), 0, []), (.ior, (1, 0, 0, 0, 0, 0), 0, []), (.istore_n 3, (1, 0, 3, 0, 0, 0), 0, []), (.nop, (0, 1, 15, 0, 0, 0), 0, [])],
  [(.iinc 4 1, (3, 0, 4, 0, 0, 0), 1, []), (.goto (-47), (3, 1, 7, 0, 0, 0), 0, [])],
  [(.iload_n 3, (1, 0, 3, 0, 0, 0), 0, []), (.ireturn, (1, 3, 0, 0, 0, 0), 0, [])]]
/-- EvenlyPoured.forgotten(I)I -/
noncomputable def bk_110 : List (List am_P) := [[(.iload_n 1, (1, 0, 1, 0, 0, 0), 0, []), (.invokestatic 277, (3, 2, 125, 1, 1, 0), 4061, [])],
  [(.ifCond .ne 6, (3, 1, 3, 2, 0, 0), 0, [])],
  [(.bipush (-2), (2, 0, 0, 0, 0, 0), (-2), []), (.ireturn, (1, 3, 0, 0, 0, 0), 0, [])],
  [(.aload_n 0, (1, 0, 0, 0, 0, 0), 0, []), (.iload_n 1, (1, 0, 1, 0, 0, 0), 0, []), (.invokevirtual 280, (3, 2, 111, 4, 2, 10), 4064, [])],
  [(.istore_n 2, (1, 0, 2, 0, 0, 0), 0, []), (.iload_n 2, (1, 0, 2, 0, 0, 0), 0, []), (.ifCond .eq 5, (3, 1, 6, 5, 0, 0), 0, [])],
  [(.iload_n 2, (1, 0, 2, 0, 0, 0), 0, []), (.ireturn, (1, 3, 0, 0, 0, 0), 0, [])],
  [(.iconst 0, (1, 0, 0, 0, 0, 0), 0, []), (.istore_n 3, (1, 0, 3, 0, 0, 0), 0, []), (.nop, (0, 1, 7, 0, 0, 0), 0, [])],
  [(.iload_n 3, (1, 0, 3, 0, 0, 0), 0, []), (.aload_n 0, (1, 0, 0, 0, 0, 0), 0, []), (.getfield 7, (3, 0, 9, 0, 2044, 0), 0, []), (.if_icmp .ge 33, (3, 1, 15, 8, 0, 0), 0, [])],
  [(.aload_n 0, (1, 0, 0, 0, 0, 0), 0, []), (.iload_n 3, (1, 0, 3, 0, 0, 0), 0, []), (.invokevirtual 238, (3, 2, 93, 9, 2, 10), 3080, [])],
  [(.aload_n 0, (1, 0, 0, 0, 0, 0), 0, []), (.aload_n 0, (1, 0, 0, 0, 0, 0), 0, []), (.getfield 62, (3, 0, 9, 11, 2055, 1), 0, []), (.iload_n 1, (1, 0, 1, 0, 0, 0), 0, []), (.aaload, (1, 0, 24, 0, 0, 0), 0, []), (.nop, (0, 1, 10, 0, 0, 0), 0, [])],
  [(.getfield 283, (3, 0, 5, 2, 1161, 1), 0, []), (.nop, (0, 1, 11, 0, 0, 0), 0, [])],
  [(.iload_n 3, (1, 0, 3, 0, 0, 0), 0, []), (.invokevirtual 296, (3, 2, 112, 12, 3, 10), 4088, [])],
  [(.ifCond .eq 5, (3, 1, 14, 13, 0, 0), 0, [])],
  [(.iload_n 3, (1, 0, 3, 0, 0, 0), 0, []), (.ireturn, (1, 3, 0, 0, 0, 0), 0, [])],
  [(.iinc 3 1, (3, 0, 3, 0, 0, 0), 1, []), (.goto (-35), (3, 1, 7, 0, 0, 0), 0, [])],
  [(.iconst (-1), (1, 0, 0, 0, 0, 0), (-1), []), (.ireturn, (1, 3, 0, 0, 0, 0), 0, [])]]
/-- EvenlyPoured.notTasted(I)I -/
noncomputable def bk_111 : List (List am_P) := [[(.aload_n 0, (1, 0, 0, 0, 0, 0), 0, []), (.getfield 62, (3, 0, 9, 11, 2055, 1), 0, []), (.iload_n 1, (1, 0, 1, 0, 0, 0), 0, []), (.aaload, (1, 0, 24, 0, 0, 0), 0, []), (.nop, (0, 1, 1, 0, 0, 0), 0, [])],
  [(.invokevirtual 300, (3, 2, 41, 2, 1, 6), 4068, [])],
  [(.ifCond .eq 6, (3, 1, 4, 3, 0, 0), 0, [])],
  [(.bipush (-11), (2, 0, 0, 0, 0, 0), (-11), []), (.ireturn, (1, 3, 0, 0, 0, 0), 0, [])],
  [(.aload_n 0, (1, 0, 0, 0, 0, 0), 0, []), (.getfield 62, (3, 0, 9, 11, 2055, 1), 0, []), (.iload_n 1, (1, 0, 1, 0, 0, 0), 0, []), (.aaload, (1, 0, 24, 0, 0, 0), 0, []), (.nop, (0, 1, 5, 0, 0, 0), 0, [])],
  [(.getfield 303, (3, 0, 5, 1, 1159, 0), 0, []), (.aload_n 0, (1, 0, 0, 0, 0, 0), 0, []), (.getfield 7, (3, 0, 9, 0, 2044, 0), 0, []), (.if_icmp .ne 7, (3, 1, 7, 6, 0, 0), 0, [])],
  [(.iconst 0, (1, 0, 0, 0, 0, 0), 0, []), (.goto 5, (3, 1, 8, 0, 0, 0), 0, [])],
  [(.bipush (-2), (2, 0, 0, 0, 0, 0), (-2), []), (.nop, (0, 1, 8, 0, 0, 0), 0, [])],
  [(.ireturn, (1, 3, 0, 0, 0, 0), 0, [])]]
/-- EvenlyPoured.tastesAsTold([II)Z -/
noncomputable def bk_112 : List (List am_P) := [[(.iconst 0, (1, 0, 0, 0, 0, 0), 0, []), (.istore_n 3, (1, 0, 3, 0, 0, 0), 0, []), (.nop, (0, 1, 1, 0, 0, 0), 0, [])],
  [(.iload_n 3, (1, 0, 3, 0, 0, 0), 0, []), (.aload_n 0, (1, 0, 0, 0, 0, 0), 0, []), (.getfield 7, (3, 0, 9, 0, 2044, 0), 0, []), (.if_icmp .ge 31, (3, 1, 6, 2, 0, 0), 0, [])],
  [(.iload_n 3, (1, 0, 3, 0, 0, 0), 0, []), (.iload_n 2, (1, 0, 2, 0, 0, 0), 0, []), (.if_icmp .eq 20, (3, 1, 5, 3, 0, 0), 0, [])],
  [(.aload_n 0, (1, 0, 0, 0, 0, 0), 0, []), (.getfield 98, (3, 0, 9, 13, 2057, 1), 0, []), (.getfield 171, (3, 0, 2, 2, 1195, 1), 0, []), (.iload_n 3, (1, 0, 3, 0, 0, 0), 0, []), (.iaload, (1, 0, 0, 0, 0, 0), 0, []), (.aload_n 1, (1, 0, 1, 0, 0, 0), 0, []), (.iload_n 3, (1, 0, 3, 0, 0, 0), 0, []), (.iaload, (1, 0, 0, 0, 0, 0), 0, []), (.if_icmp .eq 5, (3, 1, 5, 4, 0, 0), 0, [])],
  [(.iconst 0, (1, 0, 0, 0, 0, 0), 0, []), (.ireturn, (1, 3, 0, 0, 0, 1), 0, [])],
  [(.iinc 3 1, (3, 0, 3, 0, 0, 0), 1, []), (.goto (-33), (3, 1, 1, 0, 0, 0), 0, [])],
  [(.iconst 1, (1, 0, 0, 0, 0, 0), 1, []), (.ireturn, (1, 3, 0, 0, 0, 1), 0, [])]]
/-- EvenlyPoured.drawn(II)I -/
noncomputable def bk_113 : List (List am_P) := [[(.iload_n 2, (1, 0, 2, 0, 0, 0), 0, []), (.invokestatic 304, (3, 2, 115, 1, 1, 0), 4100, [])],
  [(.ifCond .eq 12, (3, 1, 4, 2, 0, 0), 0, [])],
  [(.aload_n 0, (1, 0, 0, 0, 0, 0), 0, []), (.iload_n 1, (1, 0, 1, 0, 0, 0), 0, []), (.iload_n 2, (1, 0, 2, 0, 0, 0), 0, []), (.invokevirtual 307, (3, 2, 116, 3, 3, 10), 4103, [])],
  [(.goto 5, (3, 1, 5, 0, 0, 0), 0, [])],
  [(.bipush (-2), (2, 0, 0, 0, 0, 0), (-2), []), (.nop, (0, 1, 5, 0, 0, 0), 0, [])],
  [(.ireturn, (1, 3, 0, 0, 0, 0), 0, [])]]
/-- EvenlyPoured.chance(IIII)J -/
noncomputable def bk_114 : List (List am_P) := [[(.iload_n 2, (1, 0, 2, 0, 0, 0), 0, []), (.iconst 1, (1, 0, 0, 0, 0, 0), 1, []), (.if_icmp .lt 24, (3, 1, 6, 1, 0, 0), 0, [])],
  [(.iload_n 2, (1, 0, 2, 0, 0, 0), 0, []), (.bipush 20, (2, 0, 0, 0, 0, 0), 20, []), (.if_icmp .gt 18, (3, 1, 6, 2, 0, 0), 0, [])],
  [(.iload_n 3, (1, 0, 3, 0, 0, 0), 0, []), (.invokestatic 304, (3, 2, 115, 3, 1, 0), 4100, [])],
  [(.ifCond .eq 11, (3, 1, 6, 4, 0, 0), 0, [])],
  [(.iload 4, (2, 0, 4, 0, 0, 0), 0, []), (.invokestatic 192, (3, 2, 99, 5, 1, 0), 3172, [])],
  [(.ifCond .ne 7, (3, 1, 7, 6, 0, 0), 0, [])],
  [(.ldc2_w 195, (3, 0, 100000, 0, 3175, 0), 0, []), (.lreturn, (1, 3, 0, 0, 0, 0), 0, [])],
  [(.lconst 0, (1, 0, 0, 0, 0, 0), 0, []), (.lstore 5, (2, 0, 5, 0, 0, 0), 0, []), (.iconst 0, (1, 0, 0, 0, 0, 0), 0, []), (.istore 7, (2, 0, 7, 0, 0, 0), 0, []), (.nop, (0, 1, 8, 0, 0, 0), 0, [])],
  [(.iload 7, (2, 0, 7, 0, 0, 0), 0, []), (.iload_n 2, (1, 0, 2, 0, 0, 0), 0, []), (.if_icmp .ge 24, (3, 1, 11, 9, 0, 0), 0, [])],
  [(.lload 5, (2, 0, 5, 0, 0, 0), 0, []), (.aload_n 0, (1, 0, 0, 0, 0, 0), 0, []), (.iload_n 1, (1, 0, 1, 0, 0, 0), 0, []), (.iload 7, (2, 0, 7, 0, 0, 0), 0, []), (.iadd, (1, 0, 0, 0, 0, 0), 0, []), (.iload_n 3, (1, 0, 3, 0, 0, 0), 0, []), (.invokevirtual 307, (3, 2, 116, 10, 3, 10), 4103, [])],
  [(.i2l, (1, 0, 0, 0, 0, 0), 0, []), (.ladd, (1, 0, 0, 0, 0, 0), 0, []), (.lstore 5, (2, 0, 5, 0, 0, 0), 0, []), (.iinc 7 1, (3, 0, 7, 0, 0, 0), 1, []), (.goto (-24), (3, 1, 8, 0, 0, 0), 0, [])],
  [(.lload 5, (2, 0, 5, 0, 0, 0), 0, []), (.iload_n 2, (1, 0, 2, 0, 0, 0), 0, []), (.i2l, (1, 0, 0, 0, 0, 0), 0, []), (.iload 4, (2, 0, 4, 0, 0, 0), 0, []), (.invokestatic 197, (3, 2, 100, 12, 3, 0), 3176, [])],
  [(.lreturn, (1, 3, 0, 0, 0, 0), 0, [])]]
/-- EvenlyPoured.isOff(I)Z -/
noncomputable def bk_115 : List (List am_P) := [[(.iload_n 0, (1, 0, 0, 0, 0, 0), 0, []), (.ifCond .lt 13, (3, 1, 3, 1, 0, 0), 0, [])],
  [(.iload_n 0, (1, 0, 0, 0, 0, 0), 0, []), (.bipush 20, (2, 0, 0, 0, 0, 0), 20, []), (.if_icmp .gt 7, (3, 1, 3, 2, 0, 0), 0, [])],
  [(.iconst 1, (1, 0, 0, 0, 0, 0), 1, []), (.goto 4, (3, 1, 4, 0, 0, 0), 0, [])],
  [(.iconst 0, (1, 0, 0, 0, 0, 0), 0, []), (.nop, (0, 1, 4, 0, 0, 0), 0, [])],
  [(.ireturn, (1, 3, 0, 0, 0, 1), 0, [])]]
/-- EvenlyPoured.unevenByLot(II)I -/
noncomputable def bk_116 : List (List am_P) := [[(.iload_n 1, (1, 0, 1, 0, 0, 0), 0, []), (.istore_n 3, (1, 0, 3, 0, 0, 0), 0, []), (.aload_n 0, (1, 0, 0, 0, 0, 0), 0, []), (.getfield 98, (3, 0, 9, 13, 2057, 1), 0, []), (.aload_n 0, (1, 0, 0, 0, 0, 0), 0, []), (.getfield 34, (3, 0, 9, 6, 2050, 1), 0, []), (.aload_n 0, (1, 0, 0, 0, 0, 0), 0, []), (.getfield 41, (3, 0, 9, 8, 2052, 0), 0, []), (.aaload, (1, 0, 23, 0, 0, 0), 0, []), (.nop, (0, 1, 1, 0, 0, 0), 0, [])],
  [(.aload_n 0, (1, 0, 0, 0, 0, 0), 0, []), (.getfield 7, (3, 0, 9, 0, 2044, 0), 0, []), (.aload_n 0, (1, 0, 0, 0, 0, 0), 0, []), (.getfield 13, (3, 0, 9, 1, 2045, 0), 0, []), (.invokevirtual 230, (3, 2, 8, 2, 4, 3), 3084, [])],
  [(.iconst 0, (1, 0, 0, 0, 0, 0), 0, []), (.istore 4, (2, 0, 4, 0, 0, 0), 0, []), (.nop, (0, 1, 3, 0, 0, 0), 0, [])],
  [(.iload 4, (2, 0, 4, 0, 0, 0), 0, []), (.aload_n 0, (1, 0, 0, 0, 0, 0), 0, []), (.getfield 13, (3, 0, 9, 1, 2045, 0), 0, []), (.if_icmp .ge 43, (3, 1, 6, 4, 0, 0), 0, [])],
  [(.iload_n 3, (1, 0, 3, 0, 0, 0), 0, []), (.ldc_w 310, (3, 0, 0, 0, 4107, 0), 1103515245, []), (.imul, (1, 0, 0, 0, 0, 0), 0, []), (.sipush 12345, (3, 0, 0, 0, 0, 0), 12345, []), (.iadd, (1, 0, 0, 0, 0, 0), 0, []), (.istore_n 3, (1, 0, 3, 0, 0, 0), 0, []), (.aload_n 0, (1, 0, 0, 0, 0, 0), 0, []), (.getfield 98, (3, 0, 9, 13, 2057, 1), 0, []), (.iload 4, (2, 0, 4, 0, 0, 0), 0, []), (.aload_n 0, (1, 0, 0, 0, 0, 0), 0, []), (.getfield 16, (3, 0, 9, 2, 2046, 1), 0, []), (.iload 4, (2, 0, 4, 0, 0, 0), 0, []), (.iaload, (1, 0, 0, 0, 0, 0), 0, []), (.iload_n 3, (1, 0, 3, 0, 0, 0), 0, []), (.bipush 10, (2, 0, 0, 0, 0, 0), 10, []), (.iushr, (1, 0, 0, 0, 0, 0), 0, []), (.iload_n 2, (1, 0, 2, 0, 0, 0), 0, []), (.iconst 1, (1, 0, 0, 0, 0, 0), 1, []), (.iadd, (1, 0, 0, 0, 0, 0), 0, []), (.irem, (1, 0, 0, 0, 0, 0), 0, []), (.invokevirtual 234, (3, 2, 9, 5, 4, 3), 3093, [])],
  [(.iinc 4 1, (3, 0, 4, 0, 0, 0), 1, []), (.goto (-46), (3, 1, 3, 0, 0, 0), 0, [])],
  [(.aload_n 0, (1, 0, 0, 0, 0, 0), 0, []), (.getfield 98, (3, 0, 9, 13, 2057, 1), 0, []), (.invokevirtual 177, (3, 2, 10, 7, 1, 3), 3139, [])],
  [(.ireturn, (1, 3, 0, 0, 0, 0), 0, [])]]
/-- EvenlyPoured.image()I -/
noncomputable def bk_117 : List (List am_P) := [[(.aload_n 0, (1, 0, 0, 0, 0, 0), 0, []), (.getfield 69, (3, 0, 9, 12, 2056, 1), 0, []), (.iconst 1, (1, 0, 0, 0, 0, 0), 1, []), (.putfield 311, (3, 0, 0, 0, 1090, 3), 0, []), (.aload_n 0, (1, 0, 0, 0, 0, 0), 0, []), (.getfield 69, (3, 0, 9, 12, 2056, 1), 0, []), (.aload_n 0, (1, 0, 0, 0, 0, 0), 0, []), (.getfield 7, (3, 0, 9, 0, 2044, 0), 0, []), (.putfield 315, (3, 0, 0, 1, 1091, 0), 0, []), (.aload_n 0, (1, 0, 0, 0, 0, 0), 0, []), (.getfield 69, (3, 0, 9, 12, 2056, 1), 0, []), (.aload_n 0, (1, 0, 0, 0, 0, 0), 0, []), (.getfield 13, (3, 0, 9, 1, 2045, 0), 0, []), (.putfield 316, (3, 0, 0, 2, 1092, 0), 0, []), (.aload_n 0, (1, 0, 0, 0, 0, 0), 0, []), (.getfield 69, (3, 0, 9, 12, 2056, 1), 0, []), (.aload_n 0, (1, 0, 0, 0, 0, 0), 0, []), (.getfield 29, (3, 0, 9, 5, 2049, 0), 0, []), (.putfield 317, (3, 0, 0, 3, 1093, 0), 0, []), (.aload_n 0, (1, 0, 0, 0, 0, 0), 0, []), (.getfield 69, (3, 0, 9, 12, 2056, 1), 0, []), (.aload_n 0, (1, 0, 0, 0, 0, 0), 0, []), (.getfield 41, (3, 0, 9, 8, 2052, 0), 0, []), (.putfield 319, (3, 0, 0, 4, 1094, 0), 0, []), (.aload_n 0, (1, 0, 0, 0, 0, 0), 0, []), (.getfield 16, (3, 0, 9, 2, 2046, 1), 0, []), (.iconst 0, (1, 0, 0, 0, 0, 0), 0, []), (.aload_n 0, (1, 0, 0, 0, 0, 0), 0, []), (.getfield 69, (3, 0, 9, 12, 2056, 1), 0, []), (.getfield 320, (3, 0, 0, 5, 1096, 1), 0, []), (.iconst 0, (1, 0, 0, 0, 0, 0), 0, []), (.bipush 24, (2, 0, 0, 0, 0, 0), 24, []), (.invokestatic 217, (3, 0, 0, 0, 4000, 0), 0, []), (.aload_n 0, (1, 0, 0, 0, 0, 0), 0, []), (.getfield 20, (3, 0, 9, 3, 2047, 1), 0, []), (.iconst 0, (1, 0, 0, 0, 0, 0), 0, []), (.aload_n 0, (1, 0, 0, 0, 0, 0), 0, []), (.getfield 69, (3, 0, 9, 12, 2056, 1), 0, []), (.getfield 321, (3, 0, 0, 6, 1098, 1), 0, []), (.iconst 0, (1, 0, 0, 0, 0, 0), 0, []), (.bipush 8, (2, 0, 0, 0, 0, 0), 8, []), (.invokestatic 217, (3, 0, 0, 0, 4000, 0), 0, []), (.iconst 0, (1, 0, 0, 0, 0, 0), 0, []), (.istore_n 1, (1, 0, 1, 0, 0, 0), 0, []), (.nop, (0, 1, 1, 0, 0, 0), 0, [])],
  [(.iload_n 1, (1, 0, 1, 0, 0, 0), 0, []), (.aload_n 0, (1, 0, 0, 0, 0, 0), 0, []), (.getfield 29, (3, 0, 9, 5, 2049, 0), 0, []), (.if_icmp .ge 27, (3, 1, 4, 2, 0, 0), 0, [])],
  [(.aload_n 0, (1, 0, 0, 0, 0, 0), 0, []), (.getfield 69, (3, 0, 9, 12, 2056, 1), 0, []), (.getfield 322, (3, 0, 0, 7, 1100, 1), 0, []), (.iload_n 1, (1, 0, 1, 0, 0, 0), 0, []), (.aload_n 0, (1, 0, 0, 0, 0, 0), 0, []), (.getfield 25, (3, 0, 9, 4, 2048, 1), 0, []), (.iload_n 1, (1, 0, 1, 0, 0, 0), 0, []), (.aaload, (1, 0, 22, 0, 0, 0), 0, []), (.nop, (0, 1, 3, 0, 0, 0), 0, [])],
  [(.getfield 133, (3, 0, 1, 1, 1145, 0), 0, []), (.iastore, (1, 0, 0, 0, 0, 0), 0, []), (.iinc 1 1, (3, 0, 1, 0, 0, 0), 1, []), (.goto (-29), (3, 1, 1, 0, 0, 0), 0, [])],
  [(.aload_n 0, (1, 0, 0, 0, 0, 0), 0, []), (.getfield 13, (3, 0, 9, 1, 2045, 0), 0, []), (.ireturn, (1, 3, 0, 0, 0, 0), 0, [])]]
/-- EvenlyPoured.back()I -/
noncomputable def bk_118 : List (List am_P) := [[(.aload_n 0, (1, 0, 0, 0, 0, 0), 0, []), (.getfield 69, (3, 0, 9, 12, 2056, 1), 0, []), (.getfield 311, (3, 0, 0, 0, 1090, 3), 0, []), (.ifCond .ne 6, (3, 1, 2, 1, 0, 0), 0, [])],
  [(.bipush (-3), (2, 0, 0, 0, 0, 0), (-3), []), (.ireturn, (1, 3, 0, 0, 0, 0), 0, [])],
  [(.aload_n 0, (1, 0, 0, 0, 0, 0), 0, []), (.aload_n 0, (1, 0, 0, 0, 0, 0), 0, []), (.getfield 69, (3, 0, 9, 12, 2056, 1), 0, []), (.getfield 315, (3, 0, 0, 1, 1091, 0), 0, []), (.putfield 7, (3, 0, 9, 0, 2044, 0), 0, []), (.aload_n 0, (1, 0, 0, 0, 0, 0), 0, []), (.aload_n 0, (1, 0, 0, 0, 0, 0), 0, []), (.getfield 69, (3, 0, 9, 12, 2056, 1), 0, []), (.getfield 316, (3, 0, 0, 2, 1092, 0), 0, []), (.putfield 13, (3, 0, 9, 1, 2045, 0), 0, []), (.aload_n 0, (1, 0, 0, 0, 0, 0), 0, []), (.aload_n 0, (1, 0, 0, 0, 0, 0), 0, []), (.getfield 69, (3, 0, 9, 12, 2056, 1), 0, []), (.getfield 319, (3, 0, 0, 4, 1094, 0), 0, []), (.putfield 41, (3, 0, 9, 8, 2052, 0), 0, []), (.aload_n 0, (1, 0, 0, 0, 0, 0), 0, []), (.getfield 69, (3, 0, 9, 12, 2056, 1), 0, []), (.getfield 320, (3, 0, 0, 5, 1096, 1), 0, []), (.iconst 0, (1, 0, 0, 0, 0, 0), 0, []), (.aload_n 0, (1, 0, 0, 0, 0, 0), 0, []), (.getfield 16, (3, 0, 9, 2, 2046, 1), 0, []), (.iconst 0, (1, 0, 0, 0, 0, 0), 0, []), (.bipush 24, (2, 0, 0, 0, 0, 0), 24, []), (.invokestatic 217, (3, 0, 0, 0, 4000, 0), 0, []), (.aload_n 0, (1, 0, 0, 0, 0, 0), 0, []), (.getfield 69, (3, 0, 9, 12, 2056, 1), 0, []), (.getfield 321, (3, 0, 0, 6, 1098, 1), 0, []), (.iconst 0, (1, 0, 0, 0, 0, 0), 0, []), (.aload_n 0, (1, 0, 0, 0, 0, 0), 0, []), (.getfield 20, (3, 0, 9, 3, 2047, 1), 0, []), (.iconst 0, (1, 0, 0, 0, 0, 0), 0, []), (.bipush 8, (2, 0, 0, 0, 0, 0), 8, []), (.invokestatic 217, (3, 0, 0, 0, 4000, 0), 0, []), (.aload_n 0, (1, 0, 0, 0, 0, 0), 0, []), (.aload_n 0, (1, 0, 0, 0, 0, 0), 0, []), (.getfield 69, (3, 0, 9, 12, 2056, 1), 0, []), (.getfield 317, (3, 0, 0, 3, 1093, 0), 0, []), (.putfield 29, (3, 0, 9, 5, 2049, 0), 0, []), (.iconst 0, (1, 0, 0, 0, 0, 0), 0, []), (.istore_n 1, (1, 0, 1, 0, 0, 0), 0, []), (.nop, (0, 1, 3, 0, 0, 0), 0, [])],
  [(.iload_n 1, (1, 0, 1, 0, 0, 0), 0, []), (.aload_n 0, (1, 0, 0, 0, 0, 0), 0, []), (.getfield 29, (3, 0, 9, 5, 2049, 0), 0, []), (.if_icmp .ge 27, (3, 1, 6, 4, 0, 0), 0, [])],
  [(.aload_n 0, (1, 0, 0, 0, 0, 0), 0, []), (.getfield 25, (3, 0, 9, 4, 2048, 1), 0, []), (.iload_n 1, (1, 0, 1, 0, 0, 0), 0, []), (.aaload, (1, 0, 22, 0, 0, 0), 0, []), (.nop, (0, 1, 5, 0, 0, 0), 0, [])],
  [(.aload_n 0, (1, 0, 0, 0, 0, 0), 0, []), (.getfield 69, (3, 0, 9, 12, 2056, 1), 0, []), (.getfield 322, (3, 0, 0, 7, 1100, 1), 0, []), (.iload_n 1, (1, 0, 1, 0, 0, 0), 0, []), (.iaload, (1, 0, 0, 0, 0, 0), 0, []), (.putfield 133, (3, 0, 1, 1, 1145, 0), 0, []), (.iinc 1 1, (3, 0, 1, 0, 0, 0), 1, []), (.goto (-29), (3, 1, 3, 0, 0, 0), 0, [])],
  [(.aload_n 0, (1, 0, 0, 0, 0, 0), 0, []), (.getfield 13, (3, 0, 9, 1, 2045, 0), 0, []), (.ireturn, (1, 3, 0, 0, 0, 0), 0, [])]]
/-- EvenlyPoured.count(I)I -/
noncomputable def bk_119 : List (List am_P) := [[(.iload_n 1, (1, 0, 1, 0, 0, 0), 0, []), (.tableswitch 72 0 5 #[39, 44, 49, 54, 59, 67], (39, 1, 0, 7, 0, 0), 0, [(0, 1), (1, 2), (2, 3), (3, 4), (4, 5), (5, 6)])],
  [(.aload_n 0, (1, 0, 0, 0, 0, 0), 0, []), (.getfield 7, (3, 0, 9, 0, 2044, 0), 0, []), (.ireturn, (1, 3, 0, 0, 0, 0), 0, [])],
  [(.aload_n 0, (1, 0, 0, 0, 0, 0), 0, []), (.getfield 13, (3, 0, 9, 1, 2045, 0), 0, []), (.ireturn, (1, 3, 0, 0, 0, 0), 0, [])],
  [(.aload_n 0, (1, 0, 0, 0, 0, 0), 0, []), (.getfield 29, (3, 0, 9, 5, 2049, 0), 0, []), (.ireturn, (1, 3, 0, 0, 0, 0), 0, [])],
  [(.aload_n 0, (1, 0, 0, 0, 0, 0), 0, []), (.getfield 38, (3, 0, 9, 7, 2051, 0), 0, []), (.ireturn, (1, 3, 0, 0, 0, 0), 0, [])],
  [(.aload_n 0, (1, 0, 0, 0, 0, 0), 0, []), (.getfield 47, (3, 0, 9, 9, 2053, 1), 0, []), (.getfield 151, (3, 0, 6, 1, 1040, 0), 0, []), (.ireturn, (1, 3, 0, 0, 0, 0), 0, [])],
  [(.aload_n 0, (1, 0, 0, 0, 0, 0), 0, []), (.getfield 41, (3, 0, 9, 8, 2052, 0), 0, []), (.ireturn, (1, 3, 0, 0, 0, 0), 0, [])],
  [(.bipush (-2), (2, 0, 0, 0, 0, 0), (-2), []), (.ireturn, (1, 3, 0, 0, 0, 0), 0, [])]]
/-- EvenlyPoured.sheet(III)I -/
noncomputable def bk_120 : List (List am_P) := [[(.iload_n 1, (1, 0, 1, 0, 0, 0), 0, []), (.invokestatic 277, (3, 2, 125, 1, 1, 0), 4061, [])],
  [(.ifCond .eq 15, (3, 1, 5, 2, 0, 0), 0, [])],
  [(.iload_n 2, (1, 0, 2, 0, 0, 0), 0, []), (.iconst (-1), (1, 0, 0, 0, 0, 0), (-1), []), (.if_icmp .eq 13, (3, 1, 6, 3, 0, 0), 0, [])],
  [(.iload_n 2, (1, 0, 2, 0, 0, 0), 0, []), (.invokestatic 325, (3, 2, 126, 4, 1, 0), 4128, [])],
  [(.ifCond .ne 6, (3, 1, 6, 5, 0, 0), 0, [])],
  [(.bipush (-2), (2, 0, 0, 0, 0, 0), (-2), []), (.ireturn, (1, 3, 0, 0, 0, 0), 0, [])],
  [(.iload_n 2, (1, 0, 2, 0, 0, 0), 0, []), (.iconst (-1), (1, 0, 0, 0, 0, 0), (-1), []), (.if_icmp .ne 16, (3, 1, 10, 7, 0, 0), 0, [])],
  [(.aload_n 0, (1, 0, 0, 0, 0, 0), 0, []), (.getfield 62, (3, 0, 9, 11, 2055, 1), 0, []), (.iload_n 1, (1, 0, 1, 0, 0, 0), 0, []), (.aaload, (1, 0, 24, 0, 0, 0), 0, []), (.nop, (0, 1, 8, 0, 0, 0), 0, [])],
  [(.iconst (-1), (1, 0, 0, 0, 0, 0), (-1), []), (.iconst 0, (1, 0, 0, 0, 0, 0), 0, []), (.invokevirtual 328, (3, 2, 40, 9, 3, 6), 4131, [])],
  [(.iconst 1, (1, 0, 0, 0, 0, 0), 1, []), (.ireturn, (1, 3, 0, 0, 0, 0), 0, [])],
  [(.iload_n 3, (1, 0, 3, 0, 0, 0), 0, []), (.bipush 40, (2, 0, 0, 0, 0, 0), 40, []), (.if_icmp .le 6, (3, 1, 12, 11, 0, 0), 0, [])],
  [(.bipush (-2), (2, 0, 0, 0, 0, 0), (-2), []), (.ireturn, (1, 3, 0, 0, 0, 0), 0, [])],
  [(.iload_n 3, (1, 0, 3, 0, 0, 0), 0, []), (.ifCond .ge 6, (3, 1, 14, 13, 0, 0), 0, [])],
  [(.bipush (-14), (2, 0, 0, 0, 0, 0), (-14), []), (.ireturn, (1, 3, 0, 0, 0, 0), 0, [])],
  [(.aload_n 0, (1, 0, 0, 0, 0, 0), 0, []), (.getfield 62, (3, 0, 9, 11, 2055, 1), 0, []), (.iload_n 1, (1, 0, 1, 0, 0, 0), 0, []), (.aaload, (1, 0, 24, 0, 0, 0), 0, []), (.nop, (0, 1, 15, 0, 0, 0), 0, [])],
  [(.iload_n 2, (1, 0, 2, 0, 0, 0), 0, []), (.iload_n 3, (1, 0, 3, 0, 0, 0), 0, []), (.invokevirtual 328, (3, 2, 40, 16, 3, 6), 4131, [])],
  [(.iconst 1, (1, 0, 0, 0, 0, 0), 1, []), (.ireturn, (1, 3, 0, 0, 0, 0), 0, [])]]
/-- EvenlyPoured.cell(III)I -/
noncomputable def bk_121 : List (List am_P) := [[(.iload_n 1, (1, 0, 1, 0, 0, 0), 0, []), (.invokestatic 277, (3, 2, 125, 1, 1, 0), 4061, [])],
  [(.ifCond .ne 6, (3, 1, 3, 2, 0, 0), 0, [])],
  [(.bipush (-2), (2, 0, 0, 0, 0, 0), (-2), []), (.ireturn, (1, 3, 0, 0, 0, 0), 0, [])],
  [(.aload_n 0, (1, 0, 0, 0, 0, 0), 0, []), (.getfield 62, (3, 0, 9, 11, 2055, 1), 0, []), (.iload_n 1, (1, 0, 1, 0, 0, 0), 0, []), (.aaload, (1, 0, 24, 0, 0, 0), 0, []), (.nop, (0, 1, 4, 0, 0, 0), 0, [])],
  [(.invokevirtual 300, (3, 2, 41, 5, 1, 6), 4068, [])],
  [(.ifCond .eq 6, (3, 1, 7, 6, 0, 0), 0, [])],
  [(.bipush (-11), (2, 0, 0, 0, 0, 0), (-11), []), (.ireturn, (1, 3, 0, 0, 0, 0), 0, [])],
  [(.aload_n 0, (1, 0, 0, 0, 0, 0), 0, []), (.getfield 62, (3, 0, 9, 11, 2055, 1), 0, []), (.iload_n 1, (1, 0, 1, 0, 0, 0), 0, []), (.aaload, (1, 0, 24, 0, 0, 0), 0, []), (.nop, (0, 1, 8, 0, 0, 0), 0, [])],
  [(.iload_n 2, (1, 0, 2, 0, 0, 0), 0, []), (.invokevirtual 331, (3, 2, 42, 9, 2, 6), 4140, [])],
  [(.ifCond .ne 6, (3, 1, 11, 10, 0, 0), 0, [])],
  [(.bipush (-12), (2, 0, 0, 0, 0, 0), (-12), []), (.ireturn, (1, 3, 0, 0, 0, 0), 0, [])],
  [(.aload_n 0, (1, 0, 0, 0, 0, 0), 0, []), (.getfield 62, (3, 0, 9, 11, 2055, 1), 0, []), (.iload_n 1, (1, 0, 1, 0, 0, 0), 0, []), (.aaload, (1, 0, 24, 0, 0, 0), 0, []), (.nop, (0, 1, 12, 0, 0, 0), 0, [])],
  [(.iload_n 2, (1, 0, 2, 0, 0, 0), 0, []), (.iload_n 3, (1, 0, 3, 0, 0, 0), 0, []), (.invokevirtual 334, (3, 2, 44, 13, 3, 6), 4144, [])],
  [(.iconst 1, (1, 0, 0, 0, 0, 0), 1, []), (.ireturn, (1, 3, 0, 0, 0, 0), 0, [])]]
/-- EvenlyPoured.copy(IIIII)I -/
noncomputable def bk_122 : List (List am_P) := [[(.iload_n 1, (1, 0, 1, 0, 0, 0), 0, []), (.invokestatic 277, (3, 2, 125, 1, 1, 0), 4061, [])],
  [(.ifCond .eq 10, (3, 1, 4, 2, 0, 0), 0, [])],
  [(.iload_n 3, (1, 0, 3, 0, 0, 0), 0, []), (.invokestatic 277, (3, 2, 125, 3, 1, 0), 4061, [])],
  [(.ifCond .ne 6, (3, 1, 5, 4, 0, 0), 0, [])],
  [(.bipush (-2), (2, 0, 0, 0, 0, 0), (-2), []), (.ireturn, (1, 3, 0, 0, 0, 0), 0, [])],
  [(.aload_n 0, (1, 0, 0, 0, 0, 0), 0, []), (.getfield 62, (3, 0, 9, 11, 2055, 1), 0, []), (.iload_n 1, (1, 0, 1, 0, 0, 0), 0, []), (.aaload, (1, 0, 24, 0, 0, 0), 0, []), (.nop, (0, 1, 6, 0, 0, 0), 0, [])],
  [(.astore 6, (2, 0, 6, 0, 0, 0), 0, []), (.aload_n 0, (1, 0, 0, 0, 0, 0), 0, []), (.getfield 62, (3, 0, 9, 11, 2055, 1), 0, []), (.iload_n 3, (1, 0, 3, 0, 0, 0), 0, []), (.aaload, (1, 0, 24, 0, 0, 0), 0, []), (.nop, (0, 1, 7, 0, 0, 0), 0, [])],
  [(.astore 7, (2, 0, 7, 0, 0, 0), 0, []), (.aload 6, (2, 0, 6, 0, 0, 0), 0, []), (.invokevirtual 300, (3, 2, 41, 8, 1, 6), 4068, [])],
  [(.ifCond .ne 11, (3, 1, 11, 9, 0, 0), 0, [])],
  [(.aload 7, (2, 0, 7, 0, 0, 0), 0, []), (.invokevirtual 300, (3, 2, 41, 10, 1, 6), 4068, [])],
  [(.ifCond .eq 6, (3, 1, 12, 11, 0, 0), 0, [])],
  [(.bipush (-11), (2, 0, 0, 0, 0, 0), (-11), []), (.ireturn, (1, 3, 0, 0, 0, 0), 0, [])],
  [(.aload 6, (2, 0, 6, 0, 0, 0), 0, []), (.getfield 337, (3, 0, 5, 0, 1157, 0), 0, []), (.aload 7, (2, 0, 7, 0, 0, 0), 0, []), (.getfield 337, (3, 0, 5, 0, 1157, 0), 0, []), (.if_icmp .eq 6, (3, 1, 14, 13, 0, 0), 0, [])],
  [(.bipush (-13), (2, 0, 0, 0, 0, 0), (-13), []), (.ireturn, (1, 3, 0, 0, 0, 0), 0, [])],
  [(.aload 6, (2, 0, 6, 0, 0, 0), 0, []), (.iload_n 2, (1, 0, 2, 0, 0, 0), 0, []), (.iload 5, (2, 0, 5, 0, 0, 0), 0, []), (.invokevirtual 340, (3, 2, 43, 15, 3, 6), 4152, [])],
  [(.ifCond .eq 15, (3, 1, 18, 16, 0, 0), 0, [])],
  [(.aload 7, (2, 0, 7, 0, 0, 0), 0, []), (.iload 4, (2, 0, 4, 0, 0, 0), 0, []), (.iload 5, (2, 0, 5, 0, 0, 0), 0, []), (.invokevirtual 340, (3, 2, 43, 17, 3, 6), 4152, [])],
  [(.ifCond .ne 6, (3, 1, 19, 18, 0, 0), 0, [])],
  [(.bipush (-12), (2, 0, 0, 0, 0, 0), (-12), []), (.ireturn, (1, 3, 0, 0, 0, 0), 0, [])],
  [(.aload 6, (2, 0, 6, 0, 0, 0), 0, []), (.getfield 283, (3, 0, 5, 2, 1161, 1), 0, []), (.nop, (0, 1, 20, 0, 0, 0), 0, [])],
  [(.iload_n 2, (1, 0, 2, 0, 0, 0), 0, []), (.aload 7, (2, 0, 7, 0, 0, 0), 0, []), (.getfield 283, (3, 0, 5, 2, 1161, 1), 0, []), (.nop, (0, 1, 21, 0, 0, 0), 0, [])],
  [(.iload 4, (2, 0, 4, 0, 0, 0), 0, []), (.iload 5, (2, 0, 5, 0, 0, 0), 0, []), (.invokestatic 217, (3, 0, 0, 0, 4000, 0), 0, []), (.iload 5, (2, 0, 5, 0, 0, 0), 0, []), (.ireturn, (1, 3, 0, 0, 0, 0), 0, [])]]
/-- EvenlyPoured.rows(IIII)I -/
noncomputable def bk_123 : List (List am_P) := [[(.iload_n 1, (1, 0, 1, 0, 0, 0), 0, []), (.invokestatic 277, (3, 2, 125, 1, 1, 0), 4061, [])],
  [(.ifCond .eq 22, (3, 1, 6, 2, 0, 0), 0, [])],
  [(.iload_n 2, (1, 0, 2, 0, 0, 0), 0, []), (.invokestatic 325, (3, 2, 126, 3, 1, 0), 4128, [])],
  [(.ifCond .eq 15, (3, 1, 6, 4, 0, 0), 0, [])],
  [(.iload 4, (2, 0, 4, 0, 0, 0), 0, []), (.ifCond .lt 10, (3, 1, 6, 5, 0, 0), 0, [])],
  [(.iload 4, (2, 0, 4, 0, 0, 0), 0, []), (.bipush 24, (2, 0, 0, 0, 0, 0), 24, []), (.if_icmp .le 6, (3, 1, 7, 6, 0, 0), 0, [])],
  [(.bipush (-2), (2, 0, 0, 0, 0, 0), (-2), []), (.ireturn, (1, 3, 0, 0, 0, 0), 0, [])],
  [(.aload_n 0, (1, 0, 0, 0, 0, 0), 0, []), (.getfield 62, (3, 0, 9, 11, 2055, 1), 0, []), (.iload_n 1, (1, 0, 1, 0, 0, 0), 0, []), (.aaload, (1, 0, 24, 0, 0, 0), 0, []), (.nop, (0, 1, 8, 0, 0, 0), 0, [])],
  [(.astore 5, (2, 0, 5, 0, 0, 0), 0, []), (.aload 5, (2, 0, 5, 0, 0, 0), 0, []), (.invokevirtual 300, (3, 2, 41, 9, 1, 6), 4068, [])],
  [(.ifCond .eq 6, (3, 1, 11, 10, 0, 0), 0, [])],
  [(.bipush (-11), (2, 0, 0, 0, 0, 0), (-11), []), (.ireturn, (1, 3, 0, 0, 0, 0), 0, [])],
  [(.aload 5, (2, 0, 5, 0, 0, 0), 0, []), (.getfield 337, (3, 0, 5, 0, 1157, 0), 0, []), (.iload_n 2, (1, 0, 2, 0, 0, 0), 0, []), (.if_icmp .eq 6, (3, 1, 13, 12, 0, 0), 0, [])],
  [(.bipush (-13), (2, 0, 0, 0, 0, 0), (-13), []), (.ireturn, (1, 3, 0, 0, 0, 0), 0, [])],
  [(.iconst 0, (1, 0, 0, 0, 0, 0), 0, []), (.istore 6, (2, 0, 6, 0, 0, 0), 0, []), (.iconst 0, (1, 0, 0, 0, 0, 0), 0, []), (.istore 7, (2, 0, 7, 0, 0, 0), 0, []), (.nop, (0, 1, 14, 0, 0, 0), 0, [])],
  [(.iload 7, (2, 0, 7, 0, 0, 0), 0, []), (.iload 4, (2, 0, 4, 0, 0, 0), 0, []), (.if_icmp .ge 66, (3, 1, 25, 15, 0, 0), 0, [])],
  [(.aload 5, (2, 0, 5, 0, 0, 0), 0, []), (.iload_n 3, (1, 0, 3, 0, 0, 0), 0, []), (.iload 7, (2, 0, 7, 0, 0, 0), 0, []), (.iadd, (1, 0, 0, 0, 0, 0), 0, []), (.invokevirtual 331, (3, 2, 42, 16, 2, 6), 4140, [])],
  [(.ifCond .ne 6, (3, 1, 18, 17, 0, 0), 0, [])],
  [(.bipush (-12), (2, 0, 0, 0, 0, 0), (-12), []), (.ireturn, (1, 3, 0, 0, 0, 0), 0, [])],
  [(.aload 5, (2, 0, 5, 0, 0, 0), 0, []), (.getfield 283, (3, 0, 5, 2, 1161, 1), 0, []), (.nop, (0, 1, 19, 0, 0, 0), 0, [])],
  [(.iload_n 3, (1, 0, 3, 0, 0, 0), 0, []), (.iload 7, (2, 0, 7, 0, 0, 0), 0, []), (.iadd, (1, 0, 0, 0, 0, 0), 0, []), (.iaload, (1, 0, 0, 0, 0, 0), 0, []), (.istore 8, (2, 0, 8, 0, 0, 0), 0, []), (.aload_n 0, (1, 0, 0, 0, 0, 0), 0, []), (.iload 7, (2, 0, 7, 0, 0, 0), 0, []), (.invokevirtual 142, (3, 2, 77, 20, 2, 10), 2137, [])],
  [(.ifCond .eq 24, (3, 1, 24, 21, 0, 0), 0, [])],
  [(.aload_n 0, (1, 0, 0, 0, 0, 0), 0, []), (.iload 8, (2, 0, 8, 0, 0, 0), 0, []), (.invokevirtual 145, (3, 2, 76, 22, 2, 10), 2141, [])],
  [(.ifCond .eq 15, (3, 1, 24, 23, 0, 0), 0, [])],
  [(.aload_n 0, (1, 0, 0, 0, 0, 0), 0, []), (.getfield 16, (3, 0, 9, 2, 2046, 1), 0, []), (.iload 7, (2, 0, 7, 0, 0, 0), 0, []), (.iload 8, (2, 0, 8, 0, 0, 0), 0, []), (.iastore, (1, 0, 0, 0, 0, 0), 0, []), (.iinc 6 1, (3, 0, 6, 0, 0, 0), 1, []), (.nop, (0, 1, 24, 0, 0, 0), 0, [])],
  [(.iinc 7 1, (3, 0, 7, 0, 0, 0), 1, []), (.goto (-67), (3, 1, 14, 0, 0, 0), 0, [])],
  [(.iload 6, (2, 0, 6, 0, 0, 0), 0, []), (.ireturn, (1, 3, 0, 0, 0, 0), 0, [])]]
/-- EvenlyPoured.taken(II)I -/
noncomputable def bk_124 : List (List am_P) := [[(.iload_n 2, (1, 0, 2, 0, 0, 0), 0, []), (.invokestatic 148, (3, 2, 79, 1, 1, 0), 2153, [])],
  [(.ifCond .ne 6, (3, 1, 3, 2, 0, 0), 0, [])],
  [(.bipush (-2), (2, 0, 0, 0, 0, 0), (-2), []), (.ireturn, (1, 3, 0, 0, 0, 0), 0, [])],
  [(.aload_n 0, (1, 0, 0, 0, 0, 0), 0, []), (.iload_n 1, (1, 0, 1, 0, 0, 0), 0, []), (.invokevirtual 129, (3, 2, 78, 4, 2, 10), 2118, [])],
  [(.ifCond .ne 6, (3, 1, 6, 5, 0, 0), 0, [])],
  [(.bipush (-11), (2, 0, 0, 0, 0, 0), (-11), []), (.ireturn, (1, 3, 0, 0, 0, 0), 0, [])],
  [(.aload_n 0, (1, 0, 0, 0, 0, 0), 0, []), (.getfield 25, (3, 0, 9, 4, 2048, 1), 0, []), (.iload_n 1, (1, 0, 1, 0, 0, 0), 0, []), (.aaload, (1, 0, 22, 0, 0, 0), 0, []), (.nop, (0, 1, 7, 0, 0, 0), 0, [])],
  [(.iload_n 2, (1, 0, 2, 0, 0, 0), 0, []), (.invokevirtual 344, (3, 2, 2, 8, 2, 2), 4164, [])],
  [(.ifCond .eq 15, (3, 1, 11, 9, 0, 0), 0, [])],
  [(.aload_n 0, (1, 0, 0, 0, 0, 0), 0, []), (.getfield 25, (3, 0, 9, 4, 2048, 1), 0, []), (.iload_n 1, (1, 0, 1, 0, 0, 0), 0, []), (.aaload, (1, 0, 22, 0, 0, 0), 0, []), (.nop, (0, 1, 10, 0, 0, 0), 0, [])],
  [(.getfield 133, (3, 0, 1, 1, 1145, 0), 0, []), (.goto 5, (3, 1, 12, 0, 0, 0), 0, [])],
  [(.bipush (-13), (2, 0, 0, 0, 0, 0), (-13), []), (.nop, (0, 1, 12, 0, 0, 0), 0, [])],
  [(.ireturn, (1, 3, 0, 0, 0, 0), 0, [])]]
/-- EvenlyPoured.isSheet(I)Z -/
noncomputable def bk_125 : List (List am_P) := [[(.iload_n 0, (1, 0, 0, 0, 0, 0), 0, []), (.ifCond .lt 12, (3, 1, 3, 1, 0, 0), 0, [])],
  [(.iload_n 0, (1, 0, 0, 0, 0, 0), 0, []), (.iconst 4, (1, 0, 0, 0, 0, 0), 4, []), (.if_icmp .ge 7, (3, 1, 3, 2, 0, 0), 0, [])],
  [(.iconst 1, (1, 0, 0, 0, 0, 0), 1, []), (.goto 4, (3, 1, 4, 0, 0, 0), 0, [])],
  [(.iconst 0, (1, 0, 0, 0, 0, 0), 0, []), (.nop, (0, 1, 4, 0, 0, 0), 0, [])],
  [(.ireturn, (1, 3, 0, 0, 0, 1), 0, [])]]
/-- EvenlyPoured.isSort(I)Z -/
noncomputable def bk_126 : List (List am_P) := [[(.iload_n 0, (1, 0, 0, 0, 0, 0), 0, []), (.ifCond .lt 12, (3, 1, 3, 1, 0, 0), 0, [])],
  [(.iload_n 0, (1, 0, 0, 0, 0, 0), 0, []), (.iconst 3, (1, 0, 0, 0, 0, 0), 3, []), (.if_icmp .ge 7, (3, 1, 3, 2, 0, 0), 0, [])],
  [(.iconst 1, (1, 0, 0, 0, 0, 0), 1, []), (.goto 4, (3, 1, 4, 0, 0, 0), 0, [])],
  [(.iconst 0, (1, 0, 0, 0, 0, 0), 0, []), (.nop, (0, 1, 4, 0, 0, 0), 0, [])],
  [(.ireturn, (1, 3, 0, 0, 0, 1), 0, [])]]
/-- EvenlyPouredModel.in(JJJ)Z -/
noncomputable def bk_127 : List (List am_P) := [[(.lload_n 0, (1, 0, 0, 0, 0, 0), 0, []), (.lload_n 2, (1, 0, 2, 0, 0, 0), 0, []), (.lcmp, (1, 0, 0, 0, 0, 0), 0, []), (.ifCond .lt 14, (3, 1, 3, 1, 0, 0), 0, [])],
  [(.lload_n 0, (1, 0, 0, 0, 0, 0), 0, []), (.lload 4, (2, 0, 4, 0, 0, 0), 0, []), (.lcmp, (1, 0, 0, 0, 0, 0), 0, []), (.ifCond .gt 7, (3, 1, 3, 2, 0, 0), 0, [])],
  [(.iconst 1, (1, 0, 0, 0, 0, 0), 1, []), (.goto 4, (3, 1, 4, 0, 0, 0), 0, [])],
  [(.iconst 0, (1, 0, 0, 0, 0, 0), 0, []), (.nop, (0, 1, 4, 0, 0, 0), 0, [])],
  [(.ireturn, (1, 3, 0, 0, 0, 1), 0, [])]]
/-- EvenlyPouredModel.within(III)I -/
noncomputable def bk_128 : List (List am_P) := [[(.iload_n 0, (1, 0, 0, 0, 0, 0), 0, []), (.iload_n 1, (1, 0, 1, 0, 0, 0), 0, []), (.if_icmp .ge 7, (3, 1, 2, 1, 0, 0), 0, [])],
  [(.iload_n 1, (1, 0, 1, 0, 0, 0), 0, []), (.goto 13, (3, 1, 5, 0, 0, 0), 0, [])],
  [(.iload_n 0, (1, 0, 0, 0, 0, 0), 0, []), (.iload_n 2, (1, 0, 2, 0, 0, 0), 0, []), (.if_icmp .le 7, (3, 1, 4, 3, 0, 0), 0, [])],
  [(.iload_n 2, (1, 0, 2, 0, 0, 0), 0, []), (.goto 4, (3, 1, 5, 0, 0, 0), 0, [])],
  [(.iload_n 0, (1, 0, 0, 0, 0, 0), 0, []), (.nop, (0, 1, 5, 0, 0, 0), 0, [])],
  [(.ireturn, (1, 3, 0, 0, 0, 0), 0, [])]]
/-- EvenlyPouredModel.<init>()V -/
noncomputable def bk_129 : List (List am_P) := [[(.aload_n 0, (1, 0, 0, 0, 0, 0), 0, []), (.invokespecial 7, (3, 0, 0, 0, 4176, 0), 0, []), (.aload_n 0, (1, 0, 0, 0, 0, 0), 0, []), (.sipush 960, (3, 0, 0, 0, 0, 0), 960, []), (.newarray .int, (2, 0, 20, 0, 0, 0), 0, []), (.putfield 13, (3, 0, 10, 1, 4181, 1), 0, []), (.aload_n 0, (1, 0, 0, 0, 0, 0), 0, []), (.bipush 6, (2, 0, 0, 0, 0, 0), 6, []), (.newarray .int, (2, 0, 20, 0, 0, 0), 0, []), (.putfield 17, (3, 0, 10, 2, 4182, 1), 0, []), (.aload_n 0, (1, 0, 0, 0, 0, 0), 0, []), (.sipush 160, (3, 0, 0, 0, 0, 0), 160, []), (.newarray .int, (2, 0, 20, 0, 0, 0), 0, []), (.putfield 20, (3, 0, 10, 5, 4185, 1), 0, []), (.aload_n 0, (1, 0, 0, 0, 0, 0), 0, []), (.iconst 2, (1, 0, 0, 0, 0, 0), 2, []), (.putfield 23, (3, 0, 10, 7, 4187, 0), 0, []), (.aload_n 0, (1, 0, 0, 0, 0, 0), 0, []), (.bipush 8, (2, 0, 0, 0, 0, 0), 8, []), (.putfield 26, (3, 0, 10, 8, 4188, 0), 0, []), (.aload_n 0, (1, 0, 0, 0, 0, 0), 0, []), (.bipush 24, (2, 0, 0, 0, 0, 0), 24, []), (.newarray .int, (2, 0, 20, 0, 0, 0), 0, []), (.putfield 29, (3, 0, 10, 9, 4189, 1), 0, []), (.aload_n 0, (1, 0, 0, 0, 0, 0), 0, []), (.bipush 6, (2, 0, 0, 0, 0, 0), 6, []), (.newarray .int, (2, 0, 20, 0, 0, 0), 0, []), (.putfield 32, (3, 0, 10, 10, 4190, 1), 0, []), (.aload_n 0, (1, 0, 0, 0, 0, 0), 0, []), (.bipush 6, (2, 0, 0, 0, 0, 0), 6, []), (.newarray .int, (2, 0, 20, 0, 0, 0), 0, []), (.putfield 35, (3, 0, 10, 11, 4191, 1), 0, []), (.aload_n 0, (1, 0, 0, 0, 0, 0), 0, []), (.bipush 8, (2, 0, 0, 0, 0, 0), 8, []), (.newarray .int, (2, 0, 20, 0, 0, 0), 0, []), (.putfield 38, (3, 0, 10, 13, 4193, 1), 0, []), (.aload_n 0, (1, 0, 0, 0, 0, 0), 0, []), (.sipush 9600, (3, 0, 0, 0, 0, 0), 9600, []), (.newarray .int, (2, 0, 20, 0, 0, 0), 0, []), (.putfield 41, (3, 0, 10, 29, 4209, 1), 0, []), (.aload_n 0, (1, 0, 0, 0, 0, 0), 0, []), (.sipush 9600, (3, 0, 0, 0, 0, 0), 9600, []), (.newarray .int, (2, 0, 20, 0, 0, 0), 0, []), (.putfield 44, (3, 0, 10, 30, 4210, 1), 0, []), (.aload_n 0, (1, 0, 0, 0, 0, 0), 0, []), (.iconst 4, (1, 0, 0, 0, 0, 0), 4, []), (.newarray .int, (2, 0, 20, 0, 0, 0), 0, []), (.putfield 47, (3, 0, 10, 31, 4211, 1), 0, []), (.aload_n 0, (1, 0, 0, 0, 0, 0), 0, []), (.iconst 4, (1, 0, 0, 0, 0, 0), 4, []), (.newarray .int, (2, 0, 20, 0, 0, 0), 0, []), (.putfield 50, (3, 0, 10, 32, 4212, 1), 0, []), (.aload_n 0, (1, 0, 0, 0, 0, 0), 0, []), (.bipush 24, (2, 0, 0, 0, 0, 0), 24, []), (.newarray .int, (2, 0, 20, 0, 0, 0), 0, []), (.putfield 53, (3, 0, 10, 36, 4216, 1), 0, []), (.aload_n 0, (1, 0, 0, 0, 0, 0), 0, []), (.bipush 24, (2, 0, 0, 0, 0, 0), 24, []), (.newarray .int, (2, 0, 20, 0, 0, 0), 0, []), (.putfield 56, (3, 0, 10, 37, 4217, 1), 0, []), (.aload_n 0, (1, 0, 0, 0, 0, 0), 0, []), (.iconst 4, (1, 0, 0, 0, 0, 0), 4, []), (.newarray .int, (2, 0, 20, 0, 0, 0), 0, []), (.putfield 59, (3, 0, 10, 43, 4223, 1), 0, []), (.aload_n 0, (1, 0, 0, 0, 0, 0), 0, []), (.bipush 24, (2, 0, 0, 0, 0, 0), 24, []), (.newarray .int, (2, 0, 20, 0, 0, 0), 0, []), (.putfield 62, (3, 0, 10, 44, 4224, 1), 0, []), (.aload_n 0, (1, 0, 0, 0, 0, 0), 0, []), (.bipush 8, (2, 0, 0, 0, 0, 0), 8, []), (.newarray .int, (2, 0, 20, 0, 0, 0), 0, []), (.putfield 65, (3, 0, 10, 45, 4225, 1), 0, []), (.aload_n 0, (1, 0, 0, 0, 0, 0), 0, []), (.bipush 6, (2, 0, 0, 0, 0, 0), 6, []), (.newarray .int, (2, 0, 20, 0, 0, 0), 0, []), (.putfield 68, (3, 0, 10, 46, 4226, 1), 0, []), (.aload_n 0, (1, 0, 0, 0, 0, 0), 0, []), (.iconst (-1), (1, 0, 0, 0, 0, 0), (-1), []), (.putfield 71, (3, 0, 10, 47, 4227, 0), 0, []), (.aload_n 0, (1, 0, 0, 0, 0, 0), 0, []), (.iconst 4, (1, 0, 0, 0, 0, 0), 4, []), (.newarray .boolean, (2, 0, 21, 0, 0, 0), 0, []), (.putfield 74, (3, 0, 10, 51, 4231, 1), 0, []), (.aload_n 0, (1, 0, 0, 0, 0, 0), 0, []), (.iconst 4, (1, 0, 0, 0, 0, 0), 4, []), (.newarray .int, (2, 0, 20, 0, 0, 0), 0, []), (.putfield 78, (3, 0, 10, 52, 4232, 1), 0, []), (.aload_n 0, (1, 0, 0, 0, 0, 0), 0, []), (.iconst 4, (1, 0, 0, 0, 0, 0), 4, []), (.newarray .int, (2, 0, 20, 0, 0, 0), 0, []), (.putfield 81, (3, 0, 10, 53, 4233, 1), 0, []), (.aload_n 0, (1, 0, 0, 0, 0, 0), 0, []), (.sipush 160, (3, 0, 0, 0, 0, 0), 160, []), (.newarray .int, (2, 0, 20, 0, 0, 0), 0, []), (.putfield 84, (3, 0, 10, 54, 4234, 1), 0, []), (.aload_n 0, (1, 0, 0, 0, 0, 0), 0, []), (.iconst 0, (1, 0, 0, 0, 0, 0), 0, []), (.bipush 115, (2, 0, 0, 0, 0, 0), 115, []), (.bipush 116, (2, 0, 0, 0, 0, 0), 116, []), (.bipush 114, (2, 0, 0, 0, 0, 0), 114, []), (.bipush 111, (2, 0, 0, 0, 0, 0), 111, []), (.bipush 110, (2, 0, 0, 0, 0, 0), 110, []), (.bipush 103, (2, 0, 0, 0, 0, 0), 103, []), (.bipush 32, (2, 0, 0, 0, 0, 0), 32, []), (.bipush 100, (2, 0, 0, 0, 0, 0), 100, []), (.invokevirtual 87, (3, 2, 130, 1, 10, 11), 4177, [])],
  [(.aload_n 0, (1, 0, 0, 0, 0, 0), 0, []), (.bipush 8, (2, 0, 0, 0, 0, 0), 8, []), (.bipush 114, (2, 0, 0, 0, 0, 0), 114, []), (.bipush 105, (2, 0, 0, 0, 0, 0), 105, []), (.bipush 98, (2, 0, 0, 0, 0, 0), 98, []), (.bipush 32, (2, 0, 0, 0, 0, 0), 32, []), (.bipush 43, (2, 0, 0, 0, 0, 0), 43, []), (.bipush 32, (2, 0, 0, 0, 0, 0), 32, []), (.bipush 49, (2, 0, 0, 0, 0, 0), 49, []), (.bipush 32, (2, 0, 0, 0, 0, 0), 32, []), (.invokevirtual 87, (3, 2, 130, 2, 10, 11), 4177, [])],
  [(.aload_n 0, (1, 0, 0, 0, 0, 0), 0, []), (.bipush 16, (2, 0, 0, 0, 0, 0), 16, []), (.bipush 59, (2, 0, 0, 0, 0, 0), 59, []), (.bipush 32, (2, 0, 0, 0, 0, 0), 32, []), (.bipush 100, (2, 0, 0, 0, 0, 0), 100, []), (.bipush 114, (2, 0, 0, 0, 0, 0), 114, []), (.bipush 105, (2, 0, 0, 0, 0, 0), 105, []), (.bipush 112, (2, 0, 0, 0, 0, 0), 112, []), (.bipush 115, (2, 0, 0, 0, 0, 0), 115, []), (.bipush 32, (2, 0, 0, 0, 0, 0), 32, []), (.invokevirtual 87, (3, 2, 130, 3, 10, 11), 4177, [])],
  [(.aload_n 0, (1, 0, 0, 0, 0, 0), 0, []), (.bipush 24, (2, 0, 0, 0, 0, 0), 24, []), (.bipush 48, (2, 0, 0, 0, 0, 0), 48, []), (.bipush 32, (2, 0, 0, 0, 0, 0), 32, []), (.bipush 59, (2, 0, 0, 0, 0, 0), 59, []), (.bipush 32, (2, 0, 0, 0, 0, 0), 32, []), (.bipush 108, (2, 0, 0, 0, 0, 0), 108, []), (.bipush 105, (2, 0, 0, 0, 0, 0), 105, []), (.bipush 107, (2, 0, 0, 0, 0, 0), 107, []), (.bipush 101, (2, 0, 0, 0, 0, 0), 101, []), (.invokevirtual 87, (3, 2, 130, 4, 10, 11), 4177, [])],
  [(.aload_n 0, (1, 0, 0, 0, 0, 0), 0, []), (.bipush 32, (2, 0, 0, 0, 0, 0), 32, []), (.bipush 100, (2, 0, 0, 0, 0, 0), 100, []), (.bipush 32, (2, 0, 0, 0, 0, 0), 32, []), (.bipush 100, (2, 0, 0, 0, 0, 0), 100, []), (.bipush 114, (2, 0, 0, 0, 0, 0), 114, []), (.bipush 105, (2, 0, 0, 0, 0, 0), 105, []), (.bipush 98, (2, 0, 0, 0, 0, 0), 98, []), (.bipush 115, (2, 0, 0, 0, 0, 0), 115, []), (.bipush 32, (2, 0, 0, 0, 0, 0), 32, []), (.invokevirtual 87, (3, 2, 130, 5, 10, 11), 4177, [])],
  [(.aload_n 0, (1, 0, 0, 0, 0, 0), 0, []), (.bipush 40, (2, 0, 0, 0, 0, 0), 40, []), (.bipush 42, (2, 0, 0, 0, 0, 0), 42, []), (.bipush 32, (2, 0, 0, 0, 0, 0), 32, []), (.bipush 51, (2, 0, 0, 0, 0, 0), 51, []), (.bipush 32, (2, 0, 0, 0, 0, 0), 32, []), (.bipush 59, (2, 0, 0, 0, 0, 0), 59, []), (.bipush 32, (2, 0, 0, 0, 0, 0), 32, []), (.bipush 32, (2, 0, 0, 0, 0, 0), 32, []), (.bipush 32, (2, 0, 0, 0, 0, 0), 32, []), (.invokevirtual 87, (3, 2, 130, 6, 10, 11), 4177, [])],
  [(.aload_n 0, (1, 0, 0, 0, 0, 0), 0, []), (.getfield 17, (3, 0, 10, 2, 4182, 1), 0, []), (.iconst 0, (1, 0, 0, 0, 0, 0), 0, []), (.bipush 48, (2, 0, 0, 0, 0, 0), 48, []), (.iastore, (1, 0, 0, 0, 0, 0), 0, []), (.aload_n 0, (1, 0, 0, 0, 0, 0), 0, []), (.iconst 1, (1, 0, 0, 0, 0, 0), 1, []), (.putfield 91, (3, 0, 10, 3, 4183, 0), 0, []), (.return_, (1, 3, 0, 0, 0, 0), 0, [])]]
/-- EvenlyPouredModel.spell(IIIIIIIII)V -/
noncomputable def bk_130 : List (List am_P) := [[(.aload_n 0, (1, 0, 0, 0, 0, 0), 0, []), (.getfield 13, (3, 0, 10, 1, 4181, 1), 0, []), (.iload_n 1, (1, 0, 1, 0, 0, 0), 0, []), (.iload_n 2, (1, 0, 2, 0, 0, 0), 0, []), (.iastore, (1, 0, 0, 0, 0, 0), 0, []), (.aload_n 0, (1, 0, 0, 0, 0, 0), 0, []), (.getfield 13, (3, 0, 10, 1, 4181, 1), 0, []), (.iload_n 1, (1, 0, 1, 0, 0, 0), 0, []), (.iconst 1, (1, 0, 0, 0, 0, 0), 1, []), (.iadd, (1, 0, 0, 0, 0, 0), 0, []), (.iload_n 3, (1, 0, 3, 0, 0, 0), 0, []), (.iastore, (1, 0, 0, 0, 0, 0), 0, []), (.aload_n 0, (1, 0, 0, 0, 0, 0), 0, []), (.getfield 13, (3, 0, 10, 1, 4181, 1), 0, []), (.iload_n 1, (1, 0, 1, 0, 0, 0), 0, []), (.iconst 2, (1, 0, 0, 0, 0, 0), 2, []), (.iadd, (1, 0, 0, 0, 0, 0), 0, []), (.iload 4, (2, 0, 4, 0, 0, 0), 0, []), (.iastore, (1, 0, 0, 0, 0, 0), 0, []), (.aload_n 0, (1, 0, 0, 0, 0, 0), 0, []), (.getfield 13, (3, 0, 10, 1, 4181, 1), 0, []), (.iload_n 1, (1, 0, 1, 0, 0, 0), 0, []), (.iconst 3, (1, 0, 0, 0, 0, 0), 3, []), (.iadd, (1, 0, 0, 0, 0, 0), 0, []), (.iload 5, (2, 0, 5, 0, 0, 0), 0, []), (.iastore, (1, 0, 0, 0, 0, 0), 0, []), (.aload_n 0, (1, 0, 0, 0, 0, 0), 0, []), (.getfield 13, (3, 0, 10, 1, 4181, 1), 0, []), (.iload_n 1, (1, 0, 1, 0, 0, 0), 0, []), (.iconst 4, (1, 0, 0, 0, 0, 0), 4, []), (.iadd, (1, 0, 0, 0, 0, 0), 0, []), (.iload 6, (2, 0, 6, 0, 0, 0), 0, []), (.iastore, (1, 0, 0, 0, 0, 0), 0, []), (.aload_n 0, (1, 0, 0, 0, 0, 0), 0, []), (.getfield 13, (3, 0, 10, 1, 4181, 1), 0, []), (.iload_n 1, (1, 0, 1, 0, 0, 0), 0, []), (.iconst 5, (1, 0, 0, 0, 0, 0), 5, []), (.iadd, (1, 0, 0, 0, 0, 0), 0, []), (.iload 7, (2, 0, 7, 0, 0, 0), 0, []), (.iastore, (1, 0, 0, 0, 0, 0), 0, []), (.aload_n 0, (1, 0, 0, 0, 0, 0), 0, []), (.getfield 13, (3, 0, 10, 1, 4181, 1), 0, []), (.iload_n 1, (1, 0, 1, 0, 0, 0), 0, []), (.bipush 6, (2, 0, 0, 0, 0, 0), 6, []), (.iadd, (1, 0, 0, 0, 0, 0), 0, []), (.iload 8, (2, 0, 8, 0, 0, 0), 0, []), (.iastore, (1, 0, 0, 0, 0, 0), 0, []), (.aload_n 0, (1, 0, 0, 0, 0, 0), 0, []), (.getfield 13, (3, 0, 10, 1, 4181, 1), 0, []), (.iload_n 1, (1, 0, 1, 0, 0, 0), 0, []), (.bipush 7, (2, 0, 0, 0, 0, 0), 7, []), (.iadd, (1, 0, 0, 0, 0, 0), 0, []), (.iload 9, (2, 0, 9, 0, 0, 0), 0, []), (.iastore, (1, 0, 0, 0, 0, 0), 0, []), (.return_, (1, 3, 0, 0, 0, 0), 0, [])]]
/-- EvenlyPouredModel.isCup(I)Z -/
noncomputable def bk_131 : List (List am_P) := [[(.iload_n 1, (1, 0, 1, 0, 0, 0), 0, []), (.i2l, (1, 0, 0, 0, 0, 0), 0, []), (.lconst 0, (1, 0, 0, 0, 0, 0), 0, []), (.aload_n 0, (1, 0, 0, 0, 0, 0), 0, []), (.getfield 23, (3, 0, 10, 7, 4187, 0), 0, []), (.iconst 1, (1, 0, 0, 0, 0, 0), 1, []), (.isub, (1, 0, 0, 0, 0, 0), 0, []), (.i2l, (1, 0, 0, 0, 0, 0), 0, []), (.invokestatic 94, (3, 2, 127, 1, 3, 0), 5111, [])],
  [(.ireturn, (1, 3, 0, 0, 0, 1), 0, [])]]
/-- EvenlyPouredModel.isPourer(I)Z -/
noncomputable def bk_132 : List (List am_P) := [[(.iload_n 1, (1, 0, 1, 0, 0, 0), 0, []), (.i2l, (1, 0, 0, 0, 0, 0), 0, []), (.lconst 0, (1, 0, 0, 0, 0, 0), 0, []), (.aload_n 0, (1, 0, 0, 0, 0, 0), 0, []), (.getfield 98, (3, 0, 10, 12, 4192, 0), 0, []), (.iconst 1, (1, 0, 0, 0, 0, 0), 1, []), (.isub, (1, 0, 0, 0, 0, 0), 0, []), (.i2l, (1, 0, 0, 0, 0, 0), 0, []), (.invokestatic 94, (3, 2, 127, 1, 3, 0), 5111, [])],
  [(.ireturn, (1, 3, 0, 0, 0, 1), 0, [])]]
/-- EvenlyPouredModel.set(III)I -/
noncomputable def bk_133 : List (List am_P) := [[(.iload_n 1, (1, 0, 1, 0, 0, 0), 0, []), (.i2l, (1, 0, 0, 0, 0, 0), 0, []), (.lconst 0, (1, 0, 0, 0, 0, 0), 0, []), (.ldc2_w 101, (3, 0, 3, 0, 5110, 0), 0, []), (.invokestatic 94, (3, 2, 127, 1, 3, 0), 5111, [])],
  [(.ifCond .eq 85, (3, 1, 20, 2, 0, 0), 0, [])],
  [(.iload_n 1, (1, 0, 1, 0, 0, 0), 0, []), (.iconst 2, (1, 0, 0, 0, 0, 0), 2, []), (.if_icmp .ne 11, (3, 1, 5, 3, 0, 0), 0, [])],
  [(.aload_n 0, (1, 0, 0, 0, 0, 0), 0, []), (.iload_n 2, (1, 0, 2, 0, 0, 0), 0, []), (.invokevirtual 103, (3, 2, 132, 4, 2, 11), 5114, [])],
  [(.ifCond .eq 72, (3, 1, 20, 5, 0, 0), 0, [])],
  [(.iload_n 1, (1, 0, 1, 0, 0, 0), 0, []), (.iconst 3, (1, 0, 0, 0, 0, 0), 3, []), (.if_icmp .ne 15, (3, 1, 8, 6, 0, 0), 0, [])],
  [(.iload_n 2, (1, 0, 2, 0, 0, 0), 0, []), (.i2l, (1, 0, 0, 0, 0, 0), 0, []), (.lconst 0, (1, 0, 0, 0, 0, 0), 0, []), (.ldc2_w 107, (3, 0, 7, 0, 5118, 0), 0, []), (.invokestatic 94, (3, 2, 127, 7, 3, 0), 5111, [])],
  [(.ifCond .eq 55, (3, 1, 20, 8, 0, 0), 0, [])],
  [(.iload_n 3, (1, 0, 3, 0, 0, 0), 0, []), (.i2l, (1, 0, 0, 0, 0, 0), 0, []), (.iload_n 1, (1, 0, 1, 0, 0, 0), 0, []), (.ifCond .ne 7, (3, 1, 10, 9, 0, 0), 0, [])],
  [(.lconst 1, (1, 0, 1, 0, 0, 0), 0, []), (.goto 4, (3, 1, 11, 0, 0, 0), 0, [])],
  [(.lconst 0, (1, 0, 0, 0, 0, 0), 0, []), (.nop, (0, 1, 11, 0, 0, 0), 0, [])],
  [(.iload_n 1, (1, 0, 1, 0, 0, 0), 0, []), (.ifCond .ne 9, (3, 1, 13, 12, 0, 0), 0, [])],
  [(.ldc2_w 109, (3, 0, 4, 0, 5119, 0), 0, []), (.goto 28, (3, 1, 18, 0, 0, 0), 0, [])],
  [(.iload_n 1, (1, 0, 1, 0, 0, 0), 0, []), (.iconst 1, (1, 0, 0, 0, 0, 0), 1, []), (.if_icmp .ne 9, (3, 1, 15, 14, 0, 0), 0, [])],
  [(.ldc2_w 111, (3, 0, 24, 0, 5120, 0), 0, []), (.goto 17, (3, 1, 18, 0, 0, 0), 0, [])],
  [(.iload_n 1, (1, 0, 1, 0, 0, 0), 0, []), (.iconst 2, (1, 0, 0, 0, 0, 0), 2, []), (.if_icmp .ne 9, (3, 1, 17, 16, 0, 0), 0, [])],
  [(.ldc2_w 113, (3, 0, 9, 0, 5121, 0), 0, []), (.goto 6, (3, 1, 18, 0, 0, 0), 0, [])],
  [(.ldc2_w 115, (3, 0, 99, 0, 5122, 0), 0, []), (.nop, (0, 1, 18, 0, 0, 0), 0, [])],
  [(.invokestatic 94, (3, 2, 127, 19, 3, 0), 5111, [])],
  [(.ifCond .ne 6, (3, 1, 21, 20, 0, 0), 0, [])],
  [(.bipush (-2), (2, 0, 0, 0, 0, 0), (-2), []), (.ireturn, (1, 3, 0, 0, 0, 0), 0, [])],
  [(.iload_n 1, (1, 0, 1, 0, 0, 0), 0, []), (.ifCond .ne 10, (3, 1, 23, 22, 0, 0), 0, [])],
  [(.aload_n 0, (1, 0, 0, 0, 0, 0), 0, []), (.getfield 23, (3, 0, 10, 7, 4187, 0), 0, []), (.goto 35, (3, 1, 28, 0, 0, 0), 0, [])],
  [(.iload_n 1, (1, 0, 1, 0, 0, 0), 0, []), (.iconst 1, (1, 0, 0, 0, 0, 0), 1, []), (.if_icmp .ne 10, (3, 1, 25, 24, 0, 0), 0, [])],
  [(.aload_n 0, (1, 0, 0, 0, 0, 0), 0, []), (.getfield 26, (3, 0, 10, 8, 4188, 0), 0, []), (.goto 23, (3, 1, 28, 0, 0, 0), 0, [])],
  [(.iload_n 1, (1, 0, 1, 0, 0, 0), 0, []), (.iconst 2, (1, 0, 0, 0, 0, 0), 2, []), (.if_icmp .ne 12, (3, 1, 27, 26, 0, 0), 0, [])],
  [(.aload_n 0, (1, 0, 0, 0, 0, 0), 0, []), (.getfield 35, (3, 0, 10, 11, 4191, 1), 0, []), (.iload_n 2, (1, 0, 2, 0, 0, 0), 0, []), (.iaload, (1, 0, 0, 0, 0, 0), 0, []), (.goto 9, (3, 1, 28, 0, 0, 0), 0, [])],
  [(.aload_n 0, (1, 0, 0, 0, 0, 0), 0, []), (.getfield 38, (3, 0, 10, 13, 4193, 1), 0, []), (.iload_n 2, (1, 0, 2, 0, 0, 0), 0, []), (.iaload, (1, 0, 0, 0, 0, 0), 0, []), (.nop, (0, 1, 28, 0, 0, 0), 0, [])],
  [(.istore 4, (2, 0, 4, 0, 0, 0), 0, []), (.iload_n 1, (1, 0, 1, 0, 0, 0), 0, []), (.ifCond .ne 11, (3, 1, 30, 29, 0, 0), 0, [])],
  [(.aload_n 0, (1, 0, 0, 0, 0, 0), 0, []), (.iload_n 3, (1, 0, 3, 0, 0, 0), 0, []), (.putfield 23, (3, 0, 10, 7, 4187, 0), 0, []), (.goto 38, (3, 1, 35, 0, 0, 0), 0, [])],
  [(.iload_n 1, (1, 0, 1, 0, 0, 0), 0, []), (.iconst 1, (1, 0, 0, 0, 0, 0), 1, []), (.if_icmp .ne 11, (3, 1, 32, 31, 0, 0), 0, [])],
  [(.aload_n 0, (1, 0, 0, 0, 0, 0), 0, []), (.iload_n 3, (1, 0, 3, 0, 0, 0), 0, []), (.putfield 26, (3, 0, 10, 8, 4188, 0), 0, []), (.goto 25, (3, 1, 35, 0, 0, 0), 0, [])],
  [(.iload_n 1, (1, 0, 1, 0, 0, 0), 0, []), (.iconst 2, (1, 0, 0, 0, 0, 0), 2, []), (.if_icmp .ne 13, (3, 1, 34, 33, 0, 0), 0, [])],
  [(.aload_n 0, (1, 0, 0, 0, 0, 0), 0, []), (.getfield 35, (3, 0, 10, 11, 4191, 1), 0, []), (.iload_n 2, (1, 0, 2, 0, 0, 0), 0, []), (.iload_n 3, (1, 0, 3, 0, 0, 0), 0, []), (.iastore, (1, 0, 0, 0, 0, 0), 0, []), (.goto 10, (3, 1, 35, 0, 0, 0), 0, [])],
  [(.aload_n 0, (1, 0, 0, 0, 0, 0), 0, []), (.getfield 38, (3, 0, 10, 13, 4193, 1), 0, []), (.iload_n 2, (1, 0, 2, 0, 0, 0), 0, []), (.iload_n 3, (1, 0, 3, 0, 0, 0), 0, []), (.iastore, (1, 0, 0, 0, 0, 0), 0, []), (.nop, (0, 1, 35, 0, 0, 0), 0, [])],
  [(.iconst 0, (1, 0, 0, 0, 0, 0), 0, []), (.istore 5, (2, 0, 5, 0, 0, 0), 0, []), (.nop, (0, 1, 36, 0, 0, 0), 0, [])],
  [(.iload 5, (2, 0, 5, 0, 0, 0), 0, []), (.bipush 24, (2, 0, 0, 0, 0, 0), 24, []), (.if_icmp .ge 22, (3, 1, 39, 37, 0, 0), 0, [])],
  [(.iload_n 1, (1, 0, 1, 0, 0, 0), 0, []), (.iconst 2, (1, 0, 0, 0, 0, 0), 2, []), (.if_icmp .ge 17, (3, 1, 39, 38, 0, 0), 0, [])],
  [(.aload_n 0, (1, 0, 0, 0, 0, 0), 0, []), (.getfield 29, (3, 0, 10, 9, 4189, 1), 0, []), (.iload 5, (2, 0, 5, 0, 0, 0), 0, []), (.iconst 0, (1, 0, 0, 0, 0, 0), 0, []), (.iastore, (1, 0, 0, 0, 0, 0), 0, []), (.iinc 5 1, (3, 0, 5, 0, 0, 0), 1, []), (.goto (-23), (3, 1, 36, 0, 0, 0), 0, [])],
  [(.iload 4, (2, 0, 4, 0, 0, 0), 0, []), (.ireturn, (1, 3, 0, 0, 0, 0), 0, [])]]
/-- EvenlyPouredModel.told(II)I -/
noncomputable def bk_134 : List (List am_P) := [[(.iload_n 2, (1, 0, 2, 0, 0, 0), 0, []), (.i2l, (1, 0, 0, 0, 0, 0), 0, []), (.lconst 0, (1, 0, 0, 0, 0, 0), 0, []), (.ldc2_w 117, (3, 0, 2, 0, 5127, 0), 0, []), (.invokestatic 94, (3, 2, 127, 1, 3, 0), 5111, [])],
  [(.ifCond .eq 31, (3, 1, 8, 2, 0, 0), 0, [])],
  [(.iload_n 2, (1, 0, 2, 0, 0, 0), 0, []), (.iconst 2, (1, 0, 0, 0, 0, 0), 2, []), (.if_icmp .ge 14, (3, 1, 6, 3, 0, 0), 0, [])],
  [(.aload_n 0, (1, 0, 0, 0, 0, 0), 0, []), (.iload_n 1, (1, 0, 1, 0, 0, 0), 0, []), (.invokevirtual 103, (3, 2, 132, 4, 2, 11), 5114, [])],
  [(.ifCond .eq 18, (3, 1, 8, 5, 0, 0), 0, [])],
  [(.goto 18, (3, 1, 9, 0, 0, 0), 0, [])],
  [(.iload_n 1, (1, 0, 1, 0, 0, 0), 0, []), (.i2l, (1, 0, 0, 0, 0, 0), 0, []), (.lconst 0, (1, 0, 0, 0, 0, 0), 0, []), (.ldc2_w 107, (3, 0, 7, 0, 5118, 0), 0, []), (.invokestatic 94, (3, 2, 127, 7, 3, 0), 5111, [])],
  [(.ifCond .ne 6, (3, 1, 9, 8, 0, 0), 0, [])],
  [(.bipush (-2), (2, 0, 0, 0, 0, 0), (-2), []), (.ireturn, (1, 3, 0, 0, 0, 0), 0, [])],
  [(.iload_n 2, (1, 0, 2, 0, 0, 0), 0, []), (.ifCond .ne 12, (3, 1, 11, 10, 0, 0), 0, [])],
  [(.aload_n 0, (1, 0, 0, 0, 0, 0), 0, []), (.getfield 35, (3, 0, 10, 11, 4191, 1), 0, []), (.iload_n 1, (1, 0, 1, 0, 0, 0), 0, []), (.iaload, (1, 0, 0, 0, 0, 0), 0, []), (.goto 23, (3, 1, 14, 0, 0, 0), 0, [])],
  [(.iload_n 2, (1, 0, 2, 0, 0, 0), 0, []), (.iconst 1, (1, 0, 0, 0, 0, 0), 1, []), (.if_icmp .ne 12, (3, 1, 13, 12, 0, 0), 0, [])],
  [(.aload_n 0, (1, 0, 0, 0, 0, 0), 0, []), (.getfield 32, (3, 0, 10, 10, 4190, 1), 0, []), (.iload_n 1, (1, 0, 1, 0, 0, 0), 0, []), (.iaload, (1, 0, 0, 0, 0, 0), 0, []), (.goto 9, (3, 1, 14, 0, 0, 0), 0, [])],
  [(.aload_n 0, (1, 0, 0, 0, 0, 0), 0, []), (.getfield 38, (3, 0, 10, 13, 4193, 1), 0, []), (.iload_n 1, (1, 0, 1, 0, 0, 0), 0, []), (.iaload, (1, 0, 0, 0, 0, 0), 0, []), (.nop, (0, 1, 14, 0, 0, 0), 0, [])],
  [(.ireturn, (1, 3, 0, 0, 0, 0), 0, [])]]
/-- EvenlyPouredModel.lay(II)I -/
noncomputable def bk_135 : List (List am_P) := [[(.iload_n 1, (1, 0, 1, 0, 0, 0), 0, []), (.i2l, (1, 0, 0, 0, 0, 0), 0, []), (.lconst 0, (1, 0, 0, 0, 0, 0), 0, []), (.aload_n 0, (1, 0, 0, 0, 0, 0), 0, []), (.getfield 26, (3, 0, 10, 8, 4188, 0), 0, []), (.iconst 1, (1, 0, 0, 0, 0, 0), 1, []), (.isub, (1, 0, 0, 0, 0, 0), 0, []), (.i2l, (1, 0, 0, 0, 0, 0), 0, []), (.invokestatic 94, (3, 2, 127, 1, 3, 0), 5111, [])],
  [(.ifCond .eq 11, (3, 1, 4, 2, 0, 0), 0, [])],
  [(.aload_n 0, (1, 0, 0, 0, 0, 0), 0, []), (.iload_n 2, (1, 0, 2, 0, 0, 0), 0, []), (.invokevirtual 119, (3, 2, 131, 3, 2, 11), 5132, [])],
  [(.ifCond .ne 6, (3, 1, 5, 4, 0, 0), 0, [])],
  [(.bipush (-2), (2, 0, 0, 0, 0, 0), (-2), []), (.ireturn, (1, 3, 0, 0, 0, 0), 0, [])],
  [(.aload_n 0, (1, 0, 0, 0, 0, 0), 0, []), (.getfield 29, (3, 0, 10, 9, 4189, 1), 0, []), (.iload_n 1, (1, 0, 1, 0, 0, 0), 0, []), (.iaload, (1, 0, 0, 0, 0, 0), 0, []), (.istore_n 3, (1, 0, 3, 0, 0, 0), 0, []), (.aload_n 0, (1, 0, 0, 0, 0, 0), 0, []), (.getfield 29, (3, 0, 10, 9, 4189, 1), 0, []), (.iload_n 1, (1, 0, 1, 0, 0, 0), 0, []), (.iload_n 2, (1, 0, 2, 0, 0, 0), 0, []), (.iastore, (1, 0, 0, 0, 0, 0), 0, []), (.iload_n 3, (1, 0, 3, 0, 0, 0), 0, []), (.ireturn, (1, 3, 0, 0, 0, 0), 0, [])]]
/-- EvenlyPouredModel.at(I)I -/
noncomputable def bk_136 : List (List am_P) := [[(.iload_n 1, (1, 0, 1, 0, 0, 0), 0, []), (.i2l, (1, 0, 0, 0, 0, 0), 0, []), (.lconst 0, (1, 0, 0, 0, 0, 0), 0, []), (.aload_n 0, (1, 0, 0, 0, 0, 0), 0, []), (.getfield 26, (3, 0, 10, 8, 4188, 0), 0, []), (.iconst 1, (1, 0, 0, 0, 0, 0), 1, []), (.isub, (1, 0, 0, 0, 0, 0), 0, []), (.i2l, (1, 0, 0, 0, 0, 0), 0, []), (.invokestatic 94, (3, 2, 127, 1, 3, 0), 5111, [])],
  [(.ifCond .eq 12, (3, 1, 3, 2, 0, 0), 0, [])],
  [(.aload_n 0, (1, 0, 0, 0, 0, 0), 0, []), (.getfield 29, (3, 0, 10, 9, 4189, 1), 0, []), (.iload_n 1, (1, 0, 1, 0, 0, 0), 0, []), (.iaload, (1, 0, 0, 0, 0, 0), 0, []), (.goto 5, (3, 1, 4, 0, 0, 0), 0, [])],
  [(.bipush (-2), (2, 0, 0, 0, 0, 0), (-2), []), (.nop, (0, 1, 4, 0, 0, 0), 0, [])],
  [(.ireturn, (1, 3, 0, 0, 0, 0), 0, [])]]
/-- EvenlyPouredModel.pourer(II)I -/
noncomputable def bk_137 : List (List am_P) := [[(.iload_n 1, (1, 0, 1, 0, 0, 0), 0, []), (.i2l, (1, 0, 0, 0, 0, 0), 0, []), (.lconst 0, (1, 0, 0, 0, 0, 0), 0, []), (.ldc2_w 122, (3, 0, 5, 0, 5144, 0), 0, []), (.invokestatic 94, (3, 2, 127, 1, 3, 0), 5111, [])],
  [(.ifCond .eq 15, (3, 1, 4, 2, 0, 0), 0, [])],
  [(.iload_n 2, (1, 0, 2, 0, 0, 0), 0, []), (.i2l, (1, 0, 0, 0, 0, 0), 0, []), (.lconst 0, (1, 0, 0, 0, 0, 0), 0, []), (.ldc2_w 113, (3, 0, 9, 0, 5121, 0), 0, []), (.invokestatic 94, (3, 2, 127, 3, 3, 0), 5111, [])],
  [(.ifCond .ne 6, (3, 1, 5, 4, 0, 0), 0, [])],
  [(.bipush (-2), (2, 0, 0, 0, 0, 0), (-2), []), (.ireturn, (1, 3, 0, 0, 0, 0), 0, [])],
  [(.aload_n 0, (1, 0, 0, 0, 0, 0), 0, []), (.getfield 98, (3, 0, 10, 12, 4192, 0), 0, []), (.bipush 6, (2, 0, 0, 0, 0, 0), 6, []), (.if_icmp .ne 6, (3, 1, 7, 6, 0, 0), 0, [])],
  [(.bipush (-4), (2, 0, 0, 0, 0, 0), (-4), []), (.ireturn, (1, 3, 0, 0, 0, 0), 0, [])],
  [(.aload_n 0, (1, 0, 0, 0, 0, 0), 0, []), (.getfield 32, (3, 0, 10, 10, 4190, 1), 0, []), (.aload_n 0, (1, 0, 0, 0, 0, 0), 0, []), (.getfield 98, (3, 0, 10, 12, 4192, 0), 0, []), (.iload_n 1, (1, 0, 1, 0, 0, 0), 0, []), (.iastore, (1, 0, 0, 0, 0, 0), 0, []), (.aload_n 0, (1, 0, 0, 0, 0, 0), 0, []), (.getfield 35, (3, 0, 10, 11, 4191, 1), 0, []), (.aload_n 0, (1, 0, 0, 0, 0, 0), 0, []), (.getfield 98, (3, 0, 10, 12, 4192, 0), 0, []), (.iload_n 2, (1, 0, 2, 0, 0, 0), 0, []), (.iastore, (1, 0, 0, 0, 0, 0), 0, []), (.aload_n 0, (1, 0, 0, 0, 0, 0), 0, []), (.dup, (1, 0, 0, 0, 0, 0), 0, []), (.getfield 98, (3, 0, 10, 12, 4192, 0), 0, []), (.iconst 1, (1, 0, 0, 0, 0, 0), 1, []), (.iadd, (1, 0, 0, 0, 0, 0), 0, []), (.putfield 98, (3, 0, 10, 12, 4192, 0), 0, []), (.aload_n 0, (1, 0, 0, 0, 0, 0), 0, []), (.getfield 98, (3, 0, 10, 12, 4192, 0), 0, []), (.iconst 1, (1, 0, 0, 0, 0, 0), 1, []), (.isub, (1, 0, 0, 0, 0, 0), 0, []), (.ireturn, (1, 3, 0, 0, 0, 0), 0, [])]]
/-- EvenlyPouredModel.feed(I)I -/
noncomputable def bk_138 : List (List am_P) := [[(.iload_n 1, (1, 0, 1, 0, 0, 0), 0, []), (.i2l, (1, 0, 0, 0, 0, 0), 0, []), (.lconst 0, (1, 0, 0, 0, 0, 0), 0, []), (.ldc2_w 124, (3, 0, 255, 0, 5149, 0), 0, []), (.invokestatic 94, (3, 2, 127, 1, 3, 0), 5111, [])],
  [(.ifCond .ne 6, (3, 1, 3, 2, 0, 0), 0, [])],
  [(.bipush (-2), (2, 0, 0, 0, 0, 0), (-2), []), (.ireturn, (1, 3, 0, 0, 0, 0), 0, [])],
  [(.aload_n 0, (1, 0, 0, 0, 0, 0), 0, []), (.getfield 126, (3, 0, 10, 6, 4186, 0), 0, []), (.sipush 160, (3, 0, 0, 0, 0, 0), 160, []), (.if_icmp .ne 6, (3, 1, 5, 4, 0, 0), 0, [])],
  [(.bipush (-4), (2, 0, 0, 0, 0, 0), (-4), []), (.ireturn, (1, 3, 0, 0, 0, 0), 0, [])],
  [(.aload_n 0, (1, 0, 0, 0, 0, 0), 0, []), (.getfield 20, (3, 0, 10, 5, 4185, 1), 0, []), (.aload_n 0, (1, 0, 0, 0, 0, 0), 0, []), (.getfield 126, (3, 0, 10, 6, 4186, 0), 0, []), (.iload_n 1, (1, 0, 1, 0, 0, 0), 0, []), (.iastore, (1, 0, 0, 0, 0, 0), 0, []), (.aload_n 0, (1, 0, 0, 0, 0, 0), 0, []), (.dup, (1, 0, 0, 0, 0, 0), 0, []), (.getfield 126, (3, 0, 10, 6, 4186, 0), 0, []), (.iconst 1, (1, 0, 0, 0, 0, 0), 1, []), (.iadd, (1, 0, 0, 0, 0, 0), 0, []), (.putfield 126, (3, 0, 10, 6, 4186, 0), 0, []), (.aload_n 0, (1, 0, 0, 0, 0, 0), 0, []), (.getfield 126, (3, 0, 10, 6, 4186, 0), 0, []), (.ireturn, (1, 3, 0, 0, 0, 0), 0, [])]]
/-- EvenlyPouredModel.byteAt(I)I -/
noncomputable def bk_139 : List (List am_P) := [[(.iload_n 1, (1, 0, 1, 0, 0, 0), 0, []), (.aload_n 0, (1, 0, 0, 0, 0, 0), 0, []), (.getfield 129, (3, 0, 10, 21, 4201, 0), 0, []), (.if_icmp .ge 17, (3, 1, 2, 1, 0, 0), 0, [])],
  [(.aload_n 0, (1, 0, 0, 0, 0, 0), 0, []), (.getfield 13, (3, 0, 10, 1, 4181, 1), 0, []), (.aload_n 0, (1, 0, 0, 0, 0, 0), 0, []), (.getfield 132, (3, 0, 10, 20, 4200, 0), 0, []), (.iload_n 1, (1, 0, 1, 0, 0, 0), 0, []), (.iadd, (1, 0, 0, 0, 0, 0), 0, []), (.iaload, (1, 0, 0, 0, 0, 0), 0, []), (.goto 4, (3, 1, 3, 0, 0, 0), 0, [])],
  [(.iconst (-1), (1, 0, 0, 0, 0, 0), (-1), []), (.nop, (0, 1, 3, 0, 0, 0), 0, [])],
  [(.ireturn, (1, 3, 0, 0, 0, 0), 0, [])]]
/-- EvenlyPouredModel.nextToken()V -/
noncomputable def bk_140 : List (List am_P) := [[(.aload_n 0, (1, 0, 0, 0, 0, 0), 0, []), (.aload_n 0, (1, 0, 0, 0, 0, 0), 0, []), (.getfield 135, (3, 0, 10, 22, 4202, 0), 0, []), (.invokevirtual 138, (3, 2, 139, 1, 2, 11), 5162, [])],
  [(.bipush 32, (2, 0, 0, 0, 0, 0), 32, []), (.if_icmp .eq 16, (3, 1, 4, 2, 0, 0), 0, [])],
  [(.aload_n 0, (1, 0, 0, 0, 0, 0), 0, []), (.aload_n 0, (1, 0, 0, 0, 0, 0), 0, []), (.getfield 135, (3, 0, 10, 22, 4202, 0), 0, []), (.invokevirtual 138, (3, 2, 139, 3, 2, 11), 5162, [])],
  [(.bipush 10, (2, 0, 0, 0, 0, 0), 10, []), (.if_icmp .ne 16, (3, 1, 5, 4, 0, 0), 0, [])],
  [(.aload_n 0, (1, 0, 0, 0, 0, 0), 0, []), (.dup, (1, 0, 0, 0, 0, 0), 0, []), (.getfield 135, (3, 0, 10, 22, 4202, 0), 0, []), (.iconst 1, (1, 0, 0, 0, 0, 0), 1, []), (.iadd, (1, 0, 0, 0, 0, 0), 0, []), (.putfield 135, (3, 0, 10, 22, 4202, 0), 0, []), (.goto (-36), (3, 1, 0, 0, 0, 0), 0, [])],
  [(.aload_n 0, (1, 0, 0, 0, 0, 0), 0, []), (.aload_n 0, (1, 0, 0, 0, 0, 0), 0, []), (.getfield 135, (3, 0, 10, 22, 4202, 0), 0, []), (.putfield 142, (3, 0, 10, 24, 4204, 0), 0, []), (.aload_n 0, (1, 0, 0, 0, 0, 0), 0, []), (.aload_n 0, (1, 0, 0, 0, 0, 0), 0, []), (.getfield 135, (3, 0, 10, 22, 4202, 0), 0, []), (.invokevirtual 138, (3, 2, 139, 6, 2, 11), 5162, [])],
  [(.istore_n 1, (1, 0, 1, 0, 0, 0), 0, []), (.aload_n 0, (1, 0, 0, 0, 0, 0), 0, []), (.iconst 4, (1, 0, 0, 0, 0, 0), 4, []), (.putfield 145, (3, 0, 10, 23, 4203, 0), 0, []), (.iload_n 1, (1, 0, 1, 0, 0, 0), 0, []), (.ifCond .ge 19, (3, 1, 8, 7, 0, 0), 0, [])],
  [(.aload_n 0, (1, 0, 0, 0, 0, 0), 0, []), (.iconst 0, (1, 0, 0, 0, 0, 0), 0, []), (.putfield 145, (3, 0, 10, 23, 4203, 0), 0, []), (.aload_n 0, (1, 0, 0, 0, 0, 0), 0, []), (.aload_n 0, (1, 0, 0, 0, 0, 0), 0, []), (.getfield 129, (3, 0, 10, 21, 4201, 0), 0, []), (.putfield 142, (3, 0, 10, 24, 4204, 0), 0, []), (.goto 243, (3, 1, 39, 0, 0, 0), 0, [])],
  [(.iload_n 1, (1, 0, 1, 0, 0, 0), 0, []), (.i2l, (1, 0, 0, 0, 0, 0), 0, []), (.ldc2_w 148, (3, 0, 97, 0, 5166, 0), 0, []), (.ldc2_w 150, (3, 0, 122, 0, 5167, 0), 0, []), (.invokestatic 94, (3, 2, 127, 9, 3, 0), 5111, [])],
  [(.ifCond .eq 42, (3, 1, 15, 10, 0, 0), 0, [])],
  [(.aload_n 0, (1, 0, 0, 0, 0, 0), 0, []), (.iconst 1, (1, 0, 0, 0, 0, 0), 1, []), (.putfield 145, (3, 0, 10, 23, 4203, 0), 0, []), (.nop, (0, 1, 11, 0, 0, 0), 0, [])],
  [(.aload_n 0, (1, 0, 0, 0, 0, 0), 0, []), (.aload_n 0, (1, 0, 0, 0, 0, 0), 0, []), (.getfield 135, (3, 0, 10, 22, 4202, 0), 0, []), (.invokevirtual 138, (3, 2, 139, 12, 2, 11), 5162, [])],
  [(.i2l, (1, 0, 0, 0, 0, 0), 0, []), (.ldc2_w 148, (3, 0, 97, 0, 5166, 0), 0, []), (.ldc2_w 150, (3, 0, 122, 0, 5167, 0), 0, []), (.invokestatic 94, (3, 2, 127, 13, 3, 0), 5111, [])],
  [(.ifCond .eq 203, (3, 1, 39, 14, 0, 0), 0, [])],
  [(.aload_n 0, (1, 0, 0, 0, 0, 0), 0, []), (.dup, (1, 0, 0, 0, 0, 0), 0, []), (.getfield 135, (3, 0, 10, 22, 4202, 0), 0, []), (.iconst 1, (1, 0, 0, 0, 0, 0), 1, []), (.iadd, (1, 0, 0, 0, 0, 0), 0, []), (.putfield 135, (3, 0, 10, 22, 4202, 0), 0, []), (.goto (-31), (3, 1, 11, 0, 0, 0), 0, [])],
  [(.iload_n 1, (1, 0, 1, 0, 0, 0), 0, []), (.i2l, (1, 0, 0, 0, 0, 0), 0, []), (.ldc2_w 152, (3, 0, 48, 0, 5168, 0), 0, []), (.ldc2_w 154, (3, 0, 57, 0, 5169, 0), 0, []), (.invokestatic 94, (3, 2, 127, 16, 3, 0), 5111, [])],
  [(.ifCond .eq 107, (3, 1, 30, 17, 0, 0), 0, [])],
  [(.aload_n 0, (1, 0, 0, 0, 0, 0), 0, []), (.iconst 2, (1, 0, 0, 0, 0, 0), 2, []), (.putfield 145, (3, 0, 10, 23, 4203, 0), 0, []), (.aload_n 0, (1, 0, 0, 0, 0, 0), 0, []), (.lconst 0, (1, 0, 0, 0, 0, 0), 0, []), (.putfield 156, (3, 0, 10, 25, 4205, 2), 0, []), (.iconst 0, (1, 0, 0, 0, 0, 0), 0, []), (.istore_n 2, (1, 0, 2, 0, 0, 0), 0, []), (.nop, (0, 1, 18, 0, 0, 0), 0, [])],
  [(.aload_n 0, (1, 0, 0, 0, 0, 0), 0, []), (.aload_n 0, (1, 0, 0, 0, 0, 0), 0, []), (.getfield 135, (3, 0, 10, 22, 4202, 0), 0, []), (.invokevirtual 138, (3, 2, 139, 19, 2, 11), 5162, [])],
  [(.i2l, (1, 0, 0, 0, 0, 0), 0, []), (.ldc2_w 152, (3, 0, 48, 0, 5168, 0), 0, []), (.ldc2_w 154, (3, 0, 57, 0, 5169, 0), 0, []), (.invokestatic 94, (3, 2, 127, 20, 3, 0), 5111, [])],
  [(.ifCond .eq 57, (3, 1, 26, 21, 0, 0), 0, [])],
  [(.aload_n 0, (1, 0, 0, 0, 0, 0), 0, []), (.iload_n 2, (1, 0, 2, 0, 0, 0), 0, []), (.iconst 4, (1, 0, 0, 0, 0, 0), 4, []), (.if_icmp .ge 28, (3, 1, 24, 22, 0, 0), 0, [])],
  [(.ldc2_w 160, (3, 0, 10, 0, 5170, 0), 0, []), (.aload_n 0, (1, 0, 0, 0, 0, 0), 0, []), (.getfield 156, (3, 0, 10, 25, 4205, 2), 0, []), (.lmul, (1, 0, 0, 0, 0, 0), 0, []), (.aload_n 0, (1, 0, 0, 0, 0, 0), 0, []), (.aload_n 0, (1, 0, 0, 0, 0, 0), 0, []), (.getfield 135, (3, 0, 10, 22, 4202, 0), 0, []), (.invokevirtual 138, (3, 2, 139, 23, 2, 11), 5162, [])],
  [(.i2l, (1, 0, 0, 0, 0, 0), 0, []), (.ladd, (1, 0, 0, 0, 0, 0), 0, []), (.ldc2_w 152, (3, 0, 48, 0, 5168, 0), 0, []), (.lsub, (1, 0, 0, 0, 0, 0), 0, []), (.goto 7, (3, 1, 25, 0, 0, 0), 0, [])],
  [(.aload_n 0, (1, 0, 0, 0, 0, 0), 0, []), (.getfield 156, (3, 0, 10, 25, 4205, 2), 0, []), (.nop, (0, 1, 25, 0, 0, 0), 0, [])],
  [(.putfield 156, (3, 0, 10, 25, 4205, 2), 0, []), (.iinc 2 1, (3, 0, 2, 0, 0, 0), 1, []), (.aload_n 0, (1, 0, 0, 0, 0, 0), 0, []), (.dup, (1, 0, 0, 0, 0, 0), 0, []), (.getfield 135, (3, 0, 10, 22, 4202, 0), 0, []), (.iconst 1, (1, 0, 0, 0, 0, 0), 1, []), (.iadd, (1, 0, 0, 0, 0, 0), 0, []), (.putfield 135, (3, 0, 10, 22, 4202, 0), 0, []), (.goto (-72), (3, 1, 18, 0, 0, 0), 0, [])],
  [(.aload_n 0, (1, 0, 0, 0, 0, 0), 0, []), (.iload_n 2, (1, 0, 2, 0, 0, 0), 0, []), (.iconst 4, (1, 0, 0, 0, 0, 0), 4, []), (.if_icmp .le 7, (3, 1, 28, 27, 0, 0), 0, [])],
  [(.iconst 4, (1, 0, 0, 0, 0, 0), 4, []), (.goto 4, (3, 1, 29, 0, 0, 0), 0, [])],
  [(.iconst 2, (1, 0, 0, 0, 0, 0), 2, []), (.nop, (0, 1, 29, 0, 0, 0), 0, [])],
  [(.putfield 145, (3, 0, 10, 23, 4203, 0), 0, []), (.goto 72, (3, 1, 39, 0, 0, 0), 0, [])],
  [(.iload_n 1, (1, 0, 1, 0, 0, 0), 0, []), (.bipush 40, (2, 0, 0, 0, 0, 0), 40, []), (.if_icmp .eq 45, (3, 1, 38, 31, 0, 0), 0, [])],
  [(.iload_n 1, (1, 0, 1, 0, 0, 0), 0, []), (.bipush 41, (2, 0, 0, 0, 0, 0), 41, []), (.if_icmp .eq 39, (3, 1, 38, 32, 0, 0), 0, [])],
  [(.iload_n 1, (1, 0, 1, 0, 0, 0), 0, []), (.bipush 59, (2, 0, 0, 0, 0, 0), 59, []), (.if_icmp .eq 33, (3, 1, 38, 33, 0, 0), 0, [])],
  [(.iload_n 1, (1, 0, 1, 0, 0, 0), 0, []), (.bipush 43, (2, 0, 0, 0, 0, 0), 43, []), (.if_icmp .eq 27, (3, 1, 38, 34, 0, 0), 0, [])],
  [(.iload_n 1, (1, 0, 1, 0, 0, 0), 0, []), (.bipush 45, (2, 0, 0, 0, 0, 0), 45, []), (.if_icmp .eq 21, (3, 1, 38, 35, 0, 0), 0, [])],
  [(.iload_n 1, (1, 0, 1, 0, 0, 0), 0, []), (.bipush 42, (2, 0, 0, 0, 0, 0), 42, []), (.if_icmp .eq 15, (3, 1, 38, 36, 0, 0), 0, [])],
  [(.iload_n 1, (1, 0, 1, 0, 0, 0), 0, []), (.bipush 60, (2, 0, 0, 0, 0, 0), 60, []), (.if_icmp .eq 9, (3, 1, 38, 37, 0, 0), 0, [])],
  [(.iload_n 1, (1, 0, 1, 0, 0, 0), 0, []), (.bipush 61, (2, 0, 0, 0, 0, 0), 61, []), (.if_icmp .ne 24, (3, 1, 39, 38, 0, 0), 0, [])],
  [(.aload_n 0, (1, 0, 0, 0, 0, 0), 0, []), (.iconst 3, (1, 0, 0, 0, 0, 0), 3, []), (.putfield 145, (3, 0, 10, 23, 4203, 0), 0, []), (.aload_n 0, (1, 0, 0, 0, 0, 0), 0, []), (.iload_n 1, (1, 0, 1, 0, 0, 0), 0, []), (.i2l, (1, 0, 0, 0, 0, 0), 0, []), (.putfield 156, (3, 0, 10, 25, 4205, 2), 0, []), (.aload_n 0, (1, 0, 0, 0, 0, 0), 0, []), (.dup, (1, 0, 0, 0, 0, 0), 0, []), (.getfield 135, (3, 0, 10, 22, 4202, 0), 0, []), (.iconst 1, (1, 0, 0, 0, 0, 0), 1, []), (.iadd, (1, 0, 0, 0, 0, 0), 0, []), (.putfield 135, (3, 0, 10, 22, 4202, 0), 0, []), (.nop, (0, 1, 39, 0, 0, 0), 0, [])],
  [(.return_, (1, 3, 0, 0, 0, 0), 0, [])]]
/-- EvenlyPouredModel.fail()V -/
noncomputable def bk_141 : List (List am_P) := [[(.aload_n 0, (1, 0, 0, 0, 0, 0), 0, []), (.getfield 162, (3, 0, 10, 27, 4207, 3), 0, []), (.ifCond .ne 16, (3, 1, 2, 1, 0, 0), 0, [])],
  [(.aload_n 0, (1, 0, 0, 0, 0, 0), 0, []), (.iconst 1, (1, 0, 0, 0, 0, 0), 1, []), (.putfield 162, (3, 0, 10, 27, 4207, 3), 0, []), (.aload_n 0, (1, 0, 0, 0, 0, 0), 0, []), (.aload_n 0, (1, 0, 0, 0, 0, 0), 0, []), (.getfield 142, (3, 0, 10, 24, 4204, 0), 0, []), (.putfield 166, (3, 0, 10, 28, 4208, 0), 0, []), (.nop, (0, 1, 2, 0, 0, 0), 0, [])],
  [(.return_, (1, 3, 0, 0, 0, 0), 0, [])]]
/-- EvenlyPouredModel.isLetter(II)Z -/
noncomputable def bk_142 : List (List am_P) := [[(.aload_n 0, (1, 0, 0, 0, 0, 0), 0, []), (.getfield 142, (3, 0, 10, 24, 4204, 0), 0, []), (.iload_n 1, (1, 0, 1, 0, 0, 0), 0, []), (.iadd, (1, 0, 0, 0, 0, 0), 0, []), (.aload_n 0, (1, 0, 0, 0, 0, 0), 0, []), (.getfield 135, (3, 0, 10, 22, 4202, 0), 0, []), (.if_icmp .ge 25, (3, 1, 5, 1, 0, 0), 0, [])],
  [(.aload_n 0, (1, 0, 0, 0, 0, 0), 0, []), (.aload_n 0, (1, 0, 0, 0, 0, 0), 0, []), (.getfield 142, (3, 0, 10, 24, 4204, 0), 0, []), (.iload_n 1, (1, 0, 1, 0, 0, 0), 0, []), (.iadd, (1, 0, 0, 0, 0, 0), 0, []), (.invokevirtual 138, (3, 2, 139, 2, 2, 11), 5162, [])],
  [(.iload_n 2, (1, 0, 2, 0, 0, 0), 0, []), (.if_icmp .ne 7, (3, 1, 4, 3, 0, 0), 0, [])],
  [(.iconst 1, (1, 0, 0, 0, 0, 0), 1, []), (.goto 16, (3, 1, 8, 0, 0, 0), 0, [])],
  [(.iconst 0, (1, 0, 0, 0, 0, 0), 0, []), (.goto 12, (3, 1, 8, 0, 0, 0), 0, [])],
  [(.iload_n 2, (1, 0, 2, 0, 0, 0), 0, []), (.ifCond .ne 7, (3, 1, 7, 6, 0, 0), 0, [])],
  [(.iconst 1, (1, 0, 0, 0, 0, 0), 1, []), (.goto 4, (3, 1, 8, 0, 0, 0), 0, [])],
  [(.iconst 0, (1, 0, 0, 0, 0, 0), 0, []), (.nop, (0, 1, 8, 0, 0, 0), 0, [])],
  [(.ireturn, (1, 3, 0, 0, 0, 1), 0, [])]]
/-- EvenlyPouredModel.isWord(IIIIIIII)Z -/
noncomputable def bk_143 : List (List am_P) := [[(.aload_n 0, (1, 0, 0, 0, 0, 0), 0, []), (.getfield 162, (3, 0, 10, 27, 4207, 3), 0, []), (.ifCond .ne 108, (3, 1, 20, 1, 0, 0), 0, [])],
  [(.aload_n 0, (1, 0, 0, 0, 0, 0), 0, []), (.getfield 145, (3, 0, 10, 23, 4203, 0), 0, []), (.iconst 1, (1, 0, 0, 0, 0, 0), 1, []), (.if_icmp .ne 100, (3, 1, 20, 2, 0, 0), 0, [])],
  [(.aload_n 0, (1, 0, 0, 0, 0, 0), 0, []), (.getfield 135, (3, 0, 10, 22, 4202, 0), 0, []), (.aload_n 0, (1, 0, 0, 0, 0, 0), 0, []), (.getfield 142, (3, 0, 10, 24, 4204, 0), 0, []), (.bipush 8, (2, 0, 0, 0, 0, 0), 8, []), (.iadd, (1, 0, 0, 0, 0, 0), 0, []), (.if_icmp .gt 86, (3, 1, 20, 3, 0, 0), 0, [])],
  [(.aload_n 0, (1, 0, 0, 0, 0, 0), 0, []), (.iconst 0, (1, 0, 0, 0, 0, 0), 0, []), (.iload_n 1, (1, 0, 1, 0, 0, 0), 0, []), (.invokevirtual 169, (3, 2, 142, 4, 3, 11), 5175, [])],
  [(.ifCond .eq 77, (3, 1, 20, 5, 0, 0), 0, [])],
  [(.aload_n 0, (1, 0, 0, 0, 0, 0), 0, []), (.iconst 1, (1, 0, 0, 0, 0, 0), 1, []), (.iload_n 2, (1, 0, 2, 0, 0, 0), 0, []), (.invokevirtual 169, (3, 2, 142, 6, 3, 11), 5175, [])],
  [(.ifCond .eq 68, (3, 1, 20, 7, 0, 0), 0, [])],
  [(.aload_n 0, (1, 0, 0, 0, 0, 0), 0, []), (.iconst 2, (1, 0, 0, 0, 0, 0), 2, []), (.iload_n 3, (1, 0, 3, 0, 0, 0), 0, []), (.invokevirtual 169, (3, 2, 142, 8, 3, 11), 5175, [])],
  [(.ifCond .eq 59, (3, 1, 20, 9, 0, 0), 0, [])],
  [(.aload_n 0, (1, 0, 0, 0, 0, 0), 0, []), (.iconst 3, (1, 0, 0, 0, 0, 0), 3, []), (.iload 4, (2, 0, 4, 0, 0, 0), 0, []), (.invokevirtual 169, (3, 2, 142, 10, 3, 11), 5175, [])],
  [(.ifCond .eq 49, (3, 1, 20, 11, 0, 0), 0, [])],
  [(.aload_n 0, (1, 0, 0, 0, 0, 0), 0, []), (.iconst 4, (1, 0, 0, 0, 0, 0), 4, []), (.iload 5, (2, 0, 5, 0, 0, 0), 0, []), (.invokevirtual 169, (3, 2, 142, 12, 3, 11), 5175, [])],
  [(.ifCond .eq 39, (3, 1, 20, 13, 0, 0), 0, [])],
  [(.aload_n 0, (1, 0, 0, 0, 0, 0), 0, []), (.iconst 5, (1, 0, 0, 0, 0, 0), 5, []), (.iload 6, (2, 0, 6, 0, 0, 0), 0, []), (.invokevirtual 169, (3, 2, 142, 14, 3, 11), 5175, [])],
  [(.ifCond .eq 29, (3, 1, 20, 15, 0, 0), 0, [])],
  [(.aload_n 0, (1, 0, 0, 0, 0, 0), 0, []), (.bipush 6, (2, 0, 0, 0, 0, 0), 6, []), (.iload 7, (2, 0, 7, 0, 0, 0), 0, []), (.invokevirtual 169, (3, 2, 142, 16, 3, 11), 5175, [])],
  [(.ifCond .eq 18, (3, 1, 20, 17, 0, 0), 0, [])],
  [(.aload_n 0, (1, 0, 0, 0, 0, 0), 0, []), (.bipush 7, (2, 0, 0, 0, 0, 0), 7, []), (.iload 8, (2, 0, 8, 0, 0, 0), 0, []), (.invokevirtual 169, (3, 2, 142, 18, 3, 11), 5175, [])],
  [(.ifCond .eq 7, (3, 1, 20, 19, 0, 0), 0, [])],
  [(.iconst 1, (1, 0, 0, 0, 0, 0), 1, []), (.goto 4, (3, 1, 21, 0, 0, 0), 0, [])],
  [(.iconst 0, (1, 0, 0, 0, 0, 0), 0, []), (.nop, (0, 1, 21, 0, 0, 0), 0, [])],
  [(.ireturn, (1, 3, 0, 0, 0, 1), 0, [])]]
/-- EvenlyPouredModel.isSign(I)Z -/
noncomputable def bk_144 : List (List am_P) := [[(.aload_n 0, (1, 0, 0, 0, 0, 0), 0, []), (.getfield 162, (3, 0, 10, 27, 4207, 3), 0, []), (.ifCond .ne 25, (3, 1, 4, 1, 0, 0), 0, [])],
  [(.aload_n 0, (1, 0, 0, 0, 0, 0), 0, []), (.getfield 145, (3, 0, 10, 23, 4203, 0), 0, []), (.iconst 3, (1, 0, 0, 0, 0, 0), 3, []), (.if_icmp .ne 17, (3, 1, 4, 2, 0, 0), 0, [])],
  [(.aload_n 0, (1, 0, 0, 0, 0, 0), 0, []), (.getfield 156, (3, 0, 10, 25, 4205, 2), 0, []), (.iload_n 1, (1, 0, 1, 0, 0, 0), 0, []), (.i2l, (1, 0, 0, 0, 0, 0), 0, []), (.lcmp, (1, 0, 0, 0, 0, 0), 0, []), (.ifCond .ne 7, (3, 1, 4, 3, 0, 0), 0, [])],
  [(.iconst 1, (1, 0, 0, 0, 0, 0), 1, []), (.goto 4, (3, 1, 5, 0, 0, 0), 0, [])],
  [(.iconst 0, (1, 0, 0, 0, 0, 0), 0, []), (.nop, (0, 1, 5, 0, 0, 0), 0, [])],
  [(.ireturn, (1, 3, 0, 0, 0, 1), 0, [])]]
/-- EvenlyPouredModel.opens()Z -/
noncomputable def bk_145 : List (List am_P) := [[(.aload_n 0, (1, 0, 0, 0, 0, 0), 0, []), (.getfield 173, (3, 0, 10, 26, 4206, 0), 0, []), (.iconst 5, (1, 0, 0, 0, 0, 0), 5, []), (.if_icmp .ne 9, (3, 1, 3, 1, 0, 0), 0, [])],
  [(.aload_n 0, (1, 0, 0, 0, 0, 0), 0, []), (.invokevirtual 176, (3, 2, 141, 2, 1, 11), 5183, [])],
  [(.iconst 0, (1, 0, 0, 0, 0, 0), 0, []), (.ireturn, (1, 3, 0, 0, 0, 1), 0, [])],
  [(.aload_n 0, (1, 0, 0, 0, 0, 0), 0, []), (.dup, (1, 0, 0, 0, 0, 0), 0, []), (.getfield 173, (3, 0, 10, 26, 4206, 0), 0, []), (.iconst 1, (1, 0, 0, 0, 0, 0), 1, []), (.iadd, (1, 0, 0, 0, 0, 0), 0, []), (.putfield 173, (3, 0, 10, 26, 4206, 0), 0, []), (.aload_n 0, (1, 0, 0, 0, 0, 0), 0, []), (.invokevirtual 179, (3, 2, 140, 4, 1, 11), 5158, [])],
  [(.iconst 1, (1, 0, 0, 0, 0, 0), 1, []), (.ireturn, (1, 3, 0, 0, 0, 1), 0, [])]]
/-- EvenlyPouredModel.name()I -/
noncomputable def bk_146 : List (List am_P) := [[(.aload_n 0, (1, 0, 0, 0, 0, 0), 0, []), (.bipush 100, (2, 0, 0, 0, 0, 0), 100, []), (.bipush 114, (2, 0, 0, 0, 0, 0), 114, []), (.bipush 105, (2, 0, 0, 0, 0, 0), 105, []), (.bipush 98, (2, 0, 0, 0, 0, 0), 98, []), (.iconst 0, (1, 0, 0, 0, 0, 0), 0, []), (.iconst 0, (1, 0, 0, 0, 0, 0), 0, []), (.iconst 0, (1, 0, 0, 0, 0, 0), 0, []), (.iconst 0, (1, 0, 0, 0, 0, 0), 0, []), (.invokevirtual 182, (3, 2, 143, 1, 9, 11), 5171, [])],
  [(.ifCond .eq 8, (3, 1, 3, 2, 0, 0), 0, [])],
  [(.aload_n 0, (1, 0, 0, 0, 0, 0), 0, []), (.getfield 186, (3, 0, 10, 14, 4194, 0), 0, []), (.ireturn, (1, 3, 0, 0, 0, 0), 0, [])],
  [(.aload_n 0, (1, 0, 0, 0, 0, 0), 0, []), (.bipush 100, (2, 0, 0, 0, 0, 0), 100, []), (.bipush 114, (2, 0, 0, 0, 0, 0), 114, []), (.bipush 105, (2, 0, 0, 0, 0, 0), 105, []), (.bipush 98, (2, 0, 0, 0, 0, 0), 98, []), (.bipush 115, (2, 0, 0, 0, 0, 0), 115, []), (.iconst 0, (1, 0, 0, 0, 0, 0), 0, []), (.iconst 0, (1, 0, 0, 0, 0, 0), 0, []), (.iconst 0, (1, 0, 0, 0, 0, 0), 0, []), (.invokevirtual 182, (3, 2, 143, 4, 9, 11), 5171, [])],
  [(.ifCond .eq 8, (3, 1, 6, 5, 0, 0), 0, [])],
  [(.aload_n 0, (1, 0, 0, 0, 0, 0), 0, []), (.getfield 189, (3, 0, 10, 15, 4195, 0), 0, []), (.ireturn, (1, 3, 0, 0, 0, 0), 0, [])],
  [(.aload_n 0, (1, 0, 0, 0, 0, 0), 0, []), (.bipush 99, (2, 0, 0, 0, 0, 0), 99, []), (.bipush 117, (2, 0, 0, 0, 0, 0), 117, []), (.bipush 112, (2, 0, 0, 0, 0, 0), 112, []), (.bipush 115, (2, 0, 0, 0, 0, 0), 115, []), (.iconst 0, (1, 0, 0, 0, 0, 0), 0, []), (.iconst 0, (1, 0, 0, 0, 0, 0), 0, []), (.iconst 0, (1, 0, 0, 0, 0, 0), 0, []), (.iconst 0, (1, 0, 0, 0, 0, 0), 0, []), (.invokevirtual 182, (3, 2, 143, 7, 9, 11), 5171, [])],
  [(.ifCond .eq 8, (3, 1, 9, 8, 0, 0), 0, [])],
  [(.aload_n 0, (1, 0, 0, 0, 0, 0), 0, []), (.getfield 192, (3, 0, 10, 16, 4196, 0), 0, []), (.ireturn, (1, 3, 0, 0, 0, 0), 0, [])],
  [(.aload_n 0, (1, 0, 0, 0, 0, 0), 0, []), (.bipush 99, (2, 0, 0, 0, 0, 0), 99, []), (.bipush 117, (2, 0, 0, 0, 0, 0), 117, []), (.bipush 112, (2, 0, 0, 0, 0, 0), 112, []), (.iconst 0, (1, 0, 0, 0, 0, 0), 0, []), (.iconst 0, (1, 0, 0, 0, 0, 0), 0, []), (.iconst 0, (1, 0, 0, 0, 0, 0), 0, []), (.iconst 0, (1, 0, 0, 0, 0, 0), 0, []), (.iconst 0, (1, 0, 0, 0, 0, 0), 0, []), (.invokevirtual 182, (3, 2, 143, 10, 9, 11), 5171, [])],
  [(.ifCond .eq 8, (3, 1, 12, 11, 0, 0), 0, [])],
  [(.aload_n 0, (1, 0, 0, 0, 0, 0), 0, []), (.getfield 195, (3, 0, 10, 17, 4197, 0), 0, []), (.ireturn, (1, 3, 0, 0, 0, 0), 0, [])],
  [(.aload_n 0, (1, 0, 0, 0, 0, 0), 0, []), (.bipush 102, (2, 0, 0, 0, 0, 0), 102, []), (.bipush 117, (2, 0, 0, 0, 0, 0), 117, []), (.bipush 108, (2, 0, 0, 0, 0, 0), 108, []), (.bipush 108, (2, 0, 0, 0, 0, 0), 108, []), (.iconst 0, (1, 0, 0, 0, 0, 0), 0, []), (.iconst 0, (1, 0, 0, 0, 0, 0), 0, []), (.iconst 0, (1, 0, 0, 0, 0, 0), 0, []), (.iconst 0, (1, 0, 0, 0, 0, 0), 0, []), (.invokevirtual 182, (3, 2, 143, 13, 9, 11), 5171, [])],
  [(.ifCond .eq 8, (3, 1, 15, 14, 0, 0), 0, [])],
  [(.aload_n 0, (1, 0, 0, 0, 0, 0), 0, []), (.getfield 198, (3, 0, 10, 18, 4198, 0), 0, []), (.ireturn, (1, 3, 0, 0, 0, 0), 0, [])],
  [(.aload_n 0, (1, 0, 0, 0, 0, 0), 0, []), (.bipush 119, (2, 0, 0, 0, 0, 0), 119, []), (.bipush 97, (2, 0, 0, 0, 0, 0), 97, []), (.bipush 115, (2, 0, 0, 0, 0, 0), 115, []), (.iconst 0, (1, 0, 0, 0, 0, 0), 0, []), (.iconst 0, (1, 0, 0, 0, 0, 0), 0, []), (.iconst 0, (1, 0, 0, 0, 0, 0), 0, []), (.iconst 0, (1, 0, 0, 0, 0, 0), 0, []), (.iconst 0, (1, 0, 0, 0, 0, 0), 0, []), (.invokevirtual 182, (3, 2, 143, 16, 9, 11), 5171, [])],
  [(.ifCond .eq 8, (3, 1, 18, 17, 0, 0), 0, [])],
  [(.aload_n 0, (1, 0, 0, 0, 0, 0), 0, []), (.getfield 201, (3, 0, 10, 19, 4199, 0), 0, []), (.ireturn, (1, 3, 0, 0, 0, 0), 0, [])],
  [(.aload_n 0, (1, 0, 0, 0, 0, 0), 0, []), (.invokevirtual 176, (3, 2, 141, 19, 1, 11), 5183, [])],
  [(.iconst 0, (1, 0, 0, 0, 0, 0), 0, []), (.ireturn, (1, 3, 0, 0, 0, 0), 0, [])]]
/-- EvenlyPouredModel.atom()I -/
noncomputable def bk_147 : List (List am_P) := [[(.iconst 0, (1, 0, 0, 0, 0, 0), 0, []), (.istore_n 1, (1, 0, 1, 0, 0, 0), 0, []), (.aload_n 0, (1, 0, 0, 0, 0, 0), 0, []), (.bipush 45, (2, 0, 0, 0, 0, 0), 45, []), (.invokevirtual 204, (3, 2, 144, 1, 2, 11), 5215, [])],
  [(.ifCond .eq 29, (3, 1, 6, 2, 0, 0), 0, [])],
  [(.aload_n 0, (1, 0, 0, 0, 0, 0), 0, []), (.invokevirtual 207, (3, 2, 145, 3, 1, 11), 5199, [])],
  [(.ifCond .eq 146, (3, 1, 28, 4, 0, 0), 0, [])],
  [(.aload_n 0, (1, 0, 0, 0, 0, 0), 0, []), (.invokevirtual 211, (3, 2, 147, 5, 1, 11), 5211, [])],
  [(.ineg, (1, 0, 0, 0, 0, 0), 0, []), (.istore_n 1, (1, 0, 1, 0, 0, 0), 0, []), (.aload_n 0, (1, 0, 0, 0, 0, 0), 0, []), (.dup, (1, 0, 0, 0, 0, 0), 0, []), (.getfield 173, (3, 0, 10, 26, 4206, 0), 0, []), (.iconst 1, (1, 0, 0, 0, 0, 0), 1, []), (.isub, (1, 0, 0, 0, 0, 0), 0, []), (.putfield 173, (3, 0, 10, 26, 4206, 0), 0, []), (.goto 127, (3, 1, 28, 0, 0, 0), 0, [])],
  [(.aload_n 0, (1, 0, 0, 0, 0, 0), 0, []), (.bipush 40, (2, 0, 0, 0, 0, 0), 40, []), (.invokevirtual 204, (3, 2, 144, 7, 2, 11), 5215, [])],
  [(.ifCond .eq 52, (3, 1, 17, 8, 0, 0), 0, [])],
  [(.aload_n 0, (1, 0, 0, 0, 0, 0), 0, []), (.invokevirtual 207, (3, 2, 145, 9, 1, 11), 5199, [])],
  [(.ifCond .eq 111, (3, 1, 28, 10, 0, 0), 0, [])],
  [(.aload_n 0, (1, 0, 0, 0, 0, 0), 0, []), (.invokevirtual 215, (3, 2, 152, 11, 1, 11), 5187, [])],
  [(.istore_n 1, (1, 0, 1, 0, 0, 0), 0, []), (.aload_n 0, (1, 0, 0, 0, 0, 0), 0, []), (.bipush 41, (2, 0, 0, 0, 0, 0), 41, []), (.invokevirtual 204, (3, 2, 144, 12, 2, 11), 5215, [])],
  [(.ifCond .ne 7, (3, 1, 14, 13, 0, 0), 0, [])],
  [(.aload_n 0, (1, 0, 0, 0, 0, 0), 0, []), (.invokevirtual 176, (3, 2, 141, 14, 1, 11), 5183, [])],
  [(.aload_n 0, (1, 0, 0, 0, 0, 0), 0, []), (.dup, (1, 0, 0, 0, 0, 0), 0, []), (.getfield 173, (3, 0, 10, 26, 4206, 0), 0, []), (.iconst 1, (1, 0, 0, 0, 0, 0), 1, []), (.isub, (1, 0, 0, 0, 0, 0), 0, []), (.putfield 173, (3, 0, 10, 26, 4206, 0), 0, []), (.aload_n 0, (1, 0, 0, 0, 0, 0), 0, []), (.getfield 162, (3, 0, 10, 27, 4207, 3), 0, []), (.ifCond .ne 76, (3, 1, 28, 15, 0, 0), 0, [])],
  [(.aload_n 0, (1, 0, 0, 0, 0, 0), 0, []), (.invokevirtual 179, (3, 2, 140, 16, 1, 11), 5158, [])],
  [(.goto 69, (3, 1, 28, 0, 0, 0), 0, [])],
  [(.aload_n 0, (1, 0, 0, 0, 0, 0), 0, []), (.getfield 162, (3, 0, 10, 27, 4207, 3), 0, []), (.ifCond .ne 24, (3, 1, 21, 18, 0, 0), 0, [])],
  [(.aload_n 0, (1, 0, 0, 0, 0, 0), 0, []), (.getfield 145, (3, 0, 10, 23, 4203, 0), 0, []), (.iconst 2, (1, 0, 0, 0, 0, 0), 2, []), (.if_icmp .ne 16, (3, 1, 21, 19, 0, 0), 0, [])],
  [(.aload_n 0, (1, 0, 0, 0, 0, 0), 0, []), (.getfield 156, (3, 0, 10, 25, 4205, 2), 0, []), (.l2i, (1, 0, 0, 0, 0, 0), 0, []), (.istore_n 1, (1, 0, 1, 0, 0, 0), 0, []), (.aload_n 0, (1, 0, 0, 0, 0, 0), 0, []), (.invokevirtual 179, (3, 2, 140, 20, 1, 11), 5158, [])],
  [(.goto 41, (3, 1, 28, 0, 0, 0), 0, [])],
  [(.aload_n 0, (1, 0, 0, 0, 0, 0), 0, []), (.getfield 162, (3, 0, 10, 27, 4207, 3), 0, []), (.ifCond .ne 30, (3, 1, 27, 22, 0, 0), 0, [])],
  [(.aload_n 0, (1, 0, 0, 0, 0, 0), 0, []), (.getfield 145, (3, 0, 10, 23, 4203, 0), 0, []), (.iconst 1, (1, 0, 0, 0, 0, 0), 1, []), (.if_icmp .ne 22, (3, 1, 27, 23, 0, 0), 0, [])],
  [(.aload_n 0, (1, 0, 0, 0, 0, 0), 0, []), (.invokevirtual 218, (3, 2, 146, 24, 1, 11), 5219, [])],
  [(.istore_n 1, (1, 0, 1, 0, 0, 0), 0, []), (.aload_n 0, (1, 0, 0, 0, 0, 0), 0, []), (.getfield 162, (3, 0, 10, 27, 4207, 3), 0, []), (.ifCond .ne 14, (3, 1, 28, 25, 0, 0), 0, [])],
  [(.aload_n 0, (1, 0, 0, 0, 0, 0), 0, []), (.invokevirtual 179, (3, 2, 140, 26, 1, 11), 5158, [])],
  [(.goto 7, (3, 1, 28, 0, 0, 0), 0, [])],
  [(.aload_n 0, (1, 0, 0, 0, 0, 0), 0, []), (.invokevirtual 176, (3, 2, 141, 28, 1, 11), 5183, [])],
  [(.iload_n 1, (1, 0, 1, 0, 0, 0), 0, []), (.ireturn, (1, 3, 0, 0, 0, 0), 0, [])]]
/-- EvenlyPouredModel.term()I -/
noncomputable def bk_148 : List (List am_P) := [[(.aload_n 0, (1, 0, 0, 0, 0, 0), 0, []), (.invokevirtual 211, (3, 2, 147, 1, 1, 11), 5211, [])],
  [(.istore_n 1, (1, 0, 1, 0, 0, 0), 0, []), (.nop, (0, 1, 2, 0, 0, 0), 0, [])],
  [(.aload_n 0, (1, 0, 0, 0, 0, 0), 0, []), (.bipush 42, (2, 0, 0, 0, 0, 0), 42, []), (.invokevirtual 204, (3, 2, 144, 3, 2, 11), 5215, [])],
  [(.ifCond .eq 17, (3, 1, 7, 4, 0, 0), 0, [])],
  [(.aload_n 0, (1, 0, 0, 0, 0, 0), 0, []), (.invokevirtual 179, (3, 2, 140, 5, 1, 11), 5158, [])],
  [(.iload_n 1, (1, 0, 1, 0, 0, 0), 0, []), (.aload_n 0, (1, 0, 0, 0, 0, 0), 0, []), (.invokevirtual 211, (3, 2, 147, 6, 1, 11), 5211, [])],
  [(.imul, (1, 0, 0, 0, 0, 0), 0, []), (.istore_n 1, (1, 0, 1, 0, 0, 0), 0, []), (.goto (-20), (3, 1, 2, 0, 0, 0), 0, [])],
  [(.iload_n 1, (1, 0, 1, 0, 0, 0), 0, []), (.ireturn, (1, 3, 0, 0, 0, 0), 0, [])]]
/-- EvenlyPouredModel.added()I -/
noncomputable def bk_149 : List (List am_P) := [[(.aload_n 0, (1, 0, 0, 0, 0, 0), 0, []), (.invokevirtual 221, (3, 2, 148, 1, 1, 11), 5207, [])],
  [(.istore_n 1, (1, 0, 1, 0, 0, 0), 0, []), (.nop, (0, 1, 2, 0, 0, 0), 0, [])],
  [(.aload_n 0, (1, 0, 0, 0, 0, 0), 0, []), (.bipush 43, (2, 0, 0, 0, 0, 0), 43, []), (.invokevirtual 204, (3, 2, 144, 3, 2, 11), 5215, [])],
  [(.ifCond .ne 12, (3, 1, 6, 4, 0, 0), 0, [])],
  [(.aload_n 0, (1, 0, 0, 0, 0, 0), 0, []), (.bipush 45, (2, 0, 0, 0, 0, 0), 45, []), (.invokevirtual 204, (3, 2, 144, 5, 2, 11), 5215, [])],
  [(.ifCond .eq 46, (3, 1, 15, 6, 0, 0), 0, [])],
  [(.aload_n 0, (1, 0, 0, 0, 0, 0), 0, []), (.getfield 156, (3, 0, 10, 25, 4205, 2), 0, []), (.ldc2_w 224, (3, 0, 43, 0, 5223, 0), 0, []), (.lcmp, (1, 0, 0, 0, 0, 0), 0, []), (.ifCond .ne 7, (3, 1, 8, 7, 0, 0), 0, [])],
  [(.iconst 1, (1, 0, 0, 0, 0, 0), 1, []), (.goto 4, (3, 1, 9, 0, 0, 0), 0, [])],
  [(.iconst 0, (1, 0, 0, 0, 0, 0), 0, []), (.nop, (0, 1, 9, 0, 0, 0), 0, [])],
  [(.istore_n 2, (1, 0, 2, 0, 0, 0), 0, []), (.aload_n 0, (1, 0, 0, 0, 0, 0), 0, []), (.invokevirtual 179, (3, 2, 140, 10, 1, 11), 5158, [])],
  [(.aload_n 0, (1, 0, 0, 0, 0, 0), 0, []), (.invokevirtual 221, (3, 2, 148, 11, 1, 11), 5207, [])],
  [(.istore_n 3, (1, 0, 3, 0, 0, 0), 0, []), (.iload_n 2, (1, 0, 2, 0, 0, 0), 0, []), (.ifCond .eq 9, (3, 1, 13, 12, 0, 0), 0, [])],
  [(.iload_n 1, (1, 0, 1, 0, 0, 0), 0, []), (.iload_n 3, (1, 0, 3, 0, 0, 0), 0, []), (.iadd, (1, 0, 0, 0, 0, 0), 0, []), (.goto 6, (3, 1, 14, 0, 0, 0), 0, [])],
  [(.iload_n 1, (1, 0, 1, 0, 0, 0), 0, []), (.iload_n 3, (1, 0, 3, 0, 0, 0), 0, []), (.isub, (1, 0, 0, 0, 0, 0), 0, []), (.nop, (0, 1, 14, 0, 0, 0), 0, [])],
  [(.istore_n 1, (1, 0, 1, 0, 0, 0), 0, []), (.goto (-58), (3, 1, 2, 0, 0, 0), 0, [])],
  [(.iload_n 1, (1, 0, 1, 0, 0, 0), 0, []), (.ireturn, (1, 3, 0, 0, 0, 0), 0, [])]]
/-- EvenlyPouredModel.not()I -/
noncomputable def bk_150 : List (List am_P) := [[(.aload_n 0, (1, 0, 0, 0, 0, 0), 0, []), (.bipush 110, (2, 0, 0, 0, 0, 0), 110, []), (.bipush 111, (2, 0, 0, 0, 0, 0), 111, []), (.bipush 116, (2, 0, 0, 0, 0, 0), 116, []), (.iconst 0, (1, 0, 0, 0, 0, 0), 0, []), (.iconst 0, (1, 0, 0, 0, 0, 0), 0, []), (.iconst 0, (1, 0, 0, 0, 0, 0), 0, []), (.iconst 0, (1, 0, 0, 0, 0, 0), 0, []), (.iconst 0, (1, 0, 0, 0, 0, 0), 0, []), (.invokevirtual 182, (3, 2, 143, 1, 9, 11), 5171, [])],
  [(.ifCond .eq 37, (3, 1, 10, 2, 0, 0), 0, [])],
  [(.aload_n 0, (1, 0, 0, 0, 0, 0), 0, []), (.invokevirtual 207, (3, 2, 145, 3, 1, 11), 5199, [])],
  [(.ifCond .ne 5, (3, 1, 5, 4, 0, 0), 0, [])],
  [(.iconst 0, (1, 0, 0, 0, 0, 0), 0, []), (.ireturn, (1, 3, 0, 0, 0, 0), 0, [])],
  [(.aload_n 0, (1, 0, 0, 0, 0, 0), 0, []), (.invokevirtual 226, (3, 2, 150, 6, 1, 11), 5195, [])],
  [(.istore_n 1, (1, 0, 1, 0, 0, 0), 0, []), (.aload_n 0, (1, 0, 0, 0, 0, 0), 0, []), (.dup, (1, 0, 0, 0, 0, 0), 0, []), (.getfield 173, (3, 0, 10, 26, 4206, 0), 0, []), (.iconst 1, (1, 0, 0, 0, 0, 0), 1, []), (.isub, (1, 0, 0, 0, 0, 0), 0, []), (.putfield 173, (3, 0, 10, 26, 4206, 0), 0, []), (.iload_n 1, (1, 0, 1, 0, 0, 0), 0, []), (.ifCond .ne 7, (3, 1, 8, 7, 0, 0), 0, [])],
  [(.iconst 1, (1, 0, 0, 0, 0, 0), 1, []), (.goto 4, (3, 1, 9, 0, 0, 0), 0, [])],
  [(.iconst 0, (1, 0, 0, 0, 0, 0), 0, []), (.nop, (0, 1, 9, 0, 0, 0), 0, [])],
  [(.ireturn, (1, 3, 0, 0, 0, 0), 0, [])],
  [(.aload_n 0, (1, 0, 0, 0, 0, 0), 0, []), (.invokevirtual 229, (3, 2, 149, 11, 1, 11), 5203, [])],
  [(.istore_n 1, (1, 0, 1, 0, 0, 0), 0, []), (.aload_n 0, (1, 0, 0, 0, 0, 0), 0, []), (.bipush 60, (2, 0, 0, 0, 0, 0), 60, []), (.invokevirtual 204, (3, 2, 144, 12, 2, 11), 5215, [])],
  [(.ifCond .ne 14, (3, 1, 16, 13, 0, 0), 0, [])],
  [(.aload_n 0, (1, 0, 0, 0, 0, 0), 0, []), (.bipush 61, (2, 0, 0, 0, 0, 0), 61, []), (.invokevirtual 204, (3, 2, 144, 14, 2, 11), 5215, [])],
  [(.ifCond .ne 5, (3, 1, 16, 15, 0, 0), 0, [])],
  [(.iload_n 1, (1, 0, 1, 0, 0, 0), 0, []), (.ireturn, (1, 3, 0, 0, 0, 0), 0, [])],
  [(.aload_n 0, (1, 0, 0, 0, 0, 0), 0, []), (.getfield 156, (3, 0, 10, 25, 4205, 2), 0, []), (.ldc2_w 232, (3, 0, 60, 0, 5224, 0), 0, []), (.lcmp, (1, 0, 0, 0, 0, 0), 0, []), (.ifCond .ne 7, (3, 1, 18, 17, 0, 0), 0, [])],
  [(.iconst 1, (1, 0, 0, 0, 0, 0), 1, []), (.goto 4, (3, 1, 19, 0, 0, 0), 0, [])],
  [(.iconst 0, (1, 0, 0, 0, 0, 0), 0, []), (.nop, (0, 1, 19, 0, 0, 0), 0, [])],
  [(.istore_n 2, (1, 0, 2, 0, 0, 0), 0, []), (.aload_n 0, (1, 0, 0, 0, 0, 0), 0, []), (.invokevirtual 179, (3, 2, 140, 20, 1, 11), 5158, [])],
  [(.aload_n 0, (1, 0, 0, 0, 0, 0), 0, []), (.invokevirtual 229, (3, 2, 149, 21, 1, 11), 5203, [])],
  [(.istore_n 3, (1, 0, 3, 0, 0, 0), 0, []), (.iload_n 2, (1, 0, 2, 0, 0, 0), 0, []), (.ifCond .eq 11, (3, 1, 24, 22, 0, 0), 0, [])],
  [(.iload_n 1, (1, 0, 1, 0, 0, 0), 0, []), (.iload_n 3, (1, 0, 3, 0, 0, 0), 0, []), (.if_icmp .ge 15, (3, 1, 26, 23, 0, 0), 0, [])],
  [(.goto 8, (3, 1, 25, 0, 0, 0), 0, [])],
  [(.iload_n 1, (1, 0, 1, 0, 0, 0), 0, []), (.iload_n 3, (1, 0, 3, 0, 0, 0), 0, []), (.if_icmp .ne 7, (3, 1, 26, 25, 0, 0), 0, [])],
  [(.iconst 1, (1, 0, 0, 0, 0, 0), 1, []), (.goto 4, (3, 1, 27, 0, 0, 0), 0, [])],
  [(.iconst 0, (1, 0, 0, 0, 0, 0), 0, []), (.nop, (0, 1, 27, 0, 0, 0), 0, [])],
  [(.ireturn, (1, 3, 0, 0, 0, 0), 0, [])]]
/-- EvenlyPouredModel.both()I -/
noncomputable def bk_151 : List (List am_P) := [[(.aload_n 0, (1, 0, 0, 0, 0, 0), 0, []), (.invokevirtual 226, (3, 2, 150, 1, 1, 11), 5195, [])],
  [(.istore_n 1, (1, 0, 1, 0, 0, 0), 0, []), (.nop, (0, 1, 2, 0, 0, 0), 0, [])],
  [(.aload_n 0, (1, 0, 0, 0, 0, 0), 0, []), (.bipush 97, (2, 0, 0, 0, 0, 0), 97, []), (.bipush 110, (2, 0, 0, 0, 0, 0), 110, []), (.bipush 100, (2, 0, 0, 0, 0, 0), 100, []), (.iconst 0, (1, 0, 0, 0, 0, 0), 0, []), (.iconst 0, (1, 0, 0, 0, 0, 0), 0, []), (.iconst 0, (1, 0, 0, 0, 0, 0), 0, []), (.iconst 0, (1, 0, 0, 0, 0, 0), 0, []), (.iconst 0, (1, 0, 0, 0, 0, 0), 0, []), (.invokevirtual 182, (3, 2, 143, 3, 9, 11), 5171, [])],
  [(.ifCond .eq 29, (3, 1, 11, 4, 0, 0), 0, [])],
  [(.aload_n 0, (1, 0, 0, 0, 0, 0), 0, []), (.invokevirtual 179, (3, 2, 140, 5, 1, 11), 5158, [])],
  [(.aload_n 0, (1, 0, 0, 0, 0, 0), 0, []), (.invokevirtual 226, (3, 2, 150, 6, 1, 11), 5195, [])],
  [(.istore_n 2, (1, 0, 2, 0, 0, 0), 0, []), (.iload_n 1, (1, 0, 1, 0, 0, 0), 0, []), (.ifCond .eq 11, (3, 1, 9, 7, 0, 0), 0, [])],
  [(.iload_n 2, (1, 0, 2, 0, 0, 0), 0, []), (.ifCond .eq 7, (3, 1, 9, 8, 0, 0), 0, [])],
  [(.iconst 1, (1, 0, 0, 0, 0, 0), 1, []), (.goto 4, (3, 1, 10, 0, 0, 0), 0, [])],
  [(.iconst 0, (1, 0, 0, 0, 0, 0), 0, []), (.nop, (0, 1, 10, 0, 0, 0), 0, [])],
  [(.istore_n 1, (1, 0, 1, 0, 0, 0), 0, []), (.goto (-41), (3, 1, 2, 0, 0, 0), 0, [])],
  [(.iload_n 1, (1, 0, 1, 0, 0, 0), 0, []), (.ireturn, (1, 3, 0, 0, 0, 0), 0, [])]]
/-- EvenlyPouredModel.either()I -/
noncomputable def bk_152 : List (List am_P) := [[(.aload_n 0, (1, 0, 0, 0, 0, 0), 0, []), (.invokevirtual 234, (3, 2, 151, 1, 1, 11), 5191, [])],
  [(.istore_n 1, (1, 0, 1, 0, 0, 0), 0, []), (.nop, (0, 1, 2, 0, 0, 0), 0, [])],
  [(.aload_n 0, (1, 0, 0, 0, 0, 0), 0, []), (.bipush 111, (2, 0, 0, 0, 0, 0), 111, []), (.bipush 114, (2, 0, 0, 0, 0, 0), 114, []), (.iconst 0, (1, 0, 0, 0, 0, 0), 0, []), (.iconst 0, (1, 0, 0, 0, 0, 0), 0, []), (.iconst 0, (1, 0, 0, 0, 0, 0), 0, []), (.iconst 0, (1, 0, 0, 0, 0, 0), 0, []), (.iconst 0, (1, 0, 0, 0, 0, 0), 0, []), (.iconst 0, (1, 0, 0, 0, 0, 0), 0, []), (.invokevirtual 182, (3, 2, 143, 3, 9, 11), 5171, [])],
  [(.ifCond .eq 29, (3, 1, 11, 4, 0, 0), 0, [])],
  [(.aload_n 0, (1, 0, 0, 0, 0, 0), 0, []), (.invokevirtual 179, (3, 2, 140, 5, 1, 11), 5158, [])],
  [(.aload_n 0, (1, 0, 0, 0, 0, 0), 0, []), (.invokevirtual 234, (3, 2, 151, 6, 1, 11), 5191, [])],
  [(.istore_n 2, (1, 0, 2, 0, 0, 0), 0, []), (.iload_n 1, (1, 0, 1, 0, 0, 0), 0, []), (.ifCond .ne 7, (3, 1, 8, 7, 0, 0), 0, [])],
  [(.iload_n 2, (1, 0, 2, 0, 0, 0), 0, []), (.ifCond .eq 7, (3, 1, 9, 8, 0, 0), 0, [])],
  [(.iconst 1, (1, 0, 0, 0, 0, 0), 1, []), (.goto 4, (3, 1, 10, 0, 0, 0), 0, [])],
  [(.iconst 0, (1, 0, 0, 0, 0, 0), 0, []), (.nop, (0, 1, 10, 0, 0, 0), 0, [])],
  [(.istore_n 1, (1, 0, 1, 0, 0, 0), 0, []), (.goto (-40), (3, 1, 2, 0, 0, 0), 0, [])],
  [(.iload_n 1, (1, 0, 1, 0, 0, 0), 0, []), (.ireturn, (1, 3, 0, 0, 0, 0), 0, [])]]
/-- EvenlyPouredModel.part(Z)I -/
noncomputable def bk_153 : List (List am_P) := [[(.iload_n 1, (1, 0, 1, 0, 0, 0), 0, []), (.ifCond .ne 7, (3, 1, 2, 1, 0, 0), 0, [])],
  [(.aload_n 0, (1, 0, 0, 0, 0, 0), 0, []), (.invokevirtual 176, (3, 2, 141, 2, 1, 11), 5183, [])],
  [(.aload_n 0, (1, 0, 0, 0, 0, 0), 0, []), (.getfield 162, (3, 0, 10, 27, 4207, 3), 0, []), (.ifCond .ne 7, (3, 1, 4, 3, 0, 0), 0, [])],
  [(.aload_n 0, (1, 0, 0, 0, 0, 0), 0, []), (.invokevirtual 179, (3, 2, 140, 4, 1, 11), 5158, [])],
  [(.aload_n 0, (1, 0, 0, 0, 0, 0), 0, []), (.getfield 162, (3, 0, 10, 27, 4207, 3), 0, []), (.ifCond .eq 7, (3, 1, 6, 5, 0, 0), 0, [])],
  [(.iconst 0, (1, 0, 0, 0, 0, 0), 0, []), (.goto 7, (3, 1, 7, 0, 0, 0), 0, [])],
  [(.aload_n 0, (1, 0, 0, 0, 0, 0), 0, []), (.invokevirtual 215, (3, 2, 152, 7, 1, 11), 5187, [])],
  [(.istore_n 2, (1, 0, 2, 0, 0, 0), 0, []), (.aload_n 0, (1, 0, 0, 0, 0, 0), 0, []), (.bipush 59, (2, 0, 0, 0, 0, 0), 59, []), (.invokevirtual 204, (3, 2, 144, 8, 2, 11), 5215, [])],
  [(.ifCond .ne 7, (3, 1, 10, 9, 0, 0), 0, [])],
  [(.aload_n 0, (1, 0, 0, 0, 0, 0), 0, []), (.invokevirtual 176, (3, 2, 141, 10, 1, 11), 5183, [])],
  [(.aload_n 0, (1, 0, 0, 0, 0, 0), 0, []), (.getfield 162, (3, 0, 10, 27, 4207, 3), 0, []), (.ifCond .ne 7, (3, 1, 12, 11, 0, 0), 0, [])],
  [(.aload_n 0, (1, 0, 0, 0, 0, 0), 0, []), (.invokevirtual 179, (3, 2, 140, 12, 1, 11), 5158, [])],
  [(.iload_n 2, (1, 0, 2, 0, 0, 0), 0, []), (.ireturn, (1, 3, 0, 0, 0, 0), 0, [])]]
/-- EvenlyPouredModel.read(II)I -/
noncomputable def bk_154 : List (List am_P) := [[(.aload_n 0, (1, 0, 0, 0, 0, 0), 0, []), (.sipush 160, (3, 0, 0, 0, 0, 0), 160, []), (.iload_n 1, (1, 0, 1, 0, 0, 0), 0, []), (.imul, (1, 0, 0, 0, 0, 0), 0, []), (.putfield 132, (3, 0, 10, 20, 4200, 0), 0, []), (.aload_n 0, (1, 0, 0, 0, 0, 0), 0, []), (.aload_n 0, (1, 0, 0, 0, 0, 0), 0, []), (.getfield 17, (3, 0, 10, 2, 4182, 1), 0, []), (.iload_n 1, (1, 0, 1, 0, 0, 0), 0, []), (.iaload, (1, 0, 0, 0, 0, 0), 0, []), (.putfield 129, (3, 0, 10, 21, 4201, 0), 0, []), (.aload_n 0, (1, 0, 0, 0, 0, 0), 0, []), (.iconst 0, (1, 0, 0, 0, 0, 0), 0, []), (.putfield 135, (3, 0, 10, 22, 4202, 0), 0, []), (.aload_n 0, (1, 0, 0, 0, 0, 0), 0, []), (.iconst 0, (1, 0, 0, 0, 0, 0), 0, []), (.putfield 173, (3, 0, 10, 26, 4206, 0), 0, []), (.aload_n 0, (1, 0, 0, 0, 0, 0), 0, []), (.iconst 0, (1, 0, 0, 0, 0, 0), 0, []), (.putfield 162, (3, 0, 10, 27, 4207, 3), 0, []), (.aload_n 0, (1, 0, 0, 0, 0, 0), 0, []), (.invokevirtual 179, (3, 2, 140, 1, 1, 11), 5158, [])],
  [(.aload_n 0, (1, 0, 0, 0, 0, 0), 0, []), (.aload_n 0, (1, 0, 0, 0, 0, 0), 0, []), (.bipush 115, (2, 0, 0, 0, 0, 0), 115, []), (.bipush 116, (2, 0, 0, 0, 0, 0), 116, []), (.bipush 114, (2, 0, 0, 0, 0, 0), 114, []), (.bipush 111, (2, 0, 0, 0, 0, 0), 111, []), (.bipush 110, (2, 0, 0, 0, 0, 0), 110, []), (.bipush 103, (2, 0, 0, 0, 0, 0), 103, []), (.iconst 0, (1, 0, 0, 0, 0, 0), 0, []), (.iconst 0, (1, 0, 0, 0, 0, 0), 0, []), (.invokevirtual 182, (3, 2, 143, 2, 9, 11), 5171, [])],
  [(.invokevirtual 237, (3, 2, 153, 3, 2, 11), 5179, [])],
  [(.istore_n 3, (1, 0, 3, 0, 0, 0), 0, []), (.aload_n 0, (1, 0, 0, 0, 0, 0), 0, []), (.getfield 162, (3, 0, 10, 27, 4207, 3), 0, []), (.ifCond .eq 7, (3, 1, 5, 4, 0, 0), 0, [])],
  [(.iconst 0, (1, 0, 0, 0, 0, 0), 0, []), (.goto 24, (3, 1, 7, 0, 0, 0), 0, [])],
  [(.aload_n 0, (1, 0, 0, 0, 0, 0), 0, []), (.aload_n 0, (1, 0, 0, 0, 0, 0), 0, []), (.bipush 100, (2, 0, 0, 0, 0, 0), 100, []), (.bipush 114, (2, 0, 0, 0, 0, 0), 114, []), (.bipush 105, (2, 0, 0, 0, 0, 0), 105, []), (.bipush 112, (2, 0, 0, 0, 0, 0), 112, []), (.bipush 115, (2, 0, 0, 0, 0, 0), 115, []), (.iconst 0, (1, 0, 0, 0, 0, 0), 0, []), (.iconst 0, (1, 0, 0, 0, 0, 0), 0, []), (.iconst 0, (1, 0, 0, 0, 0, 0), 0, []), (.invokevirtual 182, (3, 2, 143, 6, 9, 11), 5171, [])],
  [(.invokevirtual 237, (3, 2, 153, 7, 2, 11), 5179, [])],
  [(.istore 4, (2, 0, 4, 0, 0, 0), 0, []), (.aload_n 0, (1, 0, 0, 0, 0, 0), 0, []), (.getfield 162, (3, 0, 10, 27, 4207, 3), 0, []), (.ifCond .eq 7, (3, 1, 9, 8, 0, 0), 0, [])],
  [(.iconst 0, (1, 0, 0, 0, 0, 0), 0, []), (.goto 24, (3, 1, 11, 0, 0, 0), 0, [])],
  [(.aload_n 0, (1, 0, 0, 0, 0, 0), 0, []), (.aload_n 0, (1, 0, 0, 0, 0, 0), 0, []), (.bipush 108, (2, 0, 0, 0, 0, 0), 108, []), (.bipush 105, (2, 0, 0, 0, 0, 0), 105, []), (.bipush 107, (2, 0, 0, 0, 0, 0), 107, []), (.bipush 101, (2, 0, 0, 0, 0, 0), 101, []), (.bipush 100, (2, 0, 0, 0, 0, 0), 100, []), (.iconst 0, (1, 0, 0, 0, 0, 0), 0, []), (.iconst 0, (1, 0, 0, 0, 0, 0), 0, []), (.iconst 0, (1, 0, 0, 0, 0, 0), 0, []), (.invokevirtual 182, (3, 2, 143, 10, 9, 11), 5171, [])],
  [(.invokevirtual 237, (3, 2, 153, 11, 2, 11), 5179, [])],
  [(.istore 5, (2, 0, 5, 0, 0, 0), 0, []), (.aload_n 0, (1, 0, 0, 0, 0, 0), 0, []), (.getfield 162, (3, 0, 10, 27, 4207, 3), 0, []), (.ifCond .ne 14, (3, 1, 14, 12, 0, 0), 0, [])],
  [(.aload_n 0, (1, 0, 0, 0, 0, 0), 0, []), (.getfield 145, (3, 0, 10, 23, 4203, 0), 0, []), (.ifCond .eq 7, (3, 1, 14, 13, 0, 0), 0, [])],
  [(.aload_n 0, (1, 0, 0, 0, 0, 0), 0, []), (.invokevirtual 176, (3, 2, 141, 14, 1, 11), 5183, [])],
  [(.iload_n 2, (1, 0, 2, 0, 0, 0), 0, []), (.ifCond .ne 7, (3, 1, 16, 15, 0, 0), 0, [])],
  [(.iload_n 3, (1, 0, 3, 0, 0, 0), 0, []), (.goto 15, (3, 1, 19, 0, 0, 0), 0, [])],
  [(.iload_n 2, (1, 0, 2, 0, 0, 0), 0, []), (.iconst 1, (1, 0, 0, 0, 0, 0), 1, []), (.if_icmp .ne 8, (3, 1, 18, 17, 0, 0), 0, [])],
  [(.iload 4, (2, 0, 4, 0, 0, 0), 0, []), (.goto 5, (3, 1, 19, 0, 0, 0), 0, [])],
  [(.iload 5, (2, 0, 5, 0, 0, 0), 0, []), (.nop, (0, 1, 19, 0, 0, 0), 0, [])],
  [(.ireturn, (1, 3, 0, 0, 0, 0), 0, [])]]
/-- EvenlyPouredModel.text()I -/
noncomputable def bk_155 : List (List am_P) := [[(.aload_n 0, (1, 0, 0, 0, 0, 0), 0, []), (.getfield 91, (3, 0, 10, 3, 4183, 0), 0, []), (.bipush 6, (2, 0, 0, 0, 0, 0), 6, []), (.if_icmp .ne 6, (3, 1, 2, 1, 0, 0), 0, [])],
  [(.bipush (-4), (2, 0, 0, 0, 0, 0), (-4), []), (.ireturn, (1, 3, 0, 0, 0, 0), 0, [])],
  [(.iconst 0, (1, 0, 0, 0, 0, 0), 0, []), (.istore_n 1, (1, 0, 1, 0, 0, 0), 0, []), (.nop, (0, 1, 3, 0, 0, 0), 0, [])],
  [(.iload_n 1, (1, 0, 1, 0, 0, 0), 0, []), (.aload_n 0, (1, 0, 0, 0, 0, 0), 0, []), (.getfield 126, (3, 0, 10, 6, 4186, 0), 0, []), (.if_icmp .ge 30, (3, 1, 5, 4, 0, 0), 0, [])],
  [(.aload_n 0, (1, 0, 0, 0, 0, 0), 0, []), (.getfield 13, (3, 0, 10, 1, 4181, 1), 0, []), (.sipush 160, (3, 0, 0, 0, 0, 0), 160, []), (.aload_n 0, (1, 0, 0, 0, 0, 0), 0, []), (.getfield 91, (3, 0, 10, 3, 4183, 0), 0, []), (.imul, (1, 0, 0, 0, 0, 0), 0, []), (.iload_n 1, (1, 0, 1, 0, 0, 0), 0, []), (.iadd, (1, 0, 0, 0, 0, 0), 0, []), (.aload_n 0, (1, 0, 0, 0, 0, 0), 0, []), (.getfield 20, (3, 0, 10, 5, 4185, 1), 0, []), (.iload_n 1, (1, 0, 1, 0, 0, 0), 0, []), (.iaload, (1, 0, 0, 0, 0, 0), 0, []), (.iastore, (1, 0, 0, 0, 0, 0), 0, []), (.iinc 1 1, (3, 0, 1, 0, 0, 0), 1, []), (.goto (-32), (3, 1, 3, 0, 0, 0), 0, [])],
  [(.aload_n 0, (1, 0, 0, 0, 0, 0), 0, []), (.getfield 17, (3, 0, 10, 2, 4182, 1), 0, []), (.aload_n 0, (1, 0, 0, 0, 0, 0), 0, []), (.getfield 91, (3, 0, 10, 3, 4183, 0), 0, []), (.aload_n 0, (1, 0, 0, 0, 0, 0), 0, []), (.getfield 126, (3, 0, 10, 6, 4186, 0), 0, []), (.iastore, (1, 0, 0, 0, 0, 0), 0, []), (.aload_n 0, (1, 0, 0, 0, 0, 0), 0, []), (.iconst 0, (1, 0, 0, 0, 0, 0), 0, []), (.putfield 126, (3, 0, 10, 6, 4186, 0), 0, []), (.aload_n 0, (1, 0, 0, 0, 0, 0), 0, []), (.aload_n 0, (1, 0, 0, 0, 0, 0), 0, []), (.getfield 91, (3, 0, 10, 3, 4183, 0), 0, []), (.iconst 0, (1, 0, 0, 0, 0, 0), 0, []), (.invokevirtual 241, (3, 2, 154, 6, 3, 11), 5154, [])],
  [(.istore_n 1, (1, 0, 1, 0, 0, 0), 0, []), (.aload_n 0, (1, 0, 0, 0, 0, 0), 0, []), (.getfield 162, (3, 0, 10, 27, 4207, 3), 0, []), (.ifCond .eq 11, (3, 1, 8, 7, 0, 0), 0, [])],
  [(.bipush (-100), (2, 0, 0, 0, 0, 0), (-100), []), (.aload_n 0, (1, 0, 0, 0, 0, 0), 0, []), (.getfield 166, (3, 0, 10, 28, 4208, 0), 0, []), (.isub, (1, 0, 0, 0, 0, 0), 0, []), (.ireturn, (1, 3, 0, 0, 0, 0), 0, [])],
  [(.aload_n 0, (1, 0, 0, 0, 0, 0), 0, []), (.dup, (1, 0, 0, 0, 0, 0), 0, []), (.getfield 91, (3, 0, 10, 3, 4183, 0), 0, []), (.iconst 1, (1, 0, 0, 0, 0, 0), 1, []), (.iadd, (1, 0, 0, 0, 0, 0), 0, []), (.putfield 91, (3, 0, 10, 3, 4183, 0), 0, []), (.aload_n 0, (1, 0, 0, 0, 0, 0), 0, []), (.getfield 91, (3, 0, 10, 3, 4183, 0), 0, []), (.iconst 1, (1, 0, 0, 0, 0, 0), 1, []), (.isub, (1, 0, 0, 0, 0, 0), 0, []), (.ireturn, (1, 3, 0, 0, 0, 0), 0, [])]]
/-- EvenlyPouredModel.force(I)I -/
noncomputable def bk_156 : List (List am_P) := [[(.iload_n 1, (1, 0, 1, 0, 0, 0), 0, []), (.i2l, (1, 0, 0, 0, 0, 0), 0, []), (.lconst 0, (1, 0, 0, 0, 0, 0), 0, []), (.aload_n 0, (1, 0, 0, 0, 0, 0), 0, []), (.getfield 91, (3, 0, 10, 3, 4183, 0), 0, []), (.iconst 1, (1, 0, 0, 0, 0, 0), 1, []), (.isub, (1, 0, 0, 0, 0, 0), 0, []), (.i2l, (1, 0, 0, 0, 0, 0), 0, []), (.invokestatic 94, (3, 2, 127, 1, 3, 0), 5111, [])],
  [(.ifCond .ne 6, (3, 1, 3, 2, 0, 0), 0, [])],
  [(.bipush (-2), (2, 0, 0, 0, 0, 0), (-2), []), (.ireturn, (1, 3, 0, 0, 0, 0), 0, [])],
  [(.aload_n 0, (1, 0, 0, 0, 0, 0), 0, []), (.getfield 245, (3, 0, 10, 4, 4184, 0), 0, []), (.istore_n 2, (1, 0, 2, 0, 0, 0), 0, []), (.aload_n 0, (1, 0, 0, 0, 0, 0), 0, []), (.iload_n 1, (1, 0, 1, 0, 0, 0), 0, []), (.putfield 245, (3, 0, 10, 4, 4184, 0), 0, []), (.iload_n 2, (1, 0, 2, 0, 0, 0), 0, []), (.ireturn, (1, 3, 0, 0, 0, 0), 0, [])]]
/-- EvenlyPouredModel.says(IIIII)I -/
noncomputable def bk_157 : List (List am_P) := [[(.aload_n 0, (1, 0, 0, 0, 0, 0), 0, []), (.iload_n 2, (1, 0, 2, 0, 0, 0), 0, []), (.putfield 186, (3, 0, 10, 14, 4194, 0), 0, []), (.aload_n 0, (1, 0, 0, 0, 0, 0), 0, []), (.aload_n 0, (1, 0, 0, 0, 0, 0), 0, []), (.getfield 26, (3, 0, 10, 8, 4188, 0), 0, []), (.putfield 189, (3, 0, 10, 15, 4195, 0), 0, []), (.aload_n 0, (1, 0, 0, 0, 0, 0), 0, []), (.aload_n 0, (1, 0, 0, 0, 0, 0), 0, []), (.getfield 23, (3, 0, 10, 7, 4187, 0), 0, []), (.putfield 192, (3, 0, 10, 16, 4196, 0), 0, []), (.aload_n 0, (1, 0, 0, 0, 0, 0), 0, []), (.iload_n 3, (1, 0, 3, 0, 0, 0), 0, []), (.putfield 195, (3, 0, 10, 17, 4197, 0), 0, []), (.aload_n 0, (1, 0, 0, 0, 0, 0), 0, []), (.iload 4, (2, 0, 4, 0, 0, 0), 0, []), (.putfield 198, (3, 0, 10, 18, 4198, 0), 0, []), (.aload_n 0, (1, 0, 0, 0, 0, 0), 0, []), (.iload 5, (2, 0, 5, 0, 0, 0), 0, []), (.putfield 201, (3, 0, 10, 19, 4199, 0), 0, []), (.aload_n 0, (1, 0, 0, 0, 0, 0), 0, []), (.aload_n 0, (1, 0, 0, 0, 0, 0), 0, []), (.getfield 245, (3, 0, 10, 4, 4184, 0), 0, []), (.iload_n 1, (1, 0, 1, 0, 0, 0), 0, []), (.invokevirtual 241, (3, 2, 154, 1, 3, 11), 5154, [])],
  [(.iconst 0, (1, 0, 0, 0, 0, 0), 0, []), (.iload_n 1, (1, 0, 1, 0, 0, 0), 0, []), (.iconst 2, (1, 0, 0, 0, 0, 0), 2, []), (.if_icmp .ne 9, (3, 1, 3, 2, 0, 0), 0, [])],
  [(.sipush 9999, (3, 0, 0, 0, 0, 0), 9999, []), (.goto 6, (3, 1, 4, 0, 0, 0), 0, [])],
  [(.sipush 999, (3, 0, 0, 0, 0, 0), 999, []), (.nop, (0, 1, 4, 0, 0, 0), 0, [])],
  [(.invokestatic 248, (3, 2, 128, 5, 3, 0), 6020, [])],
  [(.ireturn, (1, 3, 0, 0, 0, 0), 0, [])]]
/-- EvenlyPouredModel.forgets()V -/
noncomputable def bk_158 : List (List am_P) := [[(.iconst 0, (1, 0, 0, 0, 0, 0), 0, []), (.istore_n 1, (1, 0, 1, 0, 0, 0), 0, []), (.nop, (0, 1, 1, 0, 0, 0), 0, [])],
  [(.iload_n 1, (1, 0, 1, 0, 0, 0), 0, []), (.sipush 9600, (3, 0, 0, 0, 0, 0), 9600, []), (.if_icmp .ge 23, (3, 1, 3, 2, 0, 0), 0, [])],
  [(.aload_n 0, (1, 0, 0, 0, 0, 0), 0, []), (.getfield 41, (3, 0, 10, 29, 4209, 1), 0, []), (.iload_n 1, (1, 0, 1, 0, 0, 0), 0, []), (.iconst (-1), (1, 0, 0, 0, 0, 0), (-1), []), (.iastore, (1, 0, 0, 0, 0, 0), 0, []), (.aload_n 0, (1, 0, 0, 0, 0, 0), 0, []), (.getfield 44, (3, 0, 10, 30, 4210, 1), 0, []), (.iload_n 1, (1, 0, 1, 0, 0, 0), 0, []), (.iconst (-1), (1, 0, 0, 0, 0, 0), (-1), []), (.iastore, (1, 0, 0, 0, 0, 0), 0, []), (.iinc 1 1, (3, 0, 1, 0, 0, 0), 1, []), (.goto (-24), (3, 1, 1, 0, 0, 0), 0, [])],
  [(.return_, (1, 3, 0, 0, 0, 0), 0, [])]]
/-- EvenlyPouredModel.noteOf(IIII)I -/
noncomputable def bk_159 : List (List am_P) := [[(.iload_n 0, (1, 0, 0, 0, 0, 0), 0, []), (.iconst 4, (1, 0, 0, 0, 0, 0), 4, []), (.imul, (1, 0, 0, 0, 0, 0), 0, []), (.iload_n 1, (1, 0, 1, 0, 0, 0), 0, []), (.iadd, (1, 0, 0, 0, 0, 0), 0, []), (.bipush 25, (2, 0, 0, 0, 0, 0), 25, []), (.imul, (1, 0, 0, 0, 0, 0), 0, []), (.iload_n 2, (1, 0, 2, 0, 0, 0), 0, []), (.iadd, (1, 0, 0, 0, 0, 0), 0, []), (.iconst 4, (1, 0, 0, 0, 0, 0), 4, []), (.imul, (1, 0, 0, 0, 0, 0), 0, []), (.iload_n 3, (1, 0, 3, 0, 0, 0), 0, []), (.iadd, (1, 0, 0, 0, 0, 0), 0, []), (.ireturn, (1, 3, 0, 0, 0, 0), 0, [])]]
/-- EvenlyPouredModel.strong(IIII)I -/
noncomputable def bk_160 : List (List am_P) := [[(.iload_n 1, (1, 0, 1, 0, 0, 0), 0, []), (.iload_n 2, (1, 0, 2, 0, 0, 0), 0, []), (.iload_n 3, (1, 0, 3, 0, 0, 0), 0, []), (.iload 4, (2, 0, 4, 0, 0, 0), 0, []), (.invokestatic 252, (3, 2, 159, 1, 4, 0), 6013, [])],
  [(.istore 5, (2, 0, 5, 0, 0, 0), 0, []), (.aload_n 0, (1, 0, 0, 0, 0, 0), 0, []), (.getfield 41, (3, 0, 10, 29, 4209, 1), 0, []), (.iload 5, (2, 0, 5, 0, 0, 0), 0, []), (.iaload, (1, 0, 0, 0, 0, 0), 0, []), (.iconst (-1), (1, 0, 0, 0, 0, 0), (-1), []), (.if_icmp .ne 20, (3, 1, 4, 2, 0, 0), 0, [])],
  [(.aload_n 0, (1, 0, 0, 0, 0, 0), 0, []), (.getfield 41, (3, 0, 10, 29, 4209, 1), 0, []), (.iload 5, (2, 0, 5, 0, 0, 0), 0, []), (.aload_n 0, (1, 0, 0, 0, 0, 0), 0, []), (.iconst 0, (1, 0, 0, 0, 0, 0), 0, []), (.iload_n 1, (1, 0, 1, 0, 0, 0), 0, []), (.iload_n 2, (1, 0, 2, 0, 0, 0), 0, []), (.iload_n 3, (1, 0, 3, 0, 0, 0), 0, []), (.iload 4, (2, 0, 4, 0, 0, 0), 0, []), (.invokevirtual 256, (3, 2, 157, 3, 6, 11), 6016, [])],
  [(.iastore, (1, 0, 0, 0, 0, 0), 0, []), (.nop, (0, 1, 4, 0, 0, 0), 0, [])],
  [(.aload_n 0, (1, 0, 0, 0, 0, 0), 0, []), (.getfield 41, (3, 0, 10, 29, 4209, 1), 0, []), (.iload 5, (2, 0, 5, 0, 0, 0), 0, []), (.iaload, (1, 0, 0, 0, 0, 0), 0, []), (.ireturn, (1, 3, 0, 0, 0, 0), 0, [])]]
/-- EvenlyPouredModel.drips(IIII)I -/
noncomputable def bk_161 : List (List am_P) := [[(.iload_n 1, (1, 0, 1, 0, 0, 0), 0, []), (.iload_n 2, (1, 0, 2, 0, 0, 0), 0, []), (.iload_n 3, (1, 0, 3, 0, 0, 0), 0, []), (.iload 4, (2, 0, 4, 0, 0, 0), 0, []), (.invokestatic 252, (3, 2, 159, 1, 4, 0), 6013, [])],
  [(.istore 5, (2, 0, 5, 0, 0, 0), 0, []), (.aload_n 0, (1, 0, 0, 0, 0, 0), 0, []), (.getfield 44, (3, 0, 10, 30, 4210, 1), 0, []), (.iload 5, (2, 0, 5, 0, 0, 0), 0, []), (.iaload, (1, 0, 0, 0, 0, 0), 0, []), (.iconst (-1), (1, 0, 0, 0, 0, 0), (-1), []), (.if_icmp .ne 20, (3, 1, 4, 2, 0, 0), 0, [])],
  [(.aload_n 0, (1, 0, 0, 0, 0, 0), 0, []), (.getfield 44, (3, 0, 10, 30, 4210, 1), 0, []), (.iload 5, (2, 0, 5, 0, 0, 0), 0, []), (.aload_n 0, (1, 0, 0, 0, 0, 0), 0, []), (.iconst 1, (1, 0, 0, 0, 0, 0), 1, []), (.iload_n 1, (1, 0, 1, 0, 0, 0), 0, []), (.iload_n 2, (1, 0, 2, 0, 0, 0), 0, []), (.iload_n 3, (1, 0, 3, 0, 0, 0), 0, []), (.iload 4, (2, 0, 4, 0, 0, 0), 0, []), (.invokevirtual 256, (3, 2, 157, 3, 6, 11), 6016, [])],
  [(.iastore, (1, 0, 0, 0, 0, 0), 0, []), (.nop, (0, 1, 4, 0, 0, 0), 0, [])],
  [(.aload_n 0, (1, 0, 0, 0, 0, 0), 0, []), (.getfield 44, (3, 0, 10, 30, 4210, 1), 0, []), (.iload 5, (2, 0, 5, 0, 0, 0), 0, []), (.iaload, (1, 0, 0, 0, 0, 0), 0, []), (.ireturn, (1, 3, 0, 0, 0, 0), 0, [])]]
/-- EvenlyPouredModel.begins()V -/
noncomputable def bk_162 : List (List am_P) := [[(.iconst 0, (1, 0, 0, 0, 0, 0), 0, []), (.istore_n 1, (1, 0, 1, 0, 0, 0), 0, []), (.nop, (0, 1, 1, 0, 0, 0), 0, [])],
  [(.iload_n 1, (1, 0, 1, 0, 0, 0), 0, []), (.iconst 4, (1, 0, 0, 0, 0, 0), 4, []), (.if_icmp .ge 23, (3, 1, 3, 2, 0, 0), 0, [])],
  [(.aload_n 0, (1, 0, 0, 0, 0, 0), 0, []), (.getfield 47, (3, 0, 10, 31, 4211, 1), 0, []), (.iload_n 1, (1, 0, 1, 0, 0, 0), 0, []), (.iconst 0, (1, 0, 0, 0, 0, 0), 0, []), (.iastore, (1, 0, 0, 0, 0, 0), 0, []), (.aload_n 0, (1, 0, 0, 0, 0, 0), 0, []), (.getfield 50, (3, 0, 10, 32, 4212, 1), 0, []), (.iload_n 1, (1, 0, 1, 0, 0, 0), 0, []), (.iconst 0, (1, 0, 0, 0, 0, 0), 0, []), (.iastore, (1, 0, 0, 0, 0, 0), 0, []), (.iinc 1 1, (3, 0, 1, 0, 0, 0), 1, []), (.goto (-22), (3, 1, 1, 0, 0, 0), 0, [])],
  [(.aload_n 0, (1, 0, 0, 0, 0, 0), 0, []), (.iconst (-1), (1, 0, 0, 0, 0, 0), (-1), []), (.putfield 260, (3, 0, 10, 33, 4213, 0), 0, []), (.aload_n 0, (1, 0, 0, 0, 0, 0), 0, []), (.iconst 0, (1, 0, 0, 0, 0, 0), 0, []), (.putfield 263, (3, 0, 10, 34, 4214, 0), 0, []), (.aload_n 0, (1, 0, 0, 0, 0, 0), 0, []), (.iconst 0, (1, 0, 0, 0, 0, 0), 0, []), (.putfield 266, (3, 0, 10, 35, 4215, 0), 0, []), (.return_, (1, 3, 0, 0, 0, 0), 0, [])]]
/-- EvenlyPouredModel.pours(III)V -/
noncomputable def bk_163 : List (List am_P) := [[(.aload_n 0, (1, 0, 0, 0, 0, 0), 0, []), (.getfield 260, (3, 0, 10, 33, 4213, 0), 0, []), (.iconst (-1), (1, 0, 0, 0, 0, 0), (-1), []), (.if_icmp .ne 7, (3, 1, 2, 1, 0, 0), 0, [])],
  [(.iload_n 2, (1, 0, 2, 0, 0, 0), 0, []), (.goto 7, (3, 1, 3, 0, 0, 0), 0, [])],
  [(.aload_n 0, (1, 0, 0, 0, 0, 0), 0, []), (.getfield 260, (3, 0, 10, 33, 4213, 0), 0, []), (.nop, (0, 1, 3, 0, 0, 0), 0, [])],
  [(.istore 4, (2, 0, 4, 0, 0, 0), 0, []), (.aload_n 0, (1, 0, 0, 0, 0, 0), 0, []), (.iload_n 1, (1, 0, 1, 0, 0, 0), 0, []), (.iload_n 2, (1, 0, 2, 0, 0, 0), 0, []), (.aload_n 0, (1, 0, 0, 0, 0, 0), 0, []), (.getfield 47, (3, 0, 10, 31, 4211, 1), 0, []), (.iload_n 2, (1, 0, 2, 0, 0, 0), 0, []), (.iaload, (1, 0, 0, 0, 0, 0), 0, []), (.iload 4, (2, 0, 4, 0, 0, 0), 0, []), (.invokevirtual 269, (3, 2, 160, 4, 5, 11), 6009, [])],
  [(.iload_n 3, (1, 0, 3, 0, 0, 0), 0, []), (.iadd, (1, 0, 0, 0, 0, 0), 0, []), (.istore 5, (2, 0, 5, 0, 0, 0), 0, []), (.iload 4, (2, 0, 4, 0, 0, 0), 0, []), (.iload_n 2, (1, 0, 2, 0, 0, 0), 0, []), (.if_icmp .eq 63, (3, 1, 10, 5, 0, 0), 0, [])],
  [(.aload_n 0, (1, 0, 0, 0, 0, 0), 0, []), (.iload_n 1, (1, 0, 1, 0, 0, 0), 0, []), (.iload_n 2, (1, 0, 2, 0, 0, 0), 0, []), (.aload_n 0, (1, 0, 0, 0, 0, 0), 0, []), (.getfield 47, (3, 0, 10, 31, 4211, 1), 0, []), (.iload_n 2, (1, 0, 2, 0, 0, 0), 0, []), (.iaload, (1, 0, 0, 0, 0, 0), 0, []), (.iload 4, (2, 0, 4, 0, 0, 0), 0, []), (.invokevirtual 272, (3, 2, 161, 6, 5, 11), 6023, [])],
  [(.istore 6, (2, 0, 6, 0, 0, 0), 0, []), (.iload 6, (2, 0, 6, 0, 0, 0), 0, []), (.iload 5, (2, 0, 5, 0, 0, 0), 0, []), (.if_icmp .ge 8, (3, 1, 8, 7, 0, 0), 0, [])],
  [(.iload 6, (2, 0, 6, 0, 0, 0), 0, []), (.goto 5, (3, 1, 9, 0, 0, 0), 0, [])],
  [(.iload 5, (2, 0, 5, 0, 0, 0), 0, []), (.nop, (0, 1, 9, 0, 0, 0), 0, [])],
  [(.istore 6, (2, 0, 6, 0, 0, 0), 0, []), (.aload_n 0, (1, 0, 0, 0, 0, 0), 0, []), (.dup, (1, 0, 0, 0, 0, 0), 0, []), (.getfield 266, (3, 0, 10, 35, 4215, 0), 0, []), (.iload 6, (2, 0, 6, 0, 0, 0), 0, []), (.iadd, (1, 0, 0, 0, 0, 0), 0, []), (.putfield 266, (3, 0, 10, 35, 4215, 0), 0, []), (.iload 5, (2, 0, 5, 0, 0, 0), 0, []), (.iload 6, (2, 0, 6, 0, 0, 0), 0, []), (.isub, (1, 0, 0, 0, 0, 0), 0, []), (.istore 5, (2, 0, 5, 0, 0, 0), 0, []), (.aload_n 0, (1, 0, 0, 0, 0, 0), 0, []), (.dup, (1, 0, 0, 0, 0, 0), 0, []), (.getfield 263, (3, 0, 10, 34, 4214, 0), 0, []), (.iconst 1, (1, 0, 0, 0, 0, 0), 1, []), (.iadd, (1, 0, 0, 0, 0, 0), 0, []), (.putfield 263, (3, 0, 10, 34, 4214, 0), 0, []), (.nop, (0, 1, 10, 0, 0, 0), 0, [])],
  [(.aload_n 0, (1, 0, 0, 0, 0, 0), 0, []), (.getfield 47, (3, 0, 10, 31, 4211, 1), 0, []), (.iload_n 2, (1, 0, 2, 0, 0, 0), 0, []), (.dup2, (1, 0, 0, 0, 0, 0), 0, []), (.iaload, (1, 0, 0, 0, 0, 0), 0, []), (.iconst 1, (1, 0, 0, 0, 0, 0), 1, []), (.iadd, (1, 0, 0, 0, 0, 0), 0, []), (.iastore, (1, 0, 0, 0, 0, 0), 0, []), (.aload_n 0, (1, 0, 0, 0, 0, 0), 0, []), (.getfield 50, (3, 0, 10, 32, 4212, 1), 0, []), (.iload_n 2, (1, 0, 2, 0, 0, 0), 0, []), (.dup2, (1, 0, 0, 0, 0, 0), 0, []), (.iaload, (1, 0, 0, 0, 0, 0), 0, []), (.iload 5, (2, 0, 5, 0, 0, 0), 0, []), (.iadd, (1, 0, 0, 0, 0, 0), 0, []), (.iastore, (1, 0, 0, 0, 0, 0), 0, []), (.aload_n 0, (1, 0, 0, 0, 0, 0), 0, []), (.iload_n 2, (1, 0, 2, 0, 0, 0), 0, []), (.putfield 260, (3, 0, 10, 33, 4213, 0), 0, []), (.return_, (1, 3, 0, 0, 0, 0), 0, [])]]
/-- EvenlyPouredModel.uneven()I -/
noncomputable def bk_164 : List (List am_P) := [[(.aload_n 0, (1, 0, 0, 0, 0, 0), 0, []), (.getfield 50, (3, 0, 10, 32, 4212, 1), 0, []), (.iconst 0, (1, 0, 0, 0, 0, 0), 0, []), (.iaload, (1, 0, 0, 0, 0, 0), 0, []), (.istore_n 1, (1, 0, 1, 0, 0, 0), 0, []), (.aload_n 0, (1, 0, 0, 0, 0, 0), 0, []), (.getfield 50, (3, 0, 10, 32, 4212, 1), 0, []), (.iconst 0, (1, 0, 0, 0, 0, 0), 0, []), (.iaload, (1, 0, 0, 0, 0, 0), 0, []), (.istore_n 2, (1, 0, 2, 0, 0, 0), 0, []), (.iconst 1, (1, 0, 0, 0, 0, 0), 1, []), (.istore_n 3, (1, 0, 3, 0, 0, 0), 0, []), (.nop, (0, 1, 1, 0, 0, 0), 0, [])],
  [(.iload_n 3, (1, 0, 3, 0, 0, 0), 0, []), (.aload_n 0, (1, 0, 0, 0, 0, 0), 0, []), (.getfield 23, (3, 0, 10, 7, 4187, 0), 0, []), (.if_icmp .ge 51, (3, 1, 9, 2, 0, 0), 0, [])],
  [(.aload_n 0, (1, 0, 0, 0, 0, 0), 0, []), (.getfield 50, (3, 0, 10, 32, 4212, 1), 0, []), (.iload_n 3, (1, 0, 3, 0, 0, 0), 0, []), (.iaload, (1, 0, 0, 0, 0, 0), 0, []), (.iload_n 1, (1, 0, 1, 0, 0, 0), 0, []), (.if_icmp .le 12, (3, 1, 4, 3, 0, 0), 0, [])],
  [(.aload_n 0, (1, 0, 0, 0, 0, 0), 0, []), (.getfield 50, (3, 0, 10, 32, 4212, 1), 0, []), (.iload_n 3, (1, 0, 3, 0, 0, 0), 0, []), (.iaload, (1, 0, 0, 0, 0, 0), 0, []), (.goto 4, (3, 1, 5, 0, 0, 0), 0, [])],
  [(.iload_n 1, (1, 0, 1, 0, 0, 0), 0, []), (.nop, (0, 1, 5, 0, 0, 0), 0, [])],
  [(.istore_n 1, (1, 0, 1, 0, 0, 0), 0, []), (.aload_n 0, (1, 0, 0, 0, 0, 0), 0, []), (.getfield 50, (3, 0, 10, 32, 4212, 1), 0, []), (.iload_n 3, (1, 0, 3, 0, 0, 0), 0, []), (.iaload, (1, 0, 0, 0, 0, 0), 0, []), (.iload_n 2, (1, 0, 2, 0, 0, 0), 0, []), (.if_icmp .ge 12, (3, 1, 7, 6, 0, 0), 0, [])],
  [(.aload_n 0, (1, 0, 0, 0, 0, 0), 0, []), (.getfield 50, (3, 0, 10, 32, 4212, 1), 0, []), (.iload_n 3, (1, 0, 3, 0, 0, 0), 0, []), (.iaload, (1, 0, 0, 0, 0, 0), 0, []), (.goto 4, (3, 1, 8, 0, 0, 0), 0, [])],
  [(.iload_n 2, (1, 0, 2, 0, 0, 0), 0, []), (.nop, (0, 1, 8, 0, 0, 0), 0, [])],
  [(.istore_n 2, (1, 0, 2, 0, 0, 0), 0, []), (.iinc 3 1, (3, 0, 3, 0, 0, 0), 1, []), (.goto (-53), (3, 1, 1, 0, 0, 0), 0, [])],
  [(.iload_n 1, (1, 0, 1, 0, 0, 0), 0, []), (.iload_n 2, (1, 0, 2, 0, 0, 0), 0, []), (.isub, (1, 0, 0, 0, 0, 0), 0, []), (.ireturn, (1, 3, 0, 0, 0, 0), 0, [])]]
/-- EvenlyPouredModel.poursRow()V -/
noncomputable def bk_165 : List (List am_P) := [[(.aload_n 0, (1, 0, 0, 0, 0, 0), 0, []), (.invokevirtual 275, (3, 2, 158, 1, 1, 11), 5237, [])],
  [(.aload_n 0, (1, 0, 0, 0, 0, 0), 0, []), (.invokevirtual 278, (3, 2, 162, 2, 1, 11), 6001, [])],
  [(.iconst 0, (1, 0, 0, 0, 0, 0), 0, []), (.istore_n 1, (1, 0, 1, 0, 0, 0), 0, []), (.nop, (0, 1, 3, 0, 0, 0), 0, [])],
  [(.iload_n 1, (1, 0, 1, 0, 0, 0), 0, []), (.aload_n 0, (1, 0, 0, 0, 0, 0), 0, []), (.getfield 26, (3, 0, 10, 8, 4188, 0), 0, []), (.if_icmp .ge 21, (3, 1, 6, 4, 0, 0), 0, [])],
  [(.aload_n 0, (1, 0, 0, 0, 0, 0), 0, []), (.iload_n 1, (1, 0, 1, 0, 0, 0), 0, []), (.aload_n 0, (1, 0, 0, 0, 0, 0), 0, []), (.getfield 29, (3, 0, 10, 9, 4189, 1), 0, []), (.iload_n 1, (1, 0, 1, 0, 0, 0), 0, []), (.iaload, (1, 0, 0, 0, 0, 0), 0, []), (.iconst 0, (1, 0, 0, 0, 0, 0), 0, []), (.invokevirtual 281, (3, 2, 163, 5, 4, 11), 6005, [])],
  [(.iinc 1 1, (3, 0, 1, 0, 0, 0), 1, []), (.goto (-23), (3, 1, 3, 0, 0, 0), 0, [])],
  [(.return_, (1, 3, 0, 0, 0, 0), 0, [])]]
/-- EvenlyPouredModel.cup(II)I -/
noncomputable def bk_166 : List (List am_P) := [[(.aload_n 0, (1, 0, 0, 0, 0, 0), 0, []), (.iload_n 1, (1, 0, 1, 0, 0, 0), 0, []), (.invokevirtual 119, (3, 2, 131, 1, 2, 11), 5132, [])],
  [(.ifCond .eq 15, (3, 1, 4, 2, 0, 0), 0, [])],
  [(.iload_n 2, (1, 0, 2, 0, 0, 0), 0, []), (.i2l, (1, 0, 0, 0, 0, 0), 0, []), (.lconst 0, (1, 0, 0, 0, 0, 0), 0, []), (.ldc2_w 117, (3, 0, 2, 0, 5127, 0), 0, []), (.invokestatic 94, (3, 2, 127, 3, 3, 0), 5111, [])],
  [(.ifCond .ne 6, (3, 1, 5, 4, 0, 0), 0, [])],
  [(.bipush (-2), (2, 0, 0, 0, 0, 0), (-2), []), (.ireturn, (1, 3, 0, 0, 0, 0), 0, [])],
  [(.aload_n 0, (1, 0, 0, 0, 0, 0), 0, []), (.invokevirtual 285, (3, 2, 165, 6, 1, 11), 5233, [])],
  [(.iload_n 2, (1, 0, 2, 0, 0, 0), 0, []), (.ifCond .ne 12, (3, 1, 8, 7, 0, 0), 0, [])],
  [(.aload_n 0, (1, 0, 0, 0, 0, 0), 0, []), (.getfield 47, (3, 0, 10, 31, 4211, 1), 0, []), (.iload_n 1, (1, 0, 1, 0, 0, 0), 0, []), (.iaload, (1, 0, 0, 0, 0, 0), 0, []), (.goto 34, (3, 1, 11, 0, 0, 0), 0, [])],
  [(.iload_n 2, (1, 0, 2, 0, 0, 0), 0, []), (.iconst 1, (1, 0, 0, 0, 0, 0), 1, []), (.if_icmp .ne 12, (3, 1, 10, 9, 0, 0), 0, [])],
  [(.aload_n 0, (1, 0, 0, 0, 0, 0), 0, []), (.getfield 50, (3, 0, 10, 32, 4212, 1), 0, []), (.iload_n 1, (1, 0, 1, 0, 0, 0), 0, []), (.iaload, (1, 0, 0, 0, 0, 0), 0, []), (.goto 20, (3, 1, 11, 0, 0, 0), 0, [])],
  [(.aload_n 0, (1, 0, 0, 0, 0, 0), 0, []), (.iconst 2, (1, 0, 0, 0, 0, 0), 2, []), (.aload_n 0, (1, 0, 0, 0, 0, 0), 0, []), (.getfield 26, (3, 0, 10, 8, 4188, 0), 0, []), (.iload_n 1, (1, 0, 1, 0, 0, 0), 0, []), (.aload_n 0, (1, 0, 0, 0, 0, 0), 0, []), (.getfield 47, (3, 0, 10, 31, 4211, 1), 0, []), (.iload_n 1, (1, 0, 1, 0, 0, 0), 0, []), (.iaload, (1, 0, 0, 0, 0, 0), 0, []), (.iload_n 1, (1, 0, 1, 0, 0, 0), 0, []), (.invokevirtual 256, (3, 2, 157, 11, 6, 11), 6016, [])],
  [(.ireturn, (1, 3, 0, 0, 0, 0), 0, [])]]
/-- EvenlyPouredModel.power()I -/
noncomputable def bk_167 : List (List am_P) := [[(.iconst 0, (1, 0, 0, 0, 0, 0), 0, []), (.istore_n 1, (1, 0, 1, 0, 0, 0), 0, []), (.nop, (0, 1, 1, 0, 0, 0), 0, [])],
  [(.iload_n 1, (1, 0, 1, 0, 0, 0), 0, []), (.iconst 5, (1, 0, 0, 0, 0, 0), 5, []), (.if_icmp .ge 46, (3, 1, 10, 2, 0, 0), 0, [])],
  [(.aload_n 0, (1, 0, 0, 0, 0, 0), 0, []), (.iconst 0, (1, 0, 0, 0, 0, 0), 0, []), (.iload_n 1, (1, 0, 1, 0, 0, 0), 0, []), (.invokevirtual 288, (3, 2, 168, 3, 3, 11), 6035, [])],
  [(.istore_n 2, (1, 0, 2, 0, 0, 0), 0, []), (.iconst 1, (1, 0, 0, 0, 0, 0), 1, []), (.istore_n 3, (1, 0, 3, 0, 0, 0), 0, []), (.nop, (0, 1, 4, 0, 0, 0), 0, [])],
  [(.iload_n 3, (1, 0, 3, 0, 0, 0), 0, []), (.aload_n 0, (1, 0, 0, 0, 0, 0), 0, []), (.getfield 23, (3, 0, 10, 7, 4187, 0), 0, []), (.if_icmp .ge 23, (3, 1, 9, 5, 0, 0), 0, [])],
  [(.aload_n 0, (1, 0, 0, 0, 0, 0), 0, []), (.iload_n 3, (1, 0, 3, 0, 0, 0), 0, []), (.iload_n 1, (1, 0, 1, 0, 0, 0), 0, []), (.invokevirtual 288, (3, 2, 168, 6, 3, 11), 6035, [])],
  [(.iload_n 2, (1, 0, 2, 0, 0, 0), 0, []), (.if_icmp .eq 7, (3, 1, 8, 7, 0, 0), 0, [])],
  [(.iload_n 1, (1, 0, 1, 0, 0, 0), 0, []), (.iconst 1, (1, 0, 0, 0, 0, 0), 1, []), (.isub, (1, 0, 0, 0, 0, 0), 0, []), (.ireturn, (1, 3, 0, 0, 0, 0), 0, [])],
  [(.iinc 3 1, (3, 0, 3, 0, 0, 0), 1, []), (.goto (-25), (3, 1, 4, 0, 0, 0), 0, [])],
  [(.iinc 1 1, (3, 0, 1, 0, 0, 0), 1, []), (.goto (-45), (3, 1, 1, 0, 0, 0), 0, [])],
  [(.iconst 4, (1, 0, 0, 0, 0, 0), 4, []), (.ireturn, (1, 3, 0, 0, 0, 0), 0, [])]]
/-- EvenlyPouredModel.sumOf(II)I -/
noncomputable def bk_168 : List (List am_P) := [[(.iconst 0, (1, 0, 0, 0, 0, 0), 0, []), (.istore_n 3, (1, 0, 3, 0, 0, 0), 0, []), (.iconst 0, (1, 0, 0, 0, 0, 0), 0, []), (.istore 4, (2, 0, 4, 0, 0, 0), 0, []), (.nop, (0, 1, 1, 0, 0, 0), 0, [])],
  [(.iload 4, (2, 0, 4, 0, 0, 0), 0, []), (.aload_n 0, (1, 0, 0, 0, 0, 0), 0, []), (.getfield 26, (3, 0, 10, 8, 4188, 0), 0, []), (.if_icmp .ge 54, (3, 1, 9, 2, 0, 0), 0, [])],
  [(.iconst 1, (1, 0, 0, 0, 0, 0), 1, []), (.istore 5, (2, 0, 5, 0, 0, 0), 0, []), (.iconst 0, (1, 0, 0, 0, 0, 0), 0, []), (.istore 6, (2, 0, 6, 0, 0, 0), 0, []), (.nop, (0, 1, 3, 0, 0, 0), 0, [])],
  [(.iload 6, (2, 0, 6, 0, 0, 0), 0, []), (.iload_n 2, (1, 0, 2, 0, 0, 0), 0, []), (.if_icmp .ge 16, (3, 1, 5, 4, 0, 0), 0, [])],
  [(.iload 5, (2, 0, 5, 0, 0, 0), 0, []), (.iload 4, (2, 0, 4, 0, 0, 0), 0, []), (.imul, (1, 0, 0, 0, 0, 0), 0, []), (.istore 5, (2, 0, 5, 0, 0, 0), 0, []), (.iinc 6 1, (3, 0, 6, 0, 0, 0), 1, []), (.goto (-16), (3, 1, 3, 0, 0, 0), 0, [])],
  [(.iload_n 3, (1, 0, 3, 0, 0, 0), 0, []), (.aload_n 0, (1, 0, 0, 0, 0, 0), 0, []), (.getfield 29, (3, 0, 10, 9, 4189, 1), 0, []), (.iload 4, (2, 0, 4, 0, 0, 0), 0, []), (.iaload, (1, 0, 0, 0, 0, 0), 0, []), (.iload_n 1, (1, 0, 1, 0, 0, 0), 0, []), (.if_icmp .ne 8, (3, 1, 7, 6, 0, 0), 0, [])],
  [(.iload 5, (2, 0, 5, 0, 0, 0), 0, []), (.goto 4, (3, 1, 8, 0, 0, 0), 0, [])],
  [(.iconst 0, (1, 0, 0, 0, 0, 0), 0, []), (.nop, (0, 1, 8, 0, 0, 0), 0, [])],
  [(.iadd, (1, 0, 0, 0, 0, 0), 0, []), (.istore_n 3, (1, 0, 3, 0, 0, 0), 0, []), (.iinc 4 1, (3, 0, 4, 0, 0, 0), 1, []), (.goto (-57), (3, 1, 1, 0, 0, 0), 0, [])],
  [(.iload_n 3, (1, 0, 3, 0, 0, 0), 0, []), (.ireturn, (1, 3, 0, 0, 0, 0), 0, [])]]
/-- EvenlyPouredModel.all(I)I -/
noncomputable def bk_169 : List (List am_P) := [[(.iload_n 1, (1, 0, 1, 0, 0, 0), 0, []), (.i2l, (1, 0, 0, 0, 0, 0), 0, []), (.lconst 0, (1, 0, 0, 0, 0, 0), 0, []), (.ldc2_w 109, (3, 0, 4, 0, 5119, 0), 0, []), (.invokestatic 94, (3, 2, 127, 1, 3, 0), 5111, [])],
  [(.ifCond .ne 6, (3, 1, 3, 2, 0, 0), 0, [])],
  [(.bipush (-2), (2, 0, 0, 0, 0, 0), (-2), []), (.ireturn, (1, 3, 0, 0, 0, 0), 0, [])],
  [(.iload_n 1, (1, 0, 1, 0, 0, 0), 0, []), (.iconst 4, (1, 0, 0, 0, 0, 0), 4, []), (.if_icmp .ne 8, (3, 1, 6, 4, 0, 0), 0, [])],
  [(.aload_n 0, (1, 0, 0, 0, 0, 0), 0, []), (.invokevirtual 291, (3, 2, 167, 5, 1, 11), 6031, [])],
  [(.ireturn, (1, 3, 0, 0, 0, 0), 0, [])],
  [(.aload_n 0, (1, 0, 0, 0, 0, 0), 0, []), (.invokevirtual 285, (3, 2, 165, 7, 1, 11), 5233, [])],
  [(.iload_n 1, (1, 0, 1, 0, 0, 0), 0, []), (.iconst 1, (1, 0, 0, 0, 0, 0), 1, []), (.if_icmp .eq 31, (3, 1, 15, 8, 0, 0), 0, [])],
  [(.iload_n 1, (1, 0, 1, 0, 0, 0), 0, []), (.ifCond .ne 10, (3, 1, 11, 9, 0, 0), 0, [])],
  [(.aload_n 0, (1, 0, 0, 0, 0, 0), 0, []), (.invokevirtual 294, (3, 2, 164, 10, 1, 11), 6039, [])],
  [(.goto 19, (3, 1, 14, 0, 0, 0), 0, [])],
  [(.iload_n 1, (1, 0, 1, 0, 0, 0), 0, []), (.iconst 2, (1, 0, 0, 0, 0, 0), 2, []), (.if_icmp .ne 10, (3, 1, 13, 12, 0, 0), 0, [])],
  [(.aload_n 0, (1, 0, 0, 0, 0, 0), 0, []), (.getfield 263, (3, 0, 10, 34, 4214, 0), 0, []), (.goto 7, (3, 1, 14, 0, 0, 0), 0, [])],
  [(.aload_n 0, (1, 0, 0, 0, 0, 0), 0, []), (.getfield 266, (3, 0, 10, 35, 4215, 0), 0, []), (.nop, (0, 1, 14, 0, 0, 0), 0, [])],
  [(.ireturn, (1, 3, 0, 0, 0, 0), 0, [])],
  [(.iconst 0, (1, 0, 0, 0, 0, 0), 0, []), (.istore_n 2, (1, 0, 2, 0, 0, 0), 0, []), (.iconst 0, (1, 0, 0, 0, 0, 0), 0, []), (.istore_n 3, (1, 0, 3, 0, 0, 0), 0, []), (.nop, (0, 1, 16, 0, 0, 0), 0, [])],
  [(.iload_n 3, (1, 0, 3, 0, 0, 0), 0, []), (.aload_n 0, (1, 0, 0, 0, 0, 0), 0, []), (.getfield 23, (3, 0, 10, 7, 4187, 0), 0, []), (.if_icmp .ge 51, (3, 1, 22, 17, 0, 0), 0, [])],
  [(.aload_n 0, (1, 0, 0, 0, 0, 0), 0, []), (.getfield 50, (3, 0, 10, 32, 4212, 1), 0, []), (.iload_n 3, (1, 0, 3, 0, 0, 0), 0, []), (.iaload, (1, 0, 0, 0, 0, 0), 0, []), (.aload_n 0, (1, 0, 0, 0, 0, 0), 0, []), (.iconst 2, (1, 0, 0, 0, 0, 0), 2, []), (.aload_n 0, (1, 0, 0, 0, 0, 0), 0, []), (.getfield 26, (3, 0, 10, 8, 4188, 0), 0, []), (.iload_n 3, (1, 0, 3, 0, 0, 0), 0, []), (.aload_n 0, (1, 0, 0, 0, 0, 0), 0, []), (.getfield 47, (3, 0, 10, 31, 4211, 1), 0, []), (.iload_n 3, (1, 0, 3, 0, 0, 0), 0, []), (.iaload, (1, 0, 0, 0, 0, 0), 0, []), (.iload_n 3, (1, 0, 3, 0, 0, 0), 0, []), (.invokevirtual 256, (3, 2, 157, 18, 6, 11), 6016, [])],
  [(.isub, (1, 0, 0, 0, 0, 0), 0, []), (.istore 4, (2, 0, 4, 0, 0, 0), 0, []), (.iload_n 2, (1, 0, 2, 0, 0, 0), 0, []), (.iload 4, (2, 0, 4, 0, 0, 0), 0, []), (.ifCond .ge 9, (3, 1, 20, 19, 0, 0), 0, [])],
  [(.iload 4, (2, 0, 4, 0, 0, 0), 0, []), (.ineg, (1, 0, 0, 0, 0, 0), 0, []), (.goto 5, (3, 1, 21, 0, 0, 0), 0, [])],
  [(.iload 4, (2, 0, 4, 0, 0, 0), 0, []), (.nop, (0, 1, 21, 0, 0, 0), 0, [])],
  [(.iadd, (1, 0, 0, 0, 0, 0), 0, []), (.istore_n 2, (1, 0, 2, 0, 0, 0), 0, []), (.iinc 3 1, (3, 0, 3, 0, 0, 0), 1, []), (.goto (-53), (3, 1, 16, 0, 0, 0), 0, [])],
  [(.iload_n 2, (1, 0, 2, 0, 0, 0), 0, []), (.ireturn, (1, 3, 0, 0, 0, 0), 0, [])]]
/-- EvenlyPouredModel.lowest(JJI)J -/
noncomputable def bk_170 : List (List am_P) := [[(.lload_n 0, (1, 0, 0, 0, 0, 0), 0, []), (.lstore 5, (2, 0, 5, 0, 0, 0), 0, []), (.lload_n 2, (1, 0, 2, 0, 0, 0), 0, []), (.lstore 7, (2, 0, 7, 0, 0, 0), 0, []), (.nop, (0, 1, 1, 0, 0, 0), 0, [])],
  [(.lload 7, (2, 0, 7, 0, 0, 0), 0, []), (.lconst 0, (1, 0, 0, 0, 0, 0), 0, []), (.lcmp, (1, 0, 0, 0, 0, 0), 0, []), (.ifCond .eq 21, (3, 1, 3, 2, 0, 0), 0, [])],
  [(.lload 5, (2, 0, 5, 0, 0, 0), 0, []), (.lload 7, (2, 0, 7, 0, 0, 0), 0, []), (.lrem, (1, 0, 0, 0, 0, 0), 0, []), (.lstore 9, (2, 0, 9, 0, 0, 0), 0, []), (.lload 7, (2, 0, 7, 0, 0, 0), 0, []), (.lstore 5, (2, 0, 5, 0, 0, 0), 0, []), (.lload 9, (2, 0, 9, 0, 0, 0), 0, []), (.lstore 7, (2, 0, 7, 0, 0, 0), 0, []), (.goto (-22), (3, 1, 1, 0, 0, 0), 0, [])],
  [(.iload 4, (2, 0, 4, 0, 0, 0), 0, []), (.ifCond .ne 10, (3, 1, 5, 4, 0, 0), 0, [])],
  [(.lload_n 0, (1, 0, 0, 0, 0, 0), 0, []), (.lload 5, (2, 0, 5, 0, 0, 0), 0, []), (.ldiv, (1, 0, 0, 0, 0, 0), 0, []), (.goto 7, (3, 1, 6, 0, 0, 0), 0, [])],
  [(.lload_n 2, (1, 0, 2, 0, 0, 0), 0, []), (.lload 5, (2, 0, 5, 0, 0, 0), 0, []), (.ldiv, (1, 0, 0, 0, 0, 0), 0, []), (.nop, (0, 1, 6, 0, 0, 0), 0, [])],
  [(.lreturn, (1, 3, 0, 0, 0, 0), 0, [])]]
/-- EvenlyPouredModel.mean(II)J -/
noncomputable def bk_171 : List (List am_P) := [[(.aload_n 0, (1, 0, 0, 0, 0, 0), 0, []), (.iload_n 1, (1, 0, 1, 0, 0, 0), 0, []), (.invokevirtual 119, (3, 2, 131, 1, 2, 11), 5132, [])],
  [(.ifCond .eq 13, (3, 1, 4, 2, 0, 0), 0, [])],
  [(.iload_n 2, (1, 0, 2, 0, 0, 0), 0, []), (.i2l, (1, 0, 0, 0, 0, 0), 0, []), (.lconst 0, (1, 0, 0, 0, 0, 0), 0, []), (.lconst 1, (1, 0, 1, 0, 0, 0), 0, []), (.invokestatic 94, (3, 2, 127, 3, 3, 0), 5111, [])],
  [(.ifCond .ne 7, (3, 1, 5, 4, 0, 0), 0, [])],
  [(.ldc2_w 297, (3, 0, 100000, 0, 6047, 0), 0, []), (.lreturn, (1, 3, 0, 0, 0, 0), 0, [])],
  [(.aload_n 0, (1, 0, 0, 0, 0, 0), 0, []), (.invokevirtual 285, (3, 2, 165, 6, 1, 11), 5233, [])],
  [(.aload_n 0, (1, 0, 0, 0, 0, 0), 0, []), (.getfield 47, (3, 0, 10, 31, 4211, 1), 0, []), (.iload_n 1, (1, 0, 1, 0, 0, 0), 0, []), (.iaload, (1, 0, 0, 0, 0, 0), 0, []), (.ifCond .ne 9, (3, 1, 8, 7, 0, 0), 0, [])],
  [(.ldc2_w 297, (3, 0, 100000, 0, 6047, 0), 0, []), (.goto 21, (3, 1, 9, 0, 0, 0), 0, [])],
  [(.aload_n 0, (1, 0, 0, 0, 0, 0), 0, []), (.getfield 50, (3, 0, 10, 32, 4212, 1), 0, []), (.iload_n 1, (1, 0, 1, 0, 0, 0), 0, []), (.iaload, (1, 0, 0, 0, 0, 0), 0, []), (.i2l, (1, 0, 0, 0, 0, 0), 0, []), (.aload_n 0, (1, 0, 0, 0, 0, 0), 0, []), (.getfield 47, (3, 0, 10, 31, 4211, 1), 0, []), (.iload_n 1, (1, 0, 1, 0, 0, 0), 0, []), (.iaload, (1, 0, 0, 0, 0, 0), 0, []), (.i2l, (1, 0, 0, 0, 0, 0), 0, []), (.iload_n 2, (1, 0, 2, 0, 0, 0), 0, []), (.invokestatic 299, (3, 2, 170, 9, 3, 0), 6048, [])],
  [(.lreturn, (1, 3, 0, 0, 0, 0), 0, [])]]
/-- EvenlyPouredModel.areMany()Z -/
noncomputable def bk_172 : List (List am_P) := [[(.iconst 1, (1, 0, 0, 0, 0, 0), 1, []), (.istore_n 1, (1, 0, 1, 0, 0, 0), 0, []), (.iconst 0, (1, 0, 0, 0, 0, 0), 0, []), (.istore_n 2, (1, 0, 2, 0, 0, 0), 0, []), (.nop, (0, 1, 1, 0, 0, 0), 0, [])],
  [(.iload_n 2, (1, 0, 2, 0, 0, 0), 0, []), (.aload_n 0, (1, 0, 0, 0, 0, 0), 0, []), (.getfield 26, (3, 0, 10, 8, 4188, 0), 0, []), (.if_icmp .ge 23, (3, 1, 4, 2, 0, 0), 0, [])],
  [(.iload_n 1, (1, 0, 1, 0, 0, 0), 0, []), (.ldc_w 303, (3, 0, 0, 0, 6060, 0), 65536, []), (.if_icmp .gt 16, (3, 1, 4, 3, 0, 0), 0, [])],
  [(.iload_n 1, (1, 0, 1, 0, 0, 0), 0, []), (.aload_n 0, (1, 0, 0, 0, 0, 0), 0, []), (.getfield 23, (3, 0, 10, 7, 4187, 0), 0, []), (.imul, (1, 0, 0, 0, 0, 0), 0, []), (.istore_n 1, (1, 0, 1, 0, 0, 0), 0, []), (.iinc 2 1, (3, 0, 2, 0, 0, 0), 1, []), (.goto (-25), (3, 1, 1, 0, 0, 0), 0, [])],
  [(.iload_n 1, (1, 0, 1, 0, 0, 0), 0, []), (.ldc_w 303, (3, 0, 0, 0, 6060, 0), 65536, []), (.if_icmp .le 7, (3, 1, 6, 5, 0, 0), 0, [])],
  [(.iconst 1, (1, 0, 0, 0, 0, 0), 1, []), (.goto 4, (3, 1, 7, 0, 0, 0), 0, [])],
  [(.iconst 0, (1, 0, 0, 0, 0, 0), 0, []), (.nop, (0, 1, 7, 0, 0, 0), 0, [])],
  [(.ireturn, (1, 3, 0, 0, 0, 1), 0, [])]]
/-- EvenlyPouredModel.goes(I)V -/
noncomputable def bk_173 : List (List am_P) := [[(.iload_n 1, (1, 0, 1, 0, 0, 0), 0, []), (.aload_n 0, (1, 0, 0, 0, 0, 0), 0, []), (.getfield 26, (3, 0, 10, 8, 4188, 0), 0, []), (.if_icmp .ne 8, (3, 1, 3, 1, 0, 0), 0, [])],
  [(.aload_n 0, (1, 0, 0, 0, 0, 0), 0, []), (.invokevirtual 304, (3, 2, 175, 2, 1, 11), 6069, [])],
  [(.return_, (1, 3, 0, 0, 0, 0), 0, [])],
  [(.aload_n 0, (1, 0, 0, 0, 0, 0), 0, []), (.getfield 26, (3, 0, 10, 8, 4188, 0), 0, []), (.aload_n 0, (1, 0, 0, 0, 0, 0), 0, []), (.getfield 23, (3, 0, 10, 7, 4187, 0), 0, []), (.iadd, (1, 0, 0, 0, 0, 0), 0, []), (.iconst 1, (1, 0, 0, 0, 0, 0), 1, []), (.isub, (1, 0, 0, 0, 0, 0), 0, []), (.aload_n 0, (1, 0, 0, 0, 0, 0), 0, []), (.getfield 23, (3, 0, 10, 7, 4187, 0), 0, []), (.idiv, (1, 0, 0, 0, 0, 0), 0, []), (.istore_n 2, (1, 0, 2, 0, 0, 0), 0, []), (.iconst 0, (1, 0, 0, 0, 0, 0), 0, []), (.istore_n 3, (1, 0, 3, 0, 0, 0), 0, []), (.nop, (0, 1, 4, 0, 0, 0), 0, [])],
  [(.iload_n 3, (1, 0, 3, 0, 0, 0), 0, []), (.aload_n 0, (1, 0, 0, 0, 0, 0), 0, []), (.getfield 23, (3, 0, 10, 7, 4187, 0), 0, []), (.if_icmp .ge 98, (3, 1, 11, 5, 0, 0), 0, [])],
  [(.aload_n 0, (1, 0, 0, 0, 0, 0), 0, []), (.getfield 307, (3, 0, 10, 40, 4220, 0), 0, []), (.iconst 2, (1, 0, 0, 0, 0, 0), 2, []), (.if_icmp .eq 13, (3, 1, 7, 6, 0, 0), 0, [])],
  [(.aload_n 0, (1, 0, 0, 0, 0, 0), 0, []), (.getfield 47, (3, 0, 10, 31, 4211, 1), 0, []), (.iload_n 3, (1, 0, 3, 0, 0, 0), 0, []), (.iaload, (1, 0, 0, 0, 0, 0), 0, []), (.iload_n 2, (1, 0, 2, 0, 0, 0), 0, []), (.if_icmp .ge 74, (3, 1, 10, 7, 0, 0), 0, [])],
  [(.aload_n 0, (1, 0, 0, 0, 0, 0), 0, []), (.getfield 50, (3, 0, 10, 32, 4212, 1), 0, []), (.iload_n 3, (1, 0, 3, 0, 0, 0), 0, []), (.iaload, (1, 0, 0, 0, 0, 0), 0, []), (.istore 4, (2, 0, 4, 0, 0, 0), 0, []), (.aload_n 0, (1, 0, 0, 0, 0, 0), 0, []), (.getfield 260, (3, 0, 10, 33, 4213, 0), 0, []), (.istore 5, (2, 0, 5, 0, 0, 0), 0, []), (.aload_n 0, (1, 0, 0, 0, 0, 0), 0, []), (.getfield 263, (3, 0, 10, 34, 4214, 0), 0, []), (.istore 6, (2, 0, 6, 0, 0, 0), 0, []), (.aload_n 0, (1, 0, 0, 0, 0, 0), 0, []), (.iload_n 1, (1, 0, 1, 0, 0, 0), 0, []), (.iload_n 3, (1, 0, 3, 0, 0, 0), 0, []), (.iconst 0, (1, 0, 0, 0, 0, 0), 0, []), (.invokevirtual 281, (3, 2, 163, 8, 4, 11), 6005, [])],
  [(.aload_n 0, (1, 0, 0, 0, 0, 0), 0, []), (.getfield 53, (3, 0, 10, 36, 4216, 1), 0, []), (.iload_n 1, (1, 0, 1, 0, 0, 0), 0, []), (.iload_n 3, (1, 0, 3, 0, 0, 0), 0, []), (.iastore, (1, 0, 0, 0, 0, 0), 0, []), (.aload_n 0, (1, 0, 0, 0, 0, 0), 0, []), (.iload_n 1, (1, 0, 1, 0, 0, 0), 0, []), (.iconst 1, (1, 0, 0, 0, 0, 0), 1, []), (.iadd, (1, 0, 0, 0, 0, 0), 0, []), (.invokevirtual 310, (3, 2, 173, 9, 2, 11), 6065, [])],
  [(.aload_n 0, (1, 0, 0, 0, 0, 0), 0, []), (.getfield 50, (3, 0, 10, 32, 4212, 1), 0, []), (.iload_n 3, (1, 0, 3, 0, 0, 0), 0, []), (.iload 4, (2, 0, 4, 0, 0, 0), 0, []), (.iastore, (1, 0, 0, 0, 0, 0), 0, []), (.aload_n 0, (1, 0, 0, 0, 0, 0), 0, []), (.getfield 47, (3, 0, 10, 31, 4211, 1), 0, []), (.iload_n 3, (1, 0, 3, 0, 0, 0), 0, []), (.dup2, (1, 0, 0, 0, 0, 0), 0, []), (.iaload, (1, 0, 0, 0, 0, 0), 0, []), (.iconst 1, (1, 0, 0, 0, 0, 0), 1, []), (.isub, (1, 0, 0, 0, 0, 0), 0, []), (.iastore, (1, 0, 0, 0, 0, 0), 0, []), (.aload_n 0, (1, 0, 0, 0, 0, 0), 0, []), (.iload 5, (2, 0, 5, 0, 0, 0), 0, []), (.putfield 260, (3, 0, 10, 33, 4213, 0), 0, []), (.aload_n 0, (1, 0, 0, 0, 0, 0), 0, []), (.iload 6, (2, 0, 6, 0, 0, 0), 0, []), (.putfield 263, (3, 0, 10, 34, 4214, 0), 0, []), (.nop, (0, 1, 10, 0, 0, 0), 0, [])],
  [(.iinc 3 1, (3, 0, 3, 0, 0, 0), 1, []), (.goto (-100), (3, 1, 4, 0, 0, 0), 0, [])],
  [(.return_, (1, 3, 0, 0, 0, 0), 0, [])]]
/-- EvenlyPouredModel.areBalanced()Z -/
noncomputable def bk_174 : List (List am_P) := [[(.iconst 0, (1, 0, 0, 0, 0, 0), 0, []), (.istore_n 1, (1, 0, 1, 0, 0, 0), 0, []), (.nop, (0, 1, 1, 0, 0, 0), 0, [])],
  [(.iload_n 1, (1, 0, 1, 0, 0, 0), 0, []), (.aload_n 0, (1, 0, 0, 0, 0, 0), 0, []), (.getfield 23, (3, 0, 10, 7, 4187, 0), 0, []), (.if_icmp .ge 29, (3, 1, 5, 2, 0, 0), 0, [])],
  [(.aload_n 0, (1, 0, 0, 0, 0, 0), 0, []), (.getfield 47, (3, 0, 10, 31, 4211, 1), 0, []), (.iload_n 1, (1, 0, 1, 0, 0, 0), 0, []), (.iaload, (1, 0, 0, 0, 0, 0), 0, []), (.aload_n 0, (1, 0, 0, 0, 0, 0), 0, []), (.getfield 26, (3, 0, 10, 8, 4188, 0), 0, []), (.aload_n 0, (1, 0, 0, 0, 0, 0), 0, []), (.getfield 23, (3, 0, 10, 7, 4187, 0), 0, []), (.idiv, (1, 0, 0, 0, 0, 0), 0, []), (.if_icmp .ge 5, (3, 1, 4, 3, 0, 0), 0, [])],
  [(.iconst 0, (1, 0, 0, 0, 0, 0), 0, []), (.ireturn, (1, 3, 0, 0, 0, 1), 0, [])],
  [(.iinc 1 1, (3, 0, 1, 0, 0, 0), 1, []), (.goto (-31), (3, 1, 1, 0, 0, 0), 0, [])],
  [(.iconst 1, (1, 0, 0, 0, 0, 0), 1, []), (.ireturn, (1, 3, 0, 0, 0, 1), 0, [])]]
/-- EvenlyPouredModel.ends()V -/
noncomputable def bk_175 : List (List am_P) := [[(.aload_n 0, (1, 0, 0, 0, 0, 0), 0, []), (.getfield 307, (3, 0, 10, 40, 4220, 0), 0, []), (.iconst 2, (1, 0, 0, 0, 0, 0), 2, []), (.if_icmp .ne 81, (3, 1, 12, 1, 0, 0), 0, [])],
  [(.iconst 1, (1, 0, 0, 0, 0, 0), 1, []), (.istore_n 1, (1, 0, 1, 0, 0, 0), 0, []), (.iconst 0, (1, 0, 0, 0, 0, 0), 0, []), (.istore_n 2, (1, 0, 2, 0, 0, 0), 0, []), (.nop, (0, 1, 2, 0, 0, 0), 0, [])],
  [(.iload_n 2, (1, 0, 2, 0, 0, 0), 0, []), (.aload_n 0, (1, 0, 0, 0, 0, 0), 0, []), (.getfield 23, (3, 0, 10, 7, 4187, 0), 0, []), (.if_icmp .ge 42, (3, 1, 8, 3, 0, 0), 0, [])],
  [(.iload_n 1, (1, 0, 1, 0, 0, 0), 0, []), (.ifCond .eq 30, (3, 1, 6, 4, 0, 0), 0, [])],
  [(.aload_n 0, (1, 0, 0, 0, 0, 0), 0, []), (.getfield 50, (3, 0, 10, 32, 4212, 1), 0, []), (.iload_n 2, (1, 0, 2, 0, 0, 0), 0, []), (.iaload, (1, 0, 0, 0, 0, 0), 0, []), (.aload_n 0, (1, 0, 0, 0, 0, 0), 0, []), (.getfield 84, (3, 0, 10, 54, 4234, 1), 0, []), (.bipush 40, (2, 0, 0, 0, 0, 0), 40, []), (.aload_n 0, (1, 0, 0, 0, 0, 0), 0, []), (.getfield 314, (3, 0, 10, 41, 4221, 0), 0, []), (.imul, (1, 0, 0, 0, 0, 0), 0, []), (.iload_n 2, (1, 0, 2, 0, 0, 0), 0, []), (.iadd, (1, 0, 0, 0, 0, 0), 0, []), (.iaload, (1, 0, 0, 0, 0, 0), 0, []), (.if_icmp .ne 7, (3, 1, 6, 5, 0, 0), 0, [])],
  [(.iconst 1, (1, 0, 0, 0, 0, 0), 1, []), (.goto 4, (3, 1, 7, 0, 0, 0), 0, [])],
  [(.iconst 0, (1, 0, 0, 0, 0, 0), 0, []), (.nop, (0, 1, 7, 0, 0, 0), 0, [])],
  [(.istore_n 1, (1, 0, 1, 0, 0, 0), 0, []), (.iinc 2 1, (3, 0, 2, 0, 0, 0), 1, []), (.goto (-44), (3, 1, 2, 0, 0, 0), 0, [])],
  [(.iload_n 1, (1, 0, 1, 0, 0, 0), 0, []), (.ifCond .eq 25, (3, 1, 11, 9, 0, 0), 0, [])],
  [(.aload_n 0, (1, 0, 0, 0, 0, 0), 0, []), (.dup, (1, 0, 0, 0, 0, 0), 0, []), (.getfield 317, (3, 0, 10, 42, 4222, 0), 0, []), (.iconst 1, (1, 0, 0, 0, 0, 0), 1, []), (.iadd, (1, 0, 0, 0, 0, 0), 0, []), (.putfield 317, (3, 0, 10, 42, 4222, 0), 0, []), (.aload_n 0, (1, 0, 0, 0, 0, 0), 0, []), (.getfield 317, (3, 0, 10, 42, 4222, 0), 0, []), (.iconst 1, (1, 0, 0, 0, 0, 0), 1, []), (.if_icmp .ne 7, (3, 1, 11, 10, 0, 0), 0, [])],
  [(.aload_n 0, (1, 0, 0, 0, 0, 0), 0, []), (.invokevirtual 320, (3, 2, 176, 11, 1, 11), 6073, [])],
  [(.return_, (1, 3, 0, 0, 0, 0), 0, [])],
  [(.aload_n 0, (1, 0, 0, 0, 0, 0), 0, []), (.invokevirtual 323, (3, 2, 174, 13, 1, 11), 6077, [])],
  [(.ifCond .ne 4, (3, 1, 15, 14, 0, 0), 0, [])],
  [(.return_, (1, 3, 0, 0, 0, 0), 0, [])],
  [(.aload_n 0, (1, 0, 0, 0, 0, 0), 0, []), (.invokevirtual 294, (3, 2, 164, 16, 1, 11), 6039, [])],
  [(.istore_n 1, (1, 0, 1, 0, 0, 0), 0, []), (.aload_n 0, (1, 0, 0, 0, 0, 0), 0, []), (.getfield 307, (3, 0, 10, 40, 4220, 0), 0, []), (.iconst 1, (1, 0, 0, 0, 0, 0), 1, []), (.if_icmp .ne 39, (3, 1, 22, 17, 0, 0), 0, [])],
  [(.iload_n 1, (1, 0, 1, 0, 0, 0), 0, []), (.aload_n 0, (1, 0, 0, 0, 0, 0), 0, []), (.getfield 314, (3, 0, 10, 41, 4221, 0), 0, []), (.if_icmp .gt 30, (3, 1, 21, 18, 0, 0), 0, [])],
  [(.aload_n 0, (1, 0, 0, 0, 0, 0), 0, []), (.getfield 317, (3, 0, 10, 42, 4222, 0), 0, []), (.iconst (-1), (1, 0, 0, 0, 0, 0), (-1), []), (.if_icmp .eq 14, (3, 1, 20, 19, 0, 0), 0, [])],
  [(.aload_n 0, (1, 0, 0, 0, 0, 0), 0, []), (.getfield 263, (3, 0, 10, 34, 4214, 0), 0, []), (.aload_n 0, (1, 0, 0, 0, 0, 0), 0, []), (.getfield 317, (3, 0, 10, 42, 4222, 0), 0, []), (.if_icmp .ge 11, (3, 1, 21, 20, 0, 0), 0, [])],
  [(.aload_n 0, (1, 0, 0, 0, 0, 0), 0, []), (.aload_n 0, (1, 0, 0, 0, 0, 0), 0, []), (.getfield 263, (3, 0, 10, 34, 4214, 0), 0, []), (.putfield 317, (3, 0, 10, 42, 4222, 0), 0, []), (.nop, (0, 1, 21, 0, 0, 0), 0, [])],
  [(.return_, (1, 3, 0, 0, 0, 0), 0, [])],
  [(.aload_n 0, (1, 0, 0, 0, 0, 0), 0, []), (.getfield 317, (3, 0, 10, 42, 4222, 0), 0, []), (.iconst (-1), (1, 0, 0, 0, 0, 0), (-1), []), (.if_icmp .eq 30, (3, 1, 26, 23, 0, 0), 0, [])],
  [(.iload_n 1, (1, 0, 1, 0, 0, 0), 0, []), (.aload_n 0, (1, 0, 0, 0, 0, 0), 0, []), (.getfield 326, (3, 0, 10, 38, 4218, 0), 0, []), (.if_icmp .lt 22, (3, 1, 26, 24, 0, 0), 0, [])],
  [(.iload_n 1, (1, 0, 1, 0, 0, 0), 0, []), (.aload_n 0, (1, 0, 0, 0, 0, 0), 0, []), (.getfield 326, (3, 0, 10, 38, 4218, 0), 0, []), (.if_icmp .ne 36, (3, 1, 27, 25, 0, 0), 0, [])],
  [(.aload_n 0, (1, 0, 0, 0, 0, 0), 0, []), (.getfield 263, (3, 0, 10, 34, 4214, 0), 0, []), (.aload_n 0, (1, 0, 0, 0, 0, 0), 0, []), (.getfield 329, (3, 0, 10, 39, 4219, 0), 0, []), (.if_icmp .ge 25, (3, 1, 27, 26, 0, 0), 0, [])],
  [(.aload_n 0, (1, 0, 0, 0, 0, 0), 0, []), (.iconst 0, (1, 0, 0, 0, 0, 0), 0, []), (.putfield 317, (3, 0, 10, 42, 4222, 0), 0, []), (.aload_n 0, (1, 0, 0, 0, 0, 0), 0, []), (.iload_n 1, (1, 0, 1, 0, 0, 0), 0, []), (.putfield 326, (3, 0, 10, 38, 4218, 0), 0, []), (.aload_n 0, (1, 0, 0, 0, 0, 0), 0, []), (.aload_n 0, (1, 0, 0, 0, 0, 0), 0, []), (.getfield 263, (3, 0, 10, 34, 4214, 0), 0, []), (.putfield 329, (3, 0, 10, 39, 4219, 0), 0, []), (.aload_n 0, (1, 0, 0, 0, 0, 0), 0, []), (.invokevirtual 320, (3, 2, 176, 27, 1, 11), 6073, [])],
  [(.return_, (1, 3, 0, 0, 0, 0), 0, [])]]
/-- EvenlyPouredModel.keepsWay()V -/
noncomputable def bk_176 : List (List am_P) := [[(.iconst 0, (1, 0, 0, 0, 0, 0), 0, []), (.istore_n 1, (1, 0, 1, 0, 0, 0), 0, []), (.nop, (0, 1, 1, 0, 0, 0), 0, [])],
  [(.iload_n 1, (1, 0, 1, 0, 0, 0), 0, []), (.aload_n 0, (1, 0, 0, 0, 0, 0), 0, []), (.getfield 26, (3, 0, 10, 8, 4188, 0), 0, []), (.if_icmp .ge 21, (3, 1, 3, 2, 0, 0), 0, [])],
  [(.aload_n 0, (1, 0, 0, 0, 0, 0), 0, []), (.getfield 56, (3, 0, 10, 37, 4217, 1), 0, []), (.iload_n 1, (1, 0, 1, 0, 0, 0), 0, []), (.aload_n 0, (1, 0, 0, 0, 0, 0), 0, []), (.getfield 53, (3, 0, 10, 36, 4216, 1), 0, []), (.iload_n 1, (1, 0, 1, 0, 0, 0), 0, []), (.iaload, (1, 0, 0, 0, 0, 0), 0, []), (.iastore, (1, 0, 0, 0, 0, 0), 0, []), (.iinc 1 1, (3, 0, 1, 0, 0, 0), 1, []), (.goto (-23), (3, 1, 1, 0, 0, 0), 0, [])],
  [(.return_, (1, 3, 0, 0, 0, 0), 0, [])]]
/-- EvenlyPouredModel.seeks(II)V -/
noncomputable def bk_177 : List (List am_P) := [[(.aload_n 0, (1, 0, 0, 0, 0, 0), 0, []), (.invokevirtual 275, (3, 2, 158, 1, 1, 11), 5237, [])],
  [(.aload_n 0, (1, 0, 0, 0, 0, 0), 0, []), (.invokevirtual 278, (3, 2, 162, 2, 1, 11), 6001, [])],
  [(.aload_n 0, (1, 0, 0, 0, 0, 0), 0, []), (.iload_n 1, (1, 0, 1, 0, 0, 0), 0, []), (.putfield 307, (3, 0, 10, 40, 4220, 0), 0, []), (.aload_n 0, (1, 0, 0, 0, 0, 0), 0, []), (.iload_n 2, (1, 0, 2, 0, 0, 0), 0, []), (.putfield 314, (3, 0, 10, 41, 4221, 0), 0, []), (.aload_n 0, (1, 0, 0, 0, 0, 0), 0, []), (.iload_n 1, (1, 0, 1, 0, 0, 0), 0, []), (.iconst 2, (1, 0, 0, 0, 0, 0), 2, []), (.if_icmp .ne 7, (3, 1, 4, 3, 0, 0), 0, [])],
  [(.iconst 0, (1, 0, 0, 0, 0, 0), 0, []), (.goto 4, (3, 1, 5, 0, 0, 0), 0, [])],
  [(.iconst (-1), (1, 0, 0, 0, 0, 0), (-1), []), (.nop, (0, 1, 5, 0, 0, 0), 0, [])],
  [(.putfield 317, (3, 0, 10, 42, 4222, 0), 0, []), (.aload_n 0, (1, 0, 0, 0, 0, 0), 0, []), (.iconst 0, (1, 0, 0, 0, 0, 0), 0, []), (.invokevirtual 310, (3, 2, 173, 6, 2, 11), 6065, [])],
  [(.return_, (1, 3, 0, 0, 0, 0), 0, [])]]
/-- EvenlyPouredModel.evenest(I)I -/
noncomputable def bk_178 : List (List am_P) := [[(.iload_n 1, (1, 0, 1, 0, 0, 0), 0, []), (.i2l, (1, 0, 0, 0, 0, 0), 0, []), (.lconst 0, (1, 0, 0, 0, 0, 0), 0, []), (.ldc2_w 332, (3, 0, 25, 0, 6055, 0), 0, []), (.invokestatic 94, (3, 2, 127, 1, 3, 0), 5111, [])],
  [(.ifCond .eq 18, (3, 1, 4, 2, 0, 0), 0, [])],
  [(.iload_n 1, (1, 0, 1, 0, 0, 0), 0, []), (.iconst 1, (1, 0, 0, 0, 0, 0), 1, []), (.if_icmp .le 16, (3, 1, 5, 3, 0, 0), 0, [])],
  [(.iload_n 1, (1, 0, 1, 0, 0, 0), 0, []), (.iconst 2, (1, 0, 0, 0, 0, 0), 2, []), (.isub, (1, 0, 0, 0, 0, 0), 0, []), (.aload_n 0, (1, 0, 0, 0, 0, 0), 0, []), (.getfield 26, (3, 0, 10, 8, 4188, 0), 0, []), (.if_icmp .lt 6, (3, 1, 5, 4, 0, 0), 0, [])],
  [(.bipush (-2), (2, 0, 0, 0, 0, 0), (-2), []), (.ireturn, (1, 3, 0, 0, 0, 0), 0, [])],
  [(.aload_n 0, (1, 0, 0, 0, 0, 0), 0, []), (.invokevirtual 334, (3, 2, 172, 6, 1, 11), 6056, [])],
  [(.ifCond .eq 6, (3, 1, 8, 7, 0, 0), 0, [])],
  [(.bipush (-3), (2, 0, 0, 0, 0, 0), (-3), []), (.ireturn, (1, 3, 0, 0, 0, 0), 0, [])],
  [(.aload_n 0, (1, 0, 0, 0, 0, 0), 0, []), (.iconst 0, (1, 0, 0, 0, 0, 0), 0, []), (.iconst 0, (1, 0, 0, 0, 0, 0), 0, []), (.invokevirtual 337, (3, 2, 177, 9, 3, 11), 6061, [])],
  [(.iload_n 1, (1, 0, 1, 0, 0, 0), 0, []), (.ifCond .ne 10, (3, 1, 11, 10, 0, 0), 0, [])],
  [(.aload_n 0, (1, 0, 0, 0, 0, 0), 0, []), (.getfield 326, (3, 0, 10, 38, 4218, 0), 0, []), (.goto 23, (3, 1, 14, 0, 0, 0), 0, [])],
  [(.iload_n 1, (1, 0, 1, 0, 0, 0), 0, []), (.iconst 1, (1, 0, 0, 0, 0, 0), 1, []), (.if_icmp .ne 10, (3, 1, 13, 12, 0, 0), 0, [])],
  [(.aload_n 0, (1, 0, 0, 0, 0, 0), 0, []), (.getfield 329, (3, 0, 10, 39, 4219, 0), 0, []), (.goto 11, (3, 1, 14, 0, 0, 0), 0, [])],
  [(.aload_n 0, (1, 0, 0, 0, 0, 0), 0, []), (.getfield 56, (3, 0, 10, 37, 4217, 1), 0, []), (.iload_n 1, (1, 0, 1, 0, 0, 0), 0, []), (.iconst 2, (1, 0, 0, 0, 0, 0), 2, []), (.isub, (1, 0, 0, 0, 0, 0), 0, []), (.iaload, (1, 0, 0, 0, 0, 0), 0, []), (.nop, (0, 1, 14, 0, 0, 0), 0, [])],
  [(.ireturn, (1, 3, 0, 0, 0, 0), 0, [])]]
/-- EvenlyPouredModel.become()I -/
noncomputable def bk_179 : List (List am_P) := [[(.aload_n 0, (1, 0, 0, 0, 0, 0), 0, []), (.invokevirtual 334, (3, 2, 172, 1, 1, 11), 6056, [])],
  [(.ifCond .eq 6, (3, 1, 3, 2, 0, 0), 0, [])],
  [(.bipush (-3), (2, 0, 0, 0, 0, 0), (-3), []), (.ireturn, (1, 3, 0, 0, 0, 0), 0, [])],
  [(.aload_n 0, (1, 0, 0, 0, 0, 0), 0, []), (.iconst 0, (1, 0, 0, 0, 0, 0), 0, []), (.iconst 0, (1, 0, 0, 0, 0, 0), 0, []), (.invokevirtual 337, (3, 2, 177, 4, 3, 11), 6061, [])],
  [(.iconst 0, (1, 0, 0, 0, 0, 0), 0, []), (.istore_n 1, (1, 0, 1, 0, 0, 0), 0, []), (.nop, (0, 1, 5, 0, 0, 0), 0, [])],
  [(.iload_n 1, (1, 0, 1, 0, 0, 0), 0, []), (.aload_n 0, (1, 0, 0, 0, 0, 0), 0, []), (.getfield 26, (3, 0, 10, 8, 4188, 0), 0, []), (.if_icmp .ge 21, (3, 1, 7, 6, 0, 0), 0, [])],
  [(.aload_n 0, (1, 0, 0, 0, 0, 0), 0, []), (.getfield 29, (3, 0, 10, 9, 4189, 1), 0, []), (.iload_n 1, (1, 0, 1, 0, 0, 0), 0, []), (.aload_n 0, (1, 0, 0, 0, 0, 0), 0, []), (.getfield 56, (3, 0, 10, 37, 4217, 1), 0, []), (.iload_n 1, (1, 0, 1, 0, 0, 0), 0, []), (.iaload, (1, 0, 0, 0, 0, 0), 0, []), (.iastore, (1, 0, 0, 0, 0, 0), 0, []), (.iinc 1 1, (3, 0, 1, 0, 0, 0), 1, []), (.goto (-23), (3, 1, 5, 0, 0, 0), 0, [])],
  [(.aload_n 0, (1, 0, 0, 0, 0, 0), 0, []), (.getfield 326, (3, 0, 10, 38, 4218, 0), 0, []), (.ireturn, (1, 3, 0, 0, 0, 0), 0, [])]]
/-- EvenlyPouredModel.fewest(I)I -/
noncomputable def bk_180 : List (List am_P) := [[(.iload_n 1, (1, 0, 1, 0, 0, 0), 0, []), (.i2l, (1, 0, 0, 0, 0, 0), 0, []), (.lconst 0, (1, 0, 0, 0, 0, 0), 0, []), (.ldc2_w 341, (3, 0, 99999, 0, 6089, 0), 0, []), (.invokestatic 94, (3, 2, 127, 1, 3, 0), 5111, [])],
  [(.ifCond .ne 6, (3, 1, 3, 2, 0, 0), 0, [])],
  [(.bipush (-2), (2, 0, 0, 0, 0, 0), (-2), []), (.ireturn, (1, 3, 0, 0, 0, 0), 0, [])],
  [(.aload_n 0, (1, 0, 0, 0, 0, 0), 0, []), (.invokevirtual 334, (3, 2, 172, 4, 1, 11), 6056, [])],
  [(.ifCond .eq 6, (3, 1, 6, 5, 0, 0), 0, [])],
  [(.bipush (-3), (2, 0, 0, 0, 0, 0), (-3), []), (.ireturn, (1, 3, 0, 0, 0, 0), 0, [])],
  [(.aload_n 0, (1, 0, 0, 0, 0, 0), 0, []), (.iconst 1, (1, 0, 0, 0, 0, 0), 1, []), (.iload_n 1, (1, 0, 1, 0, 0, 0), 0, []), (.invokevirtual 337, (3, 2, 177, 7, 3, 11), 6061, [])],
  [(.aload_n 0, (1, 0, 0, 0, 0, 0), 0, []), (.getfield 317, (3, 0, 10, 42, 4222, 0), 0, []), (.ireturn, (1, 3, 0, 0, 0, 0), 0, [])]]
/-- EvenlyPouredModel.next(I)I -/
noncomputable def bk_181 : List (List am_P) := [[(.iload_n 1, (1, 0, 1, 0, 0, 0), 0, []), (.i2l, (1, 0, 0, 0, 0, 0), 0, []), (.lconst 0, (1, 0, 0, 0, 0, 0), 0, []), (.lconst 1, (1, 0, 1, 0, 0, 0), 0, []), (.invokestatic 94, (3, 2, 127, 1, 3, 0), 5111, [])],
  [(.ifCond .ne 6, (3, 1, 3, 2, 0, 0), 0, [])],
  [(.bipush (-2), (2, 0, 0, 0, 0, 0), (-2), []), (.ireturn, (1, 3, 0, 0, 0, 0), 0, [])],
  [(.aload_n 0, (1, 0, 0, 0, 0, 0), 0, []), (.getfield 26, (3, 0, 10, 8, 4188, 0), 0, []), (.bipush 24, (2, 0, 0, 0, 0, 0), 24, []), (.if_icmp .ne 6, (3, 1, 5, 4, 0, 0), 0, [])],
  [(.bipush (-3), (2, 0, 0, 0, 0, 0), (-3), []), (.ireturn, (1, 3, 0, 0, 0, 0), 0, [])],
  [(.iconst (-1), (1, 0, 0, 0, 0, 0), (-1), []), (.istore_n 2, (1, 0, 2, 0, 0, 0), 0, []), (.iconst 0, (1, 0, 0, 0, 0, 0), 0, []), (.istore_n 3, (1, 0, 3, 0, 0, 0), 0, []), (.aload_n 0, (1, 0, 0, 0, 0, 0), 0, []), (.dup, (1, 0, 0, 0, 0, 0), 0, []), (.getfield 26, (3, 0, 10, 8, 4188, 0), 0, []), (.iconst 1, (1, 0, 0, 0, 0, 0), 1, []), (.iadd, (1, 0, 0, 0, 0, 0), 0, []), (.putfield 26, (3, 0, 10, 8, 4188, 0), 0, []), (.iconst 0, (1, 0, 0, 0, 0, 0), 0, []), (.istore 4, (2, 0, 4, 0, 0, 0), 0, []), (.nop, (0, 1, 6, 0, 0, 0), 0, [])],
  [(.iload 4, (2, 0, 4, 0, 0, 0), 0, []), (.aload_n 0, (1, 0, 0, 0, 0, 0), 0, []), (.getfield 23, (3, 0, 10, 7, 4187, 0), 0, []), (.if_icmp .ge 75, (3, 1, 13, 7, 0, 0), 0, [])],
  [(.aload_n 0, (1, 0, 0, 0, 0, 0), 0, []), (.getfield 29, (3, 0, 10, 9, 4189, 1), 0, []), (.aload_n 0, (1, 0, 0, 0, 0, 0), 0, []), (.getfield 26, (3, 0, 10, 8, 4188, 0), 0, []), (.iconst 1, (1, 0, 0, 0, 0, 0), 1, []), (.isub, (1, 0, 0, 0, 0, 0), 0, []), (.iaload, (1, 0, 0, 0, 0, 0), 0, []), (.istore 5, (2, 0, 5, 0, 0, 0), 0, []), (.aload_n 0, (1, 0, 0, 0, 0, 0), 0, []), (.getfield 29, (3, 0, 10, 9, 4189, 1), 0, []), (.aload_n 0, (1, 0, 0, 0, 0, 0), 0, []), (.getfield 26, (3, 0, 10, 8, 4188, 0), 0, []), (.iconst 1, (1, 0, 0, 0, 0, 0), 1, []), (.isub, (1, 0, 0, 0, 0, 0), 0, []), (.iload 4, (2, 0, 4, 0, 0, 0), 0, []), (.iastore, (1, 0, 0, 0, 0, 0), 0, []), (.aload_n 0, (1, 0, 0, 0, 0, 0), 0, []), (.invokevirtual 285, (3, 2, 165, 8, 1, 11), 5233, [])],
  [(.aload_n 0, (1, 0, 0, 0, 0, 0), 0, []), (.getfield 29, (3, 0, 10, 9, 4189, 1), 0, []), (.aload_n 0, (1, 0, 0, 0, 0, 0), 0, []), (.getfield 26, (3, 0, 10, 8, 4188, 0), 0, []), (.iconst 1, (1, 0, 0, 0, 0, 0), 1, []), (.isub, (1, 0, 0, 0, 0, 0), 0, []), (.iload 5, (2, 0, 5, 0, 0, 0), 0, []), (.iastore, (1, 0, 0, 0, 0, 0), 0, []), (.aload_n 0, (1, 0, 0, 0, 0, 0), 0, []), (.invokevirtual 294, (3, 2, 164, 9, 1, 11), 6039, [])],
  [(.istore 6, (2, 0, 6, 0, 0, 0), 0, []), (.iload_n 2, (1, 0, 2, 0, 0, 0), 0, []), (.iconst (-1), (1, 0, 0, 0, 0, 0), (-1), []), (.if_icmp .eq 9, (3, 1, 11, 10, 0, 0), 0, [])],
  [(.iload 6, (2, 0, 6, 0, 0, 0), 0, []), (.iload_n 3, (1, 0, 3, 0, 0, 0), 0, []), (.if_icmp .ge 9, (3, 1, 12, 11, 0, 0), 0, [])],
  [(.iload 4, (2, 0, 4, 0, 0, 0), 0, []), (.istore_n 2, (1, 0, 2, 0, 0, 0), 0, []), (.iload 6, (2, 0, 6, 0, 0, 0), 0, []), (.istore_n 3, (1, 0, 3, 0, 0, 0), 0, []), (.nop, (0, 1, 12, 0, 0, 0), 0, [])],
  [(.iinc 4 1, (3, 0, 4, 0, 0, 0), 1, []), (.goto (-78), (3, 1, 6, 0, 0, 0), 0, [])],
  [(.aload_n 0, (1, 0, 0, 0, 0, 0), 0, []), (.dup, (1, 0, 0, 0, 0, 0), 0, []), (.getfield 26, (3, 0, 10, 8, 4188, 0), 0, []), (.iconst 1, (1, 0, 0, 0, 0, 0), 1, []), (.isub, (1, 0, 0, 0, 0, 0), 0, []), (.putfield 26, (3, 0, 10, 8, 4188, 0), 0, []), (.iload_n 1, (1, 0, 1, 0, 0, 0), 0, []), (.ifCond .ne 7, (3, 1, 15, 14, 0, 0), 0, [])],
  [(.iload_n 2, (1, 0, 2, 0, 0, 0), 0, []), (.goto 4, (3, 1, 16, 0, 0, 0), 0, [])],
  [(.iload_n 3, (1, 0, 3, 0, 0, 0), 0, []), (.nop, (0, 1, 16, 0, 0, 0), 0, [])],
  [(.ireturn, (1, 3, 0, 0, 0, 0), 0, [])]]
/-- EvenlyPouredModel.zigzag(I)I -/
noncomputable def bk_182 : List (List am_P) := [[(.iload_n 1, (1, 0, 1, 0, 0, 0), 0, []), (.aload_n 0, (1, 0, 0, 0, 0, 0), 0, []), (.getfield 23, (3, 0, 10, 7, 4187, 0), 0, []), (.idiv, (1, 0, 0, 0, 0, 0), 0, []), (.iconst 2, (1, 0, 0, 0, 0, 0), 2, []), (.irem, (1, 0, 0, 0, 0, 0), 0, []), (.ifCond .ne 12, (3, 1, 2, 1, 0, 0), 0, [])],
  [(.iload_n 1, (1, 0, 1, 0, 0, 0), 0, []), (.aload_n 0, (1, 0, 0, 0, 0, 0), 0, []), (.getfield 23, (3, 0, 10, 7, 4187, 0), 0, []), (.irem, (1, 0, 0, 0, 0, 0), 0, []), (.goto 16, (3, 1, 3, 0, 0, 0), 0, [])],
  [(.aload_n 0, (1, 0, 0, 0, 0, 0), 0, []), (.getfield 23, (3, 0, 10, 7, 4187, 0), 0, []), (.iconst 1, (1, 0, 0, 0, 0, 0), 1, []), (.isub, (1, 0, 0, 0, 0, 0), 0, []), (.iload_n 1, (1, 0, 1, 0, 0, 0), 0, []), (.aload_n 0, (1, 0, 0, 0, 0, 0), 0, []), (.getfield 23, (3, 0, 10, 7, 4187, 0), 0, []), (.irem, (1, 0, 0, 0, 0, 0), 0, []), (.isub, (1, 0, 0, 0, 0, 0), 0, []), (.nop, (0, 1, 3, 0, 0, 0), 0, [])],
  [(.ireturn, (1, 3, 0, 0, 0, 0), 0, [])]]
/-- EvenlyPouredModel.digits(I)I -/
noncomputable def bk_183 : List (List am_P) := [[(.aload_n 0, (1, 0, 0, 0, 0, 0), 0, []), (.getfield 23, (3, 0, 10, 7, 4187, 0), 0, []), (.iconst 1, (1, 0, 0, 0, 0, 0), 1, []), (.if_icmp .ne 7, (3, 1, 2, 1, 0, 0), 0, [])],
  [(.iconst 2, (1, 0, 0, 0, 0, 0), 2, []), (.goto 7, (3, 1, 3, 0, 0, 0), 0, [])],
  [(.aload_n 0, (1, 0, 0, 0, 0, 0), 0, []), (.getfield 23, (3, 0, 10, 7, 4187, 0), 0, []), (.nop, (0, 1, 3, 0, 0, 0), 0, [])],
  [(.istore_n 2, (1, 0, 2, 0, 0, 0), 0, []), (.iconst 0, (1, 0, 0, 0, 0, 0), 0, []), (.istore_n 3, (1, 0, 3, 0, 0, 0), 0, []), (.iload_n 1, (1, 0, 1, 0, 0, 0), 0, []), (.istore 4, (2, 0, 4, 0, 0, 0), 0, []), (.nop, (0, 1, 4, 0, 0, 0), 0, [])],
  [(.iload 4, (2, 0, 4, 0, 0, 0), 0, []), (.ifCond .le 19, (3, 1, 6, 5, 0, 0), 0, [])],
  [(.iload_n 3, (1, 0, 3, 0, 0, 0), 0, []), (.iload 4, (2, 0, 4, 0, 0, 0), 0, []), (.iload_n 2, (1, 0, 2, 0, 0, 0), 0, []), (.irem, (1, 0, 0, 0, 0, 0), 0, []), (.iadd, (1, 0, 0, 0, 0, 0), 0, []), (.istore_n 3, (1, 0, 3, 0, 0, 0), 0, []), (.iload 4, (2, 0, 4, 0, 0, 0), 0, []), (.iload_n 2, (1, 0, 2, 0, 0, 0), 0, []), (.idiv, (1, 0, 0, 0, 0, 0), 0, []), (.istore 4, (2, 0, 4, 0, 0, 0), 0, []), (.goto (-18), (3, 1, 4, 0, 0, 0), 0, [])],
  [(.iload_n 3, (1, 0, 3, 0, 0, 0), 0, []), (.aload_n 0, (1, 0, 0, 0, 0, 0), 0, []), (.getfield 23, (3, 0, 10, 7, 4187, 0), 0, []), (.irem, (1, 0, 0, 0, 0, 0), 0, []), (.ireturn, (1, 3, 0, 0, 0, 0), 0, [])]]
/-- EvenlyPouredModel.goesTo(II)I -/
noncomputable def bk_184 : List (List am_P) := [[(.aload_n 0, (1, 0, 0, 0, 0, 0), 0, []), (.getfield 35, (3, 0, 10, 11, 4191, 1), 0, []), (.iload_n 1, (1, 0, 1, 0, 0, 0), 0, []), (.iaload, (1, 0, 0, 0, 0, 0), 0, []), (.istore_n 3, (1, 0, 3, 0, 0, 0), 0, []), (.aload_n 0, (1, 0, 0, 0, 0, 0), 0, []), (.getfield 32, (3, 0, 10, 10, 4190, 1), 0, []), (.iload_n 1, (1, 0, 1, 0, 0, 0), 0, []), (.iaload, (1, 0, 0, 0, 0, 0), 0, []), (.istore 4, (2, 0, 4, 0, 0, 0), 0, []), (.iload 4, (2, 0, 4, 0, 0, 0), 0, []), (.ifCond .ne 12, (3, 1, 2, 1, 0, 0), 0, [])],
  [(.iload_n 2, (1, 0, 2, 0, 0, 0), 0, []), (.iload_n 3, (1, 0, 3, 0, 0, 0), 0, []), (.iadd, (1, 0, 0, 0, 0, 0), 0, []), (.aload_n 0, (1, 0, 0, 0, 0, 0), 0, []), (.getfield 23, (3, 0, 10, 7, 4187, 0), 0, []), (.irem, (1, 0, 0, 0, 0, 0), 0, []), (.ireturn, (1, 3, 0, 0, 0, 0), 0, [])],
  [(.iload 4, (2, 0, 4, 0, 0, 0), 0, []), (.iconst 2, (1, 0, 0, 0, 0, 0), 2, []), (.if_icmp .ne 9, (3, 1, 5, 3, 0, 0), 0, [])],
  [(.aload_n 0, (1, 0, 0, 0, 0, 0), 0, []), (.iload_n 2, (1, 0, 2, 0, 0, 0), 0, []), (.invokevirtual 343, (3, 2, 183, 4, 2, 11), 6107, [])],
  [(.ireturn, (1, 3, 0, 0, 0, 0), 0, [])],
  [(.iload 4, (2, 0, 4, 0, 0, 0), 0, []), (.iconst 4, (1, 0, 0, 0, 0, 0), 4, []), (.if_icmp .ne 18, (3, 1, 8, 6, 0, 0), 0, [])],
  [(.aload_n 0, (1, 0, 0, 0, 0, 0), 0, []), (.iload_n 2, (1, 0, 2, 0, 0, 0), 0, []), (.iload_n 3, (1, 0, 3, 0, 0, 0), 0, []), (.iadd, (1, 0, 0, 0, 0, 0), 0, []), (.invokevirtual 343, (3, 2, 183, 7, 2, 11), 6107, [])],
  [(.iconst 1, (1, 0, 0, 0, 0, 0), 1, []), (.iadd, (1, 0, 0, 0, 0, 0), 0, []), (.aload_n 0, (1, 0, 0, 0, 0, 0), 0, []), (.getfield 23, (3, 0, 10, 7, 4187, 0), 0, []), (.irem, (1, 0, 0, 0, 0, 0), 0, []), (.ireturn, (1, 3, 0, 0, 0, 0), 0, [])],
  [(.iload 4, (2, 0, 4, 0, 0, 0), 0, []), (.iconst 3, (1, 0, 0, 0, 0, 0), 3, []), (.if_icmp .ne 13, (3, 1, 11, 9, 0, 0), 0, [])],
  [(.aload_n 0, (1, 0, 0, 0, 0, 0), 0, []), (.iload_n 2, (1, 0, 2, 0, 0, 0), 0, []), (.iload_n 3, (1, 0, 3, 0, 0, 0), 0, []), (.iconst 1, (1, 0, 0, 0, 0, 0), 1, []), (.iadd, (1, 0, 0, 0, 0, 0), 0, []), (.idiv, (1, 0, 0, 0, 0, 0), 0, []), (.invokevirtual 346, (3, 2, 182, 10, 2, 11), 6111, [])],
  [(.ireturn, (1, 3, 0, 0, 0, 0), 0, [])],
  [(.iload 4, (2, 0, 4, 0, 0, 0), 0, []), (.iconst 1, (1, 0, 0, 0, 0, 0), 1, []), (.if_icmp .eq 8, (3, 1, 13, 12, 0, 0), 0, [])],
  [(.iload_n 2, (1, 0, 2, 0, 0, 0), 0, []), (.iload_n 3, (1, 0, 3, 0, 0, 0), 0, []), (.if_icmp .ge 9, (3, 1, 15, 13, 0, 0), 0, [])],
  [(.aload_n 0, (1, 0, 0, 0, 0, 0), 0, []), (.iload_n 2, (1, 0, 2, 0, 0, 0), 0, []), (.invokevirtual 346, (3, 2, 182, 14, 2, 11), 6111, [])],
  [(.ireturn, (1, 3, 0, 0, 0, 0), 0, [])],
  [(.iconst 0, (1, 0, 0, 0, 0, 0), 0, []), (.istore 5, (2, 0, 5, 0, 0, 0), 0, []), (.iconst 1, (1, 0, 0, 0, 0, 0), 1, []), (.istore 6, (2, 0, 6, 0, 0, 0), 0, []), (.nop, (0, 1, 16, 0, 0, 0), 0, [])],
  [(.iload 6, (2, 0, 6, 0, 0, 0), 0, []), (.aload_n 0, (1, 0, 0, 0, 0, 0), 0, []), (.getfield 23, (3, 0, 10, 7, 4187, 0), 0, []), (.if_icmp .ge 35, (3, 1, 21, 17, 0, 0), 0, [])],
  [(.aload_n 0, (1, 0, 0, 0, 0, 0), 0, []), (.getfield 50, (3, 0, 10, 32, 4212, 1), 0, []), (.iload 6, (2, 0, 6, 0, 0, 0), 0, []), (.iaload, (1, 0, 0, 0, 0, 0), 0, []), (.aload_n 0, (1, 0, 0, 0, 0, 0), 0, []), (.getfield 50, (3, 0, 10, 32, 4212, 1), 0, []), (.iload 5, (2, 0, 5, 0, 0, 0), 0, []), (.iaload, (1, 0, 0, 0, 0, 0), 0, []), (.if_icmp .ge 8, (3, 1, 19, 18, 0, 0), 0, [])],
  [(.iload 6, (2, 0, 6, 0, 0, 0), 0, []), (.goto 5, (3, 1, 20, 0, 0, 0), 0, [])],
  [(.iload 5, (2, 0, 5, 0, 0, 0), 0, []), (.nop, (0, 1, 20, 0, 0, 0), 0, [])],
  [(.istore 5, (2, 0, 5, 0, 0, 0), 0, []), (.iinc 6 1, (3, 0, 6, 0, 0, 0), 1, []), (.goto (-38), (3, 1, 16, 0, 0, 0), 0, [])],
  [(.iload 5, (2, 0, 5, 0, 0, 0), 0, []), (.ireturn, (1, 3, 0, 0, 0, 0), 0, [])]]
/-- EvenlyPouredModel.poursBy(I)V -/
noncomputable def bk_185 : List (List am_P) := [[(.aload_n 0, (1, 0, 0, 0, 0, 0), 0, []), (.invokevirtual 275, (3, 2, 158, 1, 1, 11), 5237, [])],
  [(.aload_n 0, (1, 0, 0, 0, 0, 0), 0, []), (.invokevirtual 278, (3, 2, 162, 2, 1, 11), 6001, [])],
  [(.iconst 0, (1, 0, 0, 0, 0, 0), 0, []), (.istore_n 2, (1, 0, 2, 0, 0, 0), 0, []), (.nop, (0, 1, 3, 0, 0, 0), 0, [])],
  [(.iload_n 2, (1, 0, 2, 0, 0, 0), 0, []), (.aload_n 0, (1, 0, 0, 0, 0, 0), 0, []), (.getfield 26, (3, 0, 10, 8, 4188, 0), 0, []), (.if_icmp .ge 33, (3, 1, 7, 4, 0, 0), 0, [])],
  [(.aload_n 0, (1, 0, 0, 0, 0, 0), 0, []), (.getfield 53, (3, 0, 10, 36, 4216, 1), 0, []), (.iload_n 2, (1, 0, 2, 0, 0, 0), 0, []), (.aload_n 0, (1, 0, 0, 0, 0, 0), 0, []), (.iload_n 1, (1, 0, 1, 0, 0, 0), 0, []), (.iload_n 2, (1, 0, 2, 0, 0, 0), 0, []), (.invokevirtual 349, (3, 2, 184, 5, 3, 11), 6103, [])],
  [(.iastore, (1, 0, 0, 0, 0, 0), 0, []), (.aload_n 0, (1, 0, 0, 0, 0, 0), 0, []), (.iload_n 2, (1, 0, 2, 0, 0, 0), 0, []), (.aload_n 0, (1, 0, 0, 0, 0, 0), 0, []), (.getfield 53, (3, 0, 10, 36, 4216, 1), 0, []), (.iload_n 2, (1, 0, 2, 0, 0, 0), 0, []), (.iaload, (1, 0, 0, 0, 0, 0), 0, []), (.iconst 0, (1, 0, 0, 0, 0, 0), 0, []), (.invokevirtual 281, (3, 2, 163, 6, 4, 11), 6005, [])],
  [(.iinc 2 1, (3, 0, 2, 0, 0, 0), 1, []), (.goto (-35), (3, 1, 3, 0, 0, 0), 0, [])],
  [(.return_, (1, 3, 0, 0, 0, 0), 0, [])]]
/-- EvenlyPouredModel.poured(II)I -/
noncomputable def bk_186 : List (List am_P) := [[(.aload_n 0, (1, 0, 0, 0, 0, 0), 0, []), (.iload_n 1, (1, 0, 1, 0, 0, 0), 0, []), (.invokevirtual 103, (3, 2, 132, 1, 2, 11), 5114, [])],
  [(.ifCond .eq 21, (3, 1, 4, 2, 0, 0), 0, [])],
  [(.iload_n 2, (1, 0, 2, 0, 0, 0), 0, []), (.i2l, (1, 0, 0, 0, 0, 0), 0, []), (.ldc2_w 352, (3, 0, 100001, 0, 6098, 0), 0, []), (.aload_n 0, (1, 0, 0, 0, 0, 0), 0, []), (.getfield 26, (3, 0, 10, 8, 4188, 0), 0, []), (.iconst 1, (1, 0, 0, 0, 0, 0), 1, []), (.isub, (1, 0, 0, 0, 0, 0), 0, []), (.i2l, (1, 0, 0, 0, 0, 0), 0, []), (.invokestatic 94, (3, 2, 127, 3, 3, 0), 5111, [])],
  [(.ifCond .ne 6, (3, 1, 5, 4, 0, 0), 0, [])],
  [(.bipush (-2), (2, 0, 0, 0, 0, 0), (-2), []), (.ireturn, (1, 3, 0, 0, 0, 0), 0, [])],
  [(.aload_n 0, (1, 0, 0, 0, 0, 0), 0, []), (.iload_n 1, (1, 0, 1, 0, 0, 0), 0, []), (.invokevirtual 354, (3, 2, 185, 6, 2, 11), 6099, [])],
  [(.iload_n 2, (1, 0, 2, 0, 0, 0), 0, []), (.iconst (-1), (1, 0, 0, 0, 0, 0), (-1), []), (.if_icmp .ne 10, (3, 1, 9, 7, 0, 0), 0, [])],
  [(.aload_n 0, (1, 0, 0, 0, 0, 0), 0, []), (.invokevirtual 294, (3, 2, 164, 8, 1, 11), 6039, [])],
  [(.goto 9, (3, 1, 10, 0, 0, 0), 0, [])],
  [(.aload_n 0, (1, 0, 0, 0, 0, 0), 0, []), (.getfield 53, (3, 0, 10, 36, 4216, 1), 0, []), (.iload_n 2, (1, 0, 2, 0, 0, 0), 0, []), (.iaload, (1, 0, 0, 0, 0, 0), 0, []), (.nop, (0, 1, 10, 0, 0, 0), 0, [])],
  [(.ireturn, (1, 3, 0, 0, 0, 0), 0, [])]]
/-- EvenlyPouredModel.follow(I)I -/
noncomputable def bk_187 : List (List am_P) := [[(.aload_n 0, (1, 0, 0, 0, 0, 0), 0, []), (.iload_n 1, (1, 0, 1, 0, 0, 0), 0, []), (.invokevirtual 103, (3, 2, 132, 1, 2, 11), 5114, [])],
  [(.ifCond .ne 6, (3, 1, 3, 2, 0, 0), 0, [])],
  [(.bipush (-2), (2, 0, 0, 0, 0, 0), (-2), []), (.ireturn, (1, 3, 0, 0, 0, 0), 0, [])],
  [(.aload_n 0, (1, 0, 0, 0, 0, 0), 0, []), (.iload_n 1, (1, 0, 1, 0, 0, 0), 0, []), (.invokevirtual 354, (3, 2, 185, 4, 2, 11), 6099, [])],
  [(.iconst 0, (1, 0, 0, 0, 0, 0), 0, []), (.istore_n 2, (1, 0, 2, 0, 0, 0), 0, []), (.nop, (0, 1, 5, 0, 0, 0), 0, [])],
  [(.iload_n 2, (1, 0, 2, 0, 0, 0), 0, []), (.aload_n 0, (1, 0, 0, 0, 0, 0), 0, []), (.getfield 26, (3, 0, 10, 8, 4188, 0), 0, []), (.if_icmp .ge 21, (3, 1, 7, 6, 0, 0), 0, [])],
  [(.aload_n 0, (1, 0, 0, 0, 0, 0), 0, []), (.getfield 29, (3, 0, 10, 9, 4189, 1), 0, []), (.iload_n 2, (1, 0, 2, 0, 0, 0), 0, []), (.aload_n 0, (1, 0, 0, 0, 0, 0), 0, []), (.getfield 53, (3, 0, 10, 36, 4216, 1), 0, []), (.iload_n 2, (1, 0, 2, 0, 0, 0), 0, []), (.iaload, (1, 0, 0, 0, 0, 0), 0, []), (.iastore, (1, 0, 0, 0, 0, 0), 0, []), (.iinc 2 1, (3, 0, 2, 0, 0, 0), 1, []), (.goto (-23), (3, 1, 5, 0, 0, 0), 0, [])],
  [(.aload_n 0, (1, 0, 0, 0, 0, 0), 0, []), (.invokevirtual 294, (3, 2, 164, 8, 1, 11), 6039, [])],
  [(.ireturn, (1, 3, 0, 0, 0, 0), 0, [])]]
/-- EvenlyPouredModel.which(I)I -/
noncomputable def bk_188 : List (List am_P) := [[(.iload_n 1, (1, 0, 1, 0, 0, 0), 0, []), (.i2l, (1, 0, 0, 0, 0, 0), 0, []), (.lconst 0, (1, 0, 0, 0, 0, 0), 0, []), (.lconst 1, (1, 0, 1, 0, 0, 0), 0, []), (.invokestatic 94, (3, 2, 127, 1, 3, 0), 5111, [])],
  [(.ifCond .ne 6, (3, 1, 3, 2, 0, 0), 0, [])],
  [(.bipush (-2), (2, 0, 0, 0, 0, 0), (-2), []), (.ireturn, (1, 3, 0, 0, 0, 0), 0, [])],
  [(.iconst (-1), (1, 0, 0, 0, 0, 0), (-1), []), (.istore_n 2, (1, 0, 2, 0, 0, 0), 0, []), (.iconst (-1), (1, 0, 0, 0, 0, 0), (-1), []), (.istore_n 3, (1, 0, 3, 0, 0, 0), 0, []), (.iconst 0, (1, 0, 0, 0, 0, 0), 0, []), (.istore 4, (2, 0, 4, 0, 0, 0), 0, []), (.nop, (0, 1, 4, 0, 0, 0), 0, [])],
  [(.iload 4, (2, 0, 4, 0, 0, 0), 0, []), (.aload_n 0, (1, 0, 0, 0, 0, 0), 0, []), (.getfield 98, (3, 0, 10, 12, 4192, 0), 0, []), (.if_icmp .ge 38, (3, 1, 11, 5, 0, 0), 0, [])],
  [(.aload_n 0, (1, 0, 0, 0, 0, 0), 0, []), (.iload 4, (2, 0, 4, 0, 0, 0), 0, []), (.invokevirtual 354, (3, 2, 185, 6, 2, 11), 6099, [])],
  [(.aload_n 0, (1, 0, 0, 0, 0, 0), 0, []), (.invokevirtual 294, (3, 2, 164, 7, 1, 11), 6039, [])],
  [(.istore 5, (2, 0, 5, 0, 0, 0), 0, []), (.iload_n 2, (1, 0, 2, 0, 0, 0), 0, []), (.iconst (-1), (1, 0, 0, 0, 0, 0), (-1), []), (.if_icmp .eq 9, (3, 1, 9, 8, 0, 0), 0, [])],
  [(.iload 5, (2, 0, 5, 0, 0, 0), 0, []), (.iload_n 3, (1, 0, 3, 0, 0, 0), 0, []), (.if_icmp .ge 9, (3, 1, 10, 9, 0, 0), 0, [])],
  [(.iload 4, (2, 0, 4, 0, 0, 0), 0, []), (.istore_n 2, (1, 0, 2, 0, 0, 0), 0, []), (.iload 5, (2, 0, 5, 0, 0, 0), 0, []), (.istore_n 3, (1, 0, 3, 0, 0, 0), 0, []), (.nop, (0, 1, 10, 0, 0, 0), 0, [])],
  [(.iinc 4 1, (3, 0, 4, 0, 0, 0), 1, []), (.goto (-41), (3, 1, 4, 0, 0, 0), 0, [])],
  [(.iload_n 1, (1, 0, 1, 0, 0, 0), 0, []), (.ifCond .ne 7, (3, 1, 13, 12, 0, 0), 0, [])],
  [(.iload_n 2, (1, 0, 2, 0, 0, 0), 0, []), (.goto 4, (3, 1, 14, 0, 0, 0), 0, [])],
  [(.iload_n 3, (1, 0, 3, 0, 0, 0), 0, []), (.nop, (0, 1, 14, 0, 0, 0), 0, [])],
  [(.ireturn, (1, 3, 0, 0, 0, 0), 0, [])]]
/-- EvenlyPouredModel.captains(I)I -/
noncomputable def bk_189 : List (List am_P) := [[(.iload_n 1, (1, 0, 1, 0, 0, 0), 0, []), (.iconst (-1), (1, 0, 0, 0, 0, 0), (-1), []), (.if_icmp .eq 14, (3, 1, 4, 1, 0, 0), 0, [])],
  [(.aload_n 0, (1, 0, 0, 0, 0, 0), 0, []), (.iload_n 1, (1, 0, 1, 0, 0, 0), 0, []), (.invokevirtual 119, (3, 2, 131, 2, 2, 11), 5132, [])],
  [(.ifCond .ne 6, (3, 1, 4, 3, 0, 0), 0, [])],
  [(.bipush (-2), (2, 0, 0, 0, 0, 0), (-2), []), (.ireturn, (1, 3, 0, 0, 0, 0), 0, [])],
  [(.iconst 0, (1, 0, 0, 0, 0, 0), 0, []), (.istore_n 2, (1, 0, 2, 0, 0, 0), 0, []), (.nop, (0, 1, 5, 0, 0, 0), 0, [])],
  [(.iload_n 2, (1, 0, 2, 0, 0, 0), 0, []), (.iconst 4, (1, 0, 0, 0, 0, 0), 4, []), (.if_icmp .ge 16, (3, 1, 7, 6, 0, 0), 0, [])],
  [(.aload_n 0, (1, 0, 0, 0, 0, 0), 0, []), (.getfield 59, (3, 0, 10, 43, 4223, 1), 0, []), (.iload_n 2, (1, 0, 2, 0, 0, 0), 0, []), (.iconst 0, (1, 0, 0, 0, 0, 0), 0, []), (.iastore, (1, 0, 0, 0, 0, 0), 0, []), (.iinc 2 1, (3, 0, 2, 0, 0, 0), 1, []), (.goto (-15), (3, 1, 5, 0, 0, 0), 0, [])],
  [(.iconst 0, (1, 0, 0, 0, 0, 0), 0, []), (.istore_n 2, (1, 0, 2, 0, 0, 0), 0, []), (.iconst 0, (1, 0, 0, 0, 0, 0), 0, []), (.istore_n 3, (1, 0, 3, 0, 0, 0), 0, []), (.nop, (0, 1, 8, 0, 0, 0), 0, [])],
  [(.iload_n 3, (1, 0, 3, 0, 0, 0), 0, []), (.aload_n 0, (1, 0, 0, 0, 0, 0), 0, []), (.getfield 26, (3, 0, 10, 8, 4188, 0), 0, []), (.if_icmp .ge 98, (3, 1, 18, 9, 0, 0), 0, [])],
  [(.iload_n 3, (1, 0, 3, 0, 0, 0), 0, []), (.bipush 8, (2, 0, 0, 0, 0, 0), 8, []), (.if_icmp .ge 92, (3, 1, 18, 10, 0, 0), 0, [])],
  [(.iconst (-1), (1, 0, 0, 0, 0, 0), (-1), []), (.istore 4, (2, 0, 4, 0, 0, 0), 0, []), (.iconst 0, (1, 0, 0, 0, 0, 0), 0, []), (.istore 5, (2, 0, 5, 0, 0, 0), 0, []), (.nop, (0, 1, 11, 0, 0, 0), 0, [])],
  [(.iload 5, (2, 0, 5, 0, 0, 0), 0, []), (.bipush 8, (2, 0, 0, 0, 0, 0), 8, []), (.if_icmp .ge 45, (3, 1, 17, 12, 0, 0), 0, [])],
  [(.iload_n 2, (1, 0, 2, 0, 0, 0), 0, []), (.iload 5, (2, 0, 5, 0, 0, 0), 0, []), (.ishr, (1, 0, 0, 0, 0, 0), 0, []), (.iconst 1, (1, 0, 0, 0, 0, 0), 1, []), (.iand, (1, 0, 0, 0, 0, 0), 0, []), (.ifCond .ne 30, (3, 1, 16, 13, 0, 0), 0, [])],
  [(.iload 4, (2, 0, 4, 0, 0, 0), 0, []), (.iconst (-1), (1, 0, 0, 0, 0, 0), (-1), []), (.if_icmp .eq 20, (3, 1, 15, 14, 0, 0), 0, [])],
  [(.aload_n 0, (1, 0, 0, 0, 0, 0), 0, []), (.getfield 38, (3, 0, 10, 13, 4193, 1), 0, []), (.iload 5, (2, 0, 5, 0, 0, 0), 0, []), (.iaload, (1, 0, 0, 0, 0, 0), 0, []), (.aload_n 0, (1, 0, 0, 0, 0, 0), 0, []), (.getfield 38, (3, 0, 10, 13, 4193, 1), 0, []), (.iload 4, (2, 0, 4, 0, 0, 0), 0, []), (.iaload, (1, 0, 0, 0, 0, 0), 0, []), (.if_icmp .le 7, (3, 1, 16, 15, 0, 0), 0, [])],
  [(.iload 5, (2, 0, 5, 0, 0, 0), 0, []), (.istore 4, (2, 0, 4, 0, 0, 0), 0, []), (.nop, (0, 1, 16, 0, 0, 0), 0, [])],
  [(.iinc 5 1, (3, 0, 5, 0, 0, 0), 1, []), (.goto (-46), (3, 1, 11, 0, 0, 0), 0, [])],
  [(.iload_n 2, (1, 0, 2, 0, 0, 0), 0, []), (.iconst 1, (1, 0, 0, 0, 0, 0), 1, []), (.iload 4, (2, 0, 4, 0, 0, 0), 0, []), (.ishl, (1, 0, 0, 0, 0, 0), 0, []), (.ior, (1, 0, 0, 0, 0, 0), 0, []), (.istore_n 2, (1, 0, 2, 0, 0, 0), 0, []), (.aload_n 0, (1, 0, 0, 0, 0, 0), 0, []), (.getfield 59, (3, 0, 10, 43, 4223, 1), 0, []), (.aload_n 0, (1, 0, 0, 0, 0, 0), 0, []), (.getfield 29, (3, 0, 10, 9, 4189, 1), 0, []), (.iload_n 3, (1, 0, 3, 0, 0, 0), 0, []), (.iaload, (1, 0, 0, 0, 0, 0), 0, []), (.dup2, (1, 0, 0, 0, 0, 0), 0, []), (.iaload, (1, 0, 0, 0, 0, 0), 0, []), (.aload_n 0, (1, 0, 0, 0, 0, 0), 0, []), (.getfield 38, (3, 0, 10, 13, 4193, 1), 0, []), (.iload 4, (2, 0, 4, 0, 0, 0), 0, []), (.iaload, (1, 0, 0, 0, 0, 0), 0, []), (.iadd, (1, 0, 0, 0, 0, 0), 0, []), (.iastore, (1, 0, 0, 0, 0, 0), 0, []), (.iinc 3 1, (3, 0, 3, 0, 0, 0), 1, []), (.goto (-100), (3, 1, 8, 0, 0, 0), 0, [])],
  [(.iload_n 1, (1, 0, 1, 0, 0, 0), 0, []), (.iconst (-1), (1, 0, 0, 0, 0, 0), (-1), []), (.if_icmp .eq 10, (3, 1, 20, 19, 0, 0), 0, [])],
  [(.aload_n 0, (1, 0, 0, 0, 0, 0), 0, []), (.getfield 59, (3, 0, 10, 43, 4223, 1), 0, []), (.iload_n 1, (1, 0, 1, 0, 0, 0), 0, []), (.iaload, (1, 0, 0, 0, 0, 0), 0, []), (.ireturn, (1, 3, 0, 0, 0, 0), 0, [])],
  [(.aload_n 0, (1, 0, 0, 0, 0, 0), 0, []), (.getfield 59, (3, 0, 10, 43, 4223, 1), 0, []), (.iconst 0, (1, 0, 0, 0, 0, 0), 0, []), (.iaload, (1, 0, 0, 0, 0, 0), 0, []), (.istore_n 3, (1, 0, 3, 0, 0, 0), 0, []), (.aload_n 0, (1, 0, 0, 0, 0, 0), 0, []), (.getfield 59, (3, 0, 10, 43, 4223, 1), 0, []), (.iconst 0, (1, 0, 0, 0, 0, 0), 0, []), (.iaload, (1, 0, 0, 0, 0, 0), 0, []), (.istore 4, (2, 0, 4, 0, 0, 0), 0, []), (.iconst 1, (1, 0, 0, 0, 0, 0), 1, []), (.istore 5, (2, 0, 5, 0, 0, 0), 0, []), (.nop, (0, 1, 21, 0, 0, 0), 0, [])],
  [(.iload 5, (2, 0, 5, 0, 0, 0), 0, []), (.aload_n 0, (1, 0, 0, 0, 0, 0), 0, []), (.getfield 23, (3, 0, 10, 7, 4187, 0), 0, []), (.if_icmp .ge 58, (3, 1, 29, 22, 0, 0), 0, [])],
  [(.aload_n 0, (1, 0, 0, 0, 0, 0), 0, []), (.getfield 59, (3, 0, 10, 43, 4223, 1), 0, []), (.iload 5, (2, 0, 5, 0, 0, 0), 0, []), (.iaload, (1, 0, 0, 0, 0, 0), 0, []), (.iload_n 3, (1, 0, 3, 0, 0, 0), 0, []), (.if_icmp .le 13, (3, 1, 24, 23, 0, 0), 0, [])],
  [(.aload_n 0, (1, 0, 0, 0, 0, 0), 0, []), (.getfield 59, (3, 0, 10, 43, 4223, 1), 0, []), (.iload 5, (2, 0, 5, 0, 0, 0), 0, []), (.iaload, (1, 0, 0, 0, 0, 0), 0, []), (.goto 4, (3, 1, 25, 0, 0, 0), 0, [])],
  [(.iload_n 3, (1, 0, 3, 0, 0, 0), 0, []), (.nop, (0, 1, 25, 0, 0, 0), 0, [])],
  [(.istore_n 3, (1, 0, 3, 0, 0, 0), 0, []), (.aload_n 0, (1, 0, 0, 0, 0, 0), 0, []), (.getfield 59, (3, 0, 10, 43, 4223, 1), 0, []), (.iload 5, (2, 0, 5, 0, 0, 0), 0, []), (.iaload, (1, 0, 0, 0, 0, 0), 0, []), (.iload 4, (2, 0, 4, 0, 0, 0), 0, []), (.if_icmp .ge 13, (3, 1, 27, 26, 0, 0), 0, [])],
  [(.aload_n 0, (1, 0, 0, 0, 0, 0), 0, []), (.getfield 59, (3, 0, 10, 43, 4223, 1), 0, []), (.iload 5, (2, 0, 5, 0, 0, 0), 0, []), (.iaload, (1, 0, 0, 0, 0, 0), 0, []), (.goto 5, (3, 1, 28, 0, 0, 0), 0, [])],
  [(.iload 4, (2, 0, 4, 0, 0, 0), 0, []), (.nop, (0, 1, 28, 0, 0, 0), 0, [])],
  [(.istore 4, (2, 0, 4, 0, 0, 0), 0, []), (.iinc 5 1, (3, 0, 5, 0, 0, 0), 1, []), (.goto (-61), (3, 1, 21, 0, 0, 0), 0, [])],
  [(.iload_n 3, (1, 0, 3, 0, 0, 0), 0, []), (.iload 4, (2, 0, 4, 0, 0, 0), 0, []), (.isub, (1, 0, 0, 0, 0, 0), 0, []), (.ireturn, (1, 3, 0, 0, 0, 0), 0, [])]]
/-- EvenlyPouredModel.tasteBad(I)I -/
noncomputable def bk_190 : List (List am_P) := [[(.iload_n 1, (1, 0, 1, 0, 0, 0), 0, []), (.invokestatic 357, (3, 2, 200, 1, 1, 0), 6131, [])],
  [(.ifCond .ne 6, (3, 1, 3, 2, 0, 0), 0, [])],
  [(.bipush (-2), (2, 0, 0, 0, 0, 0), (-2), []), (.ireturn, (1, 3, 0, 0, 0, 0), 0, [])],
  [(.aload_n 0, (1, 0, 0, 0, 0, 0), 0, []), (.getfield 74, (3, 0, 10, 51, 4231, 1), 0, []), (.iload_n 1, (1, 0, 1, 0, 0, 0), 0, []), (.baload, (1, 0, 21, 0, 0, 0), 0, []), (.ifCond .ne 6, (3, 1, 5, 4, 0, 0), 0, [])],
  [(.bipush (-11), (2, 0, 0, 0, 0, 0), (-11), []), (.ireturn, (1, 3, 0, 0, 0, 0), 0, [])],
  [(.aload_n 0, (1, 0, 0, 0, 0, 0), 0, []), (.getfield 81, (3, 0, 10, 53, 4233, 1), 0, []), (.iload_n 1, (1, 0, 1, 0, 0, 0), 0, []), (.iaload, (1, 0, 0, 0, 0, 0), 0, []), (.aload_n 0, (1, 0, 0, 0, 0, 0), 0, []), (.getfield 23, (3, 0, 10, 7, 4187, 0), 0, []), (.if_icmp .ne 7, (3, 1, 7, 6, 0, 0), 0, [])],
  [(.iconst 0, (1, 0, 0, 0, 0, 0), 0, []), (.goto 5, (3, 1, 8, 0, 0, 0), 0, [])],
  [(.bipush (-2), (2, 0, 0, 0, 0, 0), (-2), []), (.nop, (0, 1, 8, 0, 0, 0), 0, [])],
  [(.ireturn, (1, 3, 0, 0, 0, 0), 0, [])]]
/-- EvenlyPouredModel.tastes(II)I -/
noncomputable def bk_191 : List (List am_P) := [[(.iload_n 1, (1, 0, 1, 0, 0, 0), 0, []), (.invokestatic 357, (3, 2, 200, 1, 1, 0), 6131, [])],
  [(.ifCond .eq 13, (3, 1, 4, 2, 0, 0), 0, [])],
  [(.iload_n 2, (1, 0, 2, 0, 0, 0), 0, []), (.i2l, (1, 0, 0, 0, 0, 0), 0, []), (.lconst 0, (1, 0, 0, 0, 0, 0), 0, []), (.lconst 1, (1, 0, 1, 0, 0, 0), 0, []), (.invokestatic 94, (3, 2, 127, 3, 3, 0), 5111, [])],
  [(.ifCond .ne 6, (3, 1, 5, 4, 0, 0), 0, [])],
  [(.bipush (-2), (2, 0, 0, 0, 0, 0), (-2), []), (.ireturn, (1, 3, 0, 0, 0, 0), 0, [])],
  [(.aload_n 0, (1, 0, 0, 0, 0, 0), 0, []), (.iload_n 1, (1, 0, 1, 0, 0, 0), 0, []), (.invokevirtual 360, (3, 2, 190, 6, 2, 11), 6134, [])],
  [(.istore_n 3, (1, 0, 3, 0, 0, 0), 0, []), (.iload_n 3, (1, 0, 3, 0, 0, 0), 0, []), (.ifCond .eq 5, (3, 1, 8, 7, 0, 0), 0, [])],
  [(.iload_n 3, (1, 0, 3, 0, 0, 0), 0, []), (.ireturn, (1, 3, 0, 0, 0, 0), 0, [])],
  [(.aload_n 0, (1, 0, 0, 0, 0, 0), 0, []), (.getfield 26, (3, 0, 10, 8, 4188, 0), 0, []), (.bipush 9, (2, 0, 0, 0, 0, 0), 9, []), (.if_icmp .gt 10, (3, 1, 11, 9, 0, 0), 0, [])],
  [(.aload_n 0, (1, 0, 0, 0, 0, 0), 0, []), (.invokevirtual 334, (3, 2, 172, 10, 1, 11), 6056, [])],
  [(.ifCond .eq 6, (3, 1, 12, 11, 0, 0), 0, [])],
  [(.bipush (-3), (2, 0, 0, 0, 0, 0), (-3), []), (.ireturn, (1, 3, 0, 0, 0, 0), 0, [])],
  [(.aload_n 0, (1, 0, 0, 0, 0, 0), 0, []), (.iconst 2, (1, 0, 0, 0, 0, 0), 2, []), (.iload_n 1, (1, 0, 1, 0, 0, 0), 0, []), (.invokevirtual 337, (3, 2, 177, 13, 3, 11), 6061, [])],
  [(.iload_n 2, (1, 0, 2, 0, 0, 0), 0, []), (.ifCond .ne 8, (3, 1, 15, 14, 0, 0), 0, [])],
  [(.aload_n 0, (1, 0, 0, 0, 0, 0), 0, []), (.getfield 317, (3, 0, 10, 42, 4222, 0), 0, []), (.ireturn, (1, 3, 0, 0, 0, 0), 0, [])],
  [(.aload_n 0, (1, 0, 0, 0, 0, 0), 0, []), (.getfield 317, (3, 0, 10, 42, 4222, 0), 0, []), (.ifCond .ne 5, (3, 1, 17, 16, 0, 0), 0, [])],
  [(.iconst (-1), (1, 0, 0, 0, 0, 0), (-1), []), (.ireturn, (1, 3, 0, 0, 0, 0), 0, [])],
  [(.iconst 0, (1, 0, 0, 0, 0, 0), 0, []), (.istore 4, (2, 0, 4, 0, 0, 0), 0, []), (.iconst 0, (1, 0, 0, 0, 0, 0), 0, []), (.istore 5, (2, 0, 5, 0, 0, 0), 0, []), (.nop, (0, 1, 18, 0, 0, 0), 0, [])],
  [(.iload 5, (2, 0, 5, 0, 0, 0), 0, []), (.aload_n 0, (1, 0, 0, 0, 0, 0), 0, []), (.getfield 26, (3, 0, 10, 8, 4188, 0), 0, []), (.if_icmp .ge 24, (3, 1, 20, 19, 0, 0), 0, [])],
  [(.bipush 10, (2, 0, 0, 0, 0, 0), 10, []), (.iload 4, (2, 0, 4, 0, 0, 0), 0, []), (.imul, (1, 0, 0, 0, 0, 0), 0, []), (.aload_n 0, (1, 0, 0, 0, 0, 0), 0, []), (.getfield 56, (3, 0, 10, 37, 4217, 1), 0, []), (.iload 5, (2, 0, 5, 0, 0, 0), 0, []), (.iaload, (1, 0, 0, 0, 0, 0), 0, []), (.iadd, (1, 0, 0, 0, 0, 0), 0, []), (.istore 4, (2, 0, 4, 0, 0, 0), 0, []), (.iinc 5 1, (3, 0, 5, 0, 0, 0), 1, []), (.goto (-27), (3, 1, 18, 0, 0, 0), 0, [])],
  [(.iload 4, (2, 0, 4, 0, 0, 0), 0, []), (.ireturn, (1, 3, 0, 0, 0, 0), 0, [])]]
/-- EvenlyPouredModel.whom(I)I -/
noncomputable def bk_192 : List (List am_P) := [[(.aload_n 0, (1, 0, 0, 0, 0, 0), 0, []), (.iload_n 1, (1, 0, 1, 0, 0, 0), 0, []), (.invokevirtual 360, (3, 2, 190, 1, 2, 11), 6134, [])],
  [(.istore_n 2, (1, 0, 2, 0, 0, 0), 0, []), (.iload_n 2, (1, 0, 2, 0, 0, 0), 0, []), (.ifCond .eq 5, (3, 1, 3, 2, 0, 0), 0, [])],
  [(.iload_n 2, (1, 0, 2, 0, 0, 0), 0, []), (.ireturn, (1, 3, 0, 0, 0, 0), 0, [])],
  [(.iconst 0, (1, 0, 0, 0, 0, 0), 0, []), (.istore_n 3, (1, 0, 3, 0, 0, 0), 0, []), (.iconst 0, (1, 0, 0, 0, 0, 0), 0, []), (.istore 4, (2, 0, 4, 0, 0, 0), 0, []), (.nop, (0, 1, 4, 0, 0, 0), 0, [])],
  [(.iload 4, (2, 0, 4, 0, 0, 0), 0, []), (.aload_n 0, (1, 0, 0, 0, 0, 0), 0, []), (.getfield 98, (3, 0, 10, 12, 4192, 0), 0, []), (.if_icmp .ge 86, (3, 1, 17, 5, 0, 0), 0, [])],
  [(.aload_n 0, (1, 0, 0, 0, 0, 0), 0, []), (.iload 4, (2, 0, 4, 0, 0, 0), 0, []), (.invokevirtual 354, (3, 2, 185, 6, 2, 11), 6099, [])],
  [(.iconst 1, (1, 0, 0, 0, 0, 0), 1, []), (.istore 5, (2, 0, 5, 0, 0, 0), 0, []), (.iconst 0, (1, 0, 0, 0, 0, 0), 0, []), (.istore 6, (2, 0, 6, 0, 0, 0), 0, []), (.nop, (0, 1, 7, 0, 0, 0), 0, [])],
  [(.iload 6, (2, 0, 6, 0, 0, 0), 0, []), (.aload_n 0, (1, 0, 0, 0, 0, 0), 0, []), (.getfield 23, (3, 0, 10, 7, 4187, 0), 0, []), (.if_icmp .ge 43, (3, 1, 13, 8, 0, 0), 0, [])],
  [(.iload 5, (2, 0, 5, 0, 0, 0), 0, []), (.ifCond .eq 29, (3, 1, 11, 9, 0, 0), 0, [])],
  [(.aload_n 0, (1, 0, 0, 0, 0, 0), 0, []), (.getfield 50, (3, 0, 10, 32, 4212, 1), 0, []), (.iload 6, (2, 0, 6, 0, 0, 0), 0, []), (.iaload, (1, 0, 0, 0, 0, 0), 0, []), (.aload_n 0, (1, 0, 0, 0, 0, 0), 0, []), (.getfield 84, (3, 0, 10, 54, 4234, 1), 0, []), (.bipush 40, (2, 0, 0, 0, 0, 0), 40, []), (.iload_n 1, (1, 0, 1, 0, 0, 0), 0, []), (.imul, (1, 0, 0, 0, 0, 0), 0, []), (.iload 6, (2, 0, 6, 0, 0, 0), 0, []), (.iadd, (1, 0, 0, 0, 0, 0), 0, []), (.iaload, (1, 0, 0, 0, 0, 0), 0, []), (.if_icmp .ne 7, (3, 1, 11, 10, 0, 0), 0, [])],
  [(.iconst 1, (1, 0, 0, 0, 0, 0), 1, []), (.goto 4, (3, 1, 12, 0, 0, 0), 0, [])],
  [(.iconst 0, (1, 0, 0, 0, 0, 0), 0, []), (.nop, (0, 1, 12, 0, 0, 0), 0, [])],
  [(.istore 5, (2, 0, 5, 0, 0, 0), 0, []), (.iinc 6 1, (3, 0, 6, 0, 0, 0), 1, []), (.goto (-46), (3, 1, 7, 0, 0, 0), 0, [])],
  [(.iload_n 3, (1, 0, 3, 0, 0, 0), 0, []), (.iload 5, (2, 0, 5, 0, 0, 0), 0, []), (.ifCond .eq 7, (3, 1, 15, 14, 0, 0), 0, [])],
  [(.iconst 1, (1, 0, 0, 0, 0, 0), 1, []), (.goto 4, (3, 1, 16, 0, 0, 0), 0, [])],
  [(.iconst 0, (1, 0, 0, 0, 0, 0), 0, []), (.nop, (0, 1, 16, 0, 0, 0), 0, [])],
  [(.iload 4, (2, 0, 4, 0, 0, 0), 0, []), (.ishl, (1, 0, 0, 0, 0, 0), 0, []), (.ior, (1, 0, 0, 0, 0, 0), 0, []), (.istore_n 3, (1, 0, 3, 0, 0, 0), 0, []), (.iinc 4 1, (3, 0, 4, 0, 0, 0), 1, []), (.goto (-89), (3, 1, 4, 0, 0, 0), 0, [])],
  [(.iload_n 3, (1, 0, 3, 0, 0, 0), 0, []), (.ireturn, (1, 3, 0, 0, 0, 0), 0, [])]]
/-- EvenlyPouredModel.forgotten(I)I -/
noncomputable def bk_193 : List (List am_P) := [[(.aload_n 0, (1, 0, 0, 0, 0, 0), 0, []), (.iload_n 1, (1, 0, 1, 0, 0, 0), 0, []), (.invokevirtual 360, (3, 2, 190, 1, 2, 11), 6134, [])],
  [(.istore_n 2, (1, 0, 2, 0, 0, 0), 0, []), (.iload_n 2, (1, 0, 2, 0, 0, 0), 0, []), (.ifCond .eq 5, (3, 1, 3, 2, 0, 0), 0, [])],
  [(.iload_n 2, (1, 0, 2, 0, 0, 0), 0, []), (.ireturn, (1, 3, 0, 0, 0, 0), 0, [])],
  [(.aload_n 0, (1, 0, 0, 0, 0, 0), 0, []), (.invokevirtual 275, (3, 2, 158, 4, 1, 11), 5237, [])],
  [(.iconst 0, (1, 0, 0, 0, 0, 0), 0, []), (.istore_n 3, (1, 0, 3, 0, 0, 0), 0, []), (.nop, (0, 1, 5, 0, 0, 0), 0, [])],
  [(.iload_n 3, (1, 0, 3, 0, 0, 0), 0, []), (.aload_n 0, (1, 0, 0, 0, 0, 0), 0, []), (.getfield 23, (3, 0, 10, 7, 4187, 0), 0, []), (.if_icmp .ge 124, (3, 1, 23, 6, 0, 0), 0, [])],
  [(.aload_n 0, (1, 0, 0, 0, 0, 0), 0, []), (.invokevirtual 278, (3, 2, 162, 7, 1, 11), 6001, [])],
  [(.iconst 0, (1, 0, 0, 0, 0, 0), 0, []), (.istore 4, (2, 0, 4, 0, 0, 0), 0, []), (.nop, (0, 1, 8, 0, 0, 0), 0, [])],
  [(.iload 4, (2, 0, 4, 0, 0, 0), 0, []), (.aload_n 0, (1, 0, 0, 0, 0, 0), 0, []), (.getfield 26, (3, 0, 10, 8, 4188, 0), 0, []), (.if_icmp .ge 34, (3, 1, 12, 9, 0, 0), 0, [])],
  [(.aload_n 0, (1, 0, 0, 0, 0, 0), 0, []), (.getfield 29, (3, 0, 10, 9, 4189, 1), 0, []), (.iload 4, (2, 0, 4, 0, 0, 0), 0, []), (.iaload, (1, 0, 0, 0, 0, 0), 0, []), (.iload_n 3, (1, 0, 3, 0, 0, 0), 0, []), (.if_icmp .eq 17, (3, 1, 11, 10, 0, 0), 0, [])],
  [(.aload_n 0, (1, 0, 0, 0, 0, 0), 0, []), (.iload 4, (2, 0, 4, 0, 0, 0), 0, []), (.aload_n 0, (1, 0, 0, 0, 0, 0), 0, []), (.getfield 29, (3, 0, 10, 9, 4189, 1), 0, []), (.iload 4, (2, 0, 4, 0, 0, 0), 0, []), (.iaload, (1, 0, 0, 0, 0, 0), 0, []), (.iconst 0, (1, 0, 0, 0, 0, 0), 0, []), (.invokevirtual 281, (3, 2, 163, 11, 4, 11), 6005, [])],
  [(.iinc 4 1, (3, 0, 4, 0, 0, 0), 1, []), (.goto (-37), (3, 1, 8, 0, 0, 0), 0, [])],
  [(.iconst 1, (1, 0, 0, 0, 0, 0), 1, []), (.istore 4, (2, 0, 4, 0, 0, 0), 0, []), (.iconst 0, (1, 0, 0, 0, 0, 0), 0, []), (.istore 5, (2, 0, 5, 0, 0, 0), 0, []), (.nop, (0, 1, 13, 0, 0, 0), 0, [])],
  [(.iload 5, (2, 0, 5, 0, 0, 0), 0, []), (.aload_n 0, (1, 0, 0, 0, 0, 0), 0, []), (.getfield 23, (3, 0, 10, 7, 4187, 0), 0, []), (.if_icmp .ge 49, (3, 1, 20, 14, 0, 0), 0, [])],
  [(.iload 4, (2, 0, 4, 0, 0, 0), 0, []), (.ifCond .eq 35, (3, 1, 18, 15, 0, 0), 0, [])],
  [(.iload 5, (2, 0, 5, 0, 0, 0), 0, []), (.iload_n 3, (1, 0, 3, 0, 0, 0), 0, []), (.if_icmp .eq 25, (3, 1, 17, 16, 0, 0), 0, [])],
  [(.aload_n 0, (1, 0, 0, 0, 0, 0), 0, []), (.getfield 50, (3, 0, 10, 32, 4212, 1), 0, []), (.iload 5, (2, 0, 5, 0, 0, 0), 0, []), (.iaload, (1, 0, 0, 0, 0, 0), 0, []), (.aload_n 0, (1, 0, 0, 0, 0, 0), 0, []), (.getfield 84, (3, 0, 10, 54, 4234, 1), 0, []), (.bipush 40, (2, 0, 0, 0, 0, 0), 40, []), (.iload_n 1, (1, 0, 1, 0, 0, 0), 0, []), (.imul, (1, 0, 0, 0, 0, 0), 0, []), (.iload 5, (2, 0, 5, 0, 0, 0), 0, []), (.iadd, (1, 0, 0, 0, 0, 0), 0, []), (.iaload, (1, 0, 0, 0, 0, 0), 0, []), (.if_icmp .ne 7, (3, 1, 18, 17, 0, 0), 0, [])],
  [(.iconst 1, (1, 0, 0, 0, 0, 0), 1, []), (.goto 4, (3, 1, 19, 0, 0, 0), 0, [])],
  [(.iconst 0, (1, 0, 0, 0, 0, 0), 0, []), (.nop, (0, 1, 19, 0, 0, 0), 0, [])],
  [(.istore 4, (2, 0, 4, 0, 0, 0), 0, []), (.iinc 5 1, (3, 0, 5, 0, 0, 0), 1, []), (.goto (-52), (3, 1, 13, 0, 0, 0), 0, [])],
  [(.iload 4, (2, 0, 4, 0, 0, 0), 0, []), (.ifCond .eq 5, (3, 1, 22, 21, 0, 0), 0, [])],
  [(.iload_n 3, (1, 0, 3, 0, 0, 0), 0, []), (.ireturn, (1, 3, 0, 0, 0, 0), 0, [])],
  [(.iinc 3 1, (3, 0, 3, 0, 0, 0), 1, []), (.goto (-126), (3, 1, 5, 0, 0, 0), 0, [])],
  [(.iconst (-1), (1, 0, 0, 0, 0, 0), (-1), []), (.ireturn, (1, 3, 0, 0, 0, 0), 0, [])]]
/-- EvenlyPouredModel.draws(II)I -/
noncomputable def bk_194 : List (List am_P) := [[(.aload_n 0, (1, 0, 0, 0, 0, 0), 0, []), (.invokevirtual 278, (3, 2, 162, 1, 1, 11), 6001, [])],
  [(.iload_n 1, (1, 0, 1, 0, 0, 0), 0, []), (.istore_n 3, (1, 0, 3, 0, 0, 0), 0, []), (.iconst 0, (1, 0, 0, 0, 0, 0), 0, []), (.istore 4, (2, 0, 4, 0, 0, 0), 0, []), (.nop, (0, 1, 2, 0, 0, 0), 0, [])],
  [(.iload 4, (2, 0, 4, 0, 0, 0), 0, []), (.aload_n 0, (1, 0, 0, 0, 0, 0), 0, []), (.getfield 26, (3, 0, 10, 8, 4188, 0), 0, []), (.if_icmp .ge 40, (3, 1, 5, 3, 0, 0), 0, [])],
  [(.iload_n 3, (1, 0, 3, 0, 0, 0), 0, []), (.ldc_w 363, (3, 0, 0, 0, 6155, 0), 1103515245, []), (.imul, (1, 0, 0, 0, 0, 0), 0, []), (.sipush 12345, (3, 0, 0, 0, 0, 0), 12345, []), (.iadd, (1, 0, 0, 0, 0, 0), 0, []), (.istore_n 3, (1, 0, 3, 0, 0, 0), 0, []), (.aload_n 0, (1, 0, 0, 0, 0, 0), 0, []), (.iload 4, (2, 0, 4, 0, 0, 0), 0, []), (.aload_n 0, (1, 0, 0, 0, 0, 0), 0, []), (.getfield 29, (3, 0, 10, 9, 4189, 1), 0, []), (.iload 4, (2, 0, 4, 0, 0, 0), 0, []), (.iaload, (1, 0, 0, 0, 0, 0), 0, []), (.iload_n 3, (1, 0, 3, 0, 0, 0), 0, []), (.bipush 10, (2, 0, 0, 0, 0, 0), 10, []), (.iushr, (1, 0, 0, 0, 0, 0), 0, []), (.iload_n 2, (1, 0, 2, 0, 0, 0), 0, []), (.iconst 1, (1, 0, 0, 0, 0, 0), 1, []), (.iadd, (1, 0, 0, 0, 0, 0), 0, []), (.irem, (1, 0, 0, 0, 0, 0), 0, []), (.invokevirtual 281, (3, 2, 163, 4, 4, 11), 6005, [])],
  [(.iinc 4 1, (3, 0, 4, 0, 0, 0), 1, []), (.goto (-43), (3, 1, 2, 0, 0, 0), 0, [])],
  [(.aload_n 0, (1, 0, 0, 0, 0, 0), 0, []), (.invokevirtual 294, (3, 2, 164, 6, 1, 11), 6039, [])],
  [(.ireturn, (1, 3, 0, 0, 0, 0), 0, [])]]
/-- EvenlyPouredModel.drawn(II)I -/
noncomputable def bk_195 : List (List am_P) := [[(.iload_n 2, (1, 0, 2, 0, 0, 0), 0, []), (.i2l, (1, 0, 0, 0, 0, 0), 0, []), (.lconst 0, (1, 0, 0, 0, 0, 0), 0, []), (.ldc2_w 364, (3, 0, 20, 0, 6150, 0), 0, []), (.invokestatic 94, (3, 2, 127, 1, 3, 0), 5111, [])],
  [(.ifCond .ne 6, (3, 1, 3, 2, 0, 0), 0, [])],
  [(.bipush (-2), (2, 0, 0, 0, 0, 0), (-2), []), (.ireturn, (1, 3, 0, 0, 0, 0), 0, [])],
  [(.aload_n 0, (1, 0, 0, 0, 0, 0), 0, []), (.invokevirtual 275, (3, 2, 158, 4, 1, 11), 5237, [])],
  [(.aload_n 0, (1, 0, 0, 0, 0, 0), 0, []), (.iload_n 1, (1, 0, 1, 0, 0, 0), 0, []), (.iload_n 2, (1, 0, 2, 0, 0, 0), 0, []), (.invokevirtual 366, (3, 2, 194, 5, 3, 11), 6151, [])],
  [(.ireturn, (1, 3, 0, 0, 0, 0), 0, [])]]
/-- EvenlyPouredModel.chance(IIII)J -/
noncomputable def bk_196 : List (List am_P) := [[(.iload_n 2, (1, 0, 2, 0, 0, 0), 0, []), (.i2l, (1, 0, 0, 0, 0, 0), 0, []), (.lconst 1, (1, 0, 1, 0, 0, 0), 0, []), (.ldc2_w 364, (3, 0, 20, 0, 6150, 0), 0, []), (.invokestatic 94, (3, 2, 127, 1, 3, 0), 5111, [])],
  [(.ifCond .eq 26, (3, 1, 6, 2, 0, 0), 0, [])],
  [(.iload_n 3, (1, 0, 3, 0, 0, 0), 0, []), (.i2l, (1, 0, 0, 0, 0, 0), 0, []), (.lconst 0, (1, 0, 0, 0, 0, 0), 0, []), (.ldc2_w 364, (3, 0, 20, 0, 6150, 0), 0, []), (.invokestatic 94, (3, 2, 127, 3, 3, 0), 5111, [])],
  [(.ifCond .eq 14, (3, 1, 6, 4, 0, 0), 0, [])],
  [(.iload 4, (2, 0, 4, 0, 0, 0), 0, []), (.i2l, (1, 0, 0, 0, 0, 0), 0, []), (.lconst 0, (1, 0, 0, 0, 0, 0), 0, []), (.lconst 1, (1, 0, 1, 0, 0, 0), 0, []), (.invokestatic 94, (3, 2, 127, 5, 3, 0), 5111, [])],
  [(.ifCond .ne 7, (3, 1, 7, 6, 0, 0), 0, [])],
  [(.ldc2_w 297, (3, 0, 100000, 0, 6047, 0), 0, []), (.lreturn, (1, 3, 0, 0, 0, 0), 0, [])],
  [(.aload_n 0, (1, 0, 0, 0, 0, 0), 0, []), (.invokevirtual 275, (3, 2, 158, 8, 1, 11), 5237, [])],
  [(.lconst 0, (1, 0, 0, 0, 0, 0), 0, []), (.lstore 5, (2, 0, 5, 0, 0, 0), 0, []), (.iconst 0, (1, 0, 0, 0, 0, 0), 0, []), (.istore 7, (2, 0, 7, 0, 0, 0), 0, []), (.nop, (0, 1, 9, 0, 0, 0), 0, [])],
  [(.iload 7, (2, 0, 7, 0, 0, 0), 0, []), (.iload_n 2, (1, 0, 2, 0, 0, 0), 0, []), (.if_icmp .ge 24, (3, 1, 12, 10, 0, 0), 0, [])],
  [(.lload 5, (2, 0, 5, 0, 0, 0), 0, []), (.aload_n 0, (1, 0, 0, 0, 0, 0), 0, []), (.iload_n 1, (1, 0, 1, 0, 0, 0), 0, []), (.iload 7, (2, 0, 7, 0, 0, 0), 0, []), (.iadd, (1, 0, 0, 0, 0, 0), 0, []), (.iload_n 3, (1, 0, 3, 0, 0, 0), 0, []), (.invokevirtual 366, (3, 2, 194, 11, 3, 11), 6151, [])],
  [(.i2l, (1, 0, 0, 0, 0, 0), 0, []), (.ladd, (1, 0, 0, 0, 0, 0), 0, []), (.lstore 5, (2, 0, 5, 0, 0, 0), 0, []), (.iinc 7 1, (3, 0, 7, 0, 0, 0), 1, []), (.goto (-24), (3, 1, 9, 0, 0, 0), 0, [])],
  [(.lload 5, (2, 0, 5, 0, 0, 0), 0, []), (.iload_n 2, (1, 0, 2, 0, 0, 0), 0, []), (.i2l, (1, 0, 0, 0, 0, 0), 0, []), (.iload 4, (2, 0, 4, 0, 0, 0), 0, []), (.invokestatic 299, (3, 2, 170, 13, 3, 0), 6048, [])],
  [(.lreturn, (1, 3, 0, 0, 0, 0), 0, [])]]
/-- EvenlyPouredModel.image()I -/
noncomputable def bk_197 : List (List am_P) := [[(.iconst 0, (1, 0, 0, 0, 0, 0), 0, []), (.istore_n 1, (1, 0, 1, 0, 0, 0), 0, []), (.nop, (0, 1, 1, 0, 0, 0), 0, [])],
  [(.iload_n 1, (1, 0, 1, 0, 0, 0), 0, []), (.bipush 24, (2, 0, 0, 0, 0, 0), 24, []), (.if_icmp .ge 21, (3, 1, 3, 2, 0, 0), 0, [])],
  [(.aload_n 0, (1, 0, 0, 0, 0, 0), 0, []), (.getfield 62, (3, 0, 10, 44, 4224, 1), 0, []), (.iload_n 1, (1, 0, 1, 0, 0, 0), 0, []), (.aload_n 0, (1, 0, 0, 0, 0, 0), 0, []), (.getfield 29, (3, 0, 10, 9, 4189, 1), 0, []), (.iload_n 1, (1, 0, 1, 0, 0, 0), 0, []), (.iaload, (1, 0, 0, 0, 0, 0), 0, []), (.iastore, (1, 0, 0, 0, 0, 0), 0, []), (.iinc 1 1, (3, 0, 1, 0, 0, 0), 1, []), (.goto (-21), (3, 1, 1, 0, 0, 0), 0, [])],
  [(.iconst 0, (1, 0, 0, 0, 0, 0), 0, []), (.istore_n 1, (1, 0, 1, 0, 0, 0), 0, []), (.nop, (0, 1, 4, 0, 0, 0), 0, [])],
  [(.iload_n 1, (1, 0, 1, 0, 0, 0), 0, []), (.bipush 8, (2, 0, 0, 0, 0, 0), 8, []), (.if_icmp .ge 21, (3, 1, 6, 5, 0, 0), 0, [])],
  [(.aload_n 0, (1, 0, 0, 0, 0, 0), 0, []), (.getfield 65, (3, 0, 10, 45, 4225, 1), 0, []), (.iload_n 1, (1, 0, 1, 0, 0, 0), 0, []), (.aload_n 0, (1, 0, 0, 0, 0, 0), 0, []), (.getfield 38, (3, 0, 10, 13, 4193, 1), 0, []), (.iload_n 1, (1, 0, 1, 0, 0, 0), 0, []), (.iaload, (1, 0, 0, 0, 0, 0), 0, []), (.iastore, (1, 0, 0, 0, 0, 0), 0, []), (.iinc 1 1, (3, 0, 1, 0, 0, 0), 1, []), (.goto (-21), (3, 1, 4, 0, 0, 0), 0, [])],
  [(.iconst 0, (1, 0, 0, 0, 0, 0), 0, []), (.istore_n 1, (1, 0, 1, 0, 0, 0), 0, []), (.nop, (0, 1, 7, 0, 0, 0), 0, [])],
  [(.iload_n 1, (1, 0, 1, 0, 0, 0), 0, []), (.bipush 6, (2, 0, 0, 0, 0, 0), 6, []), (.if_icmp .ge 21, (3, 1, 9, 8, 0, 0), 0, [])],
  [(.aload_n 0, (1, 0, 0, 0, 0, 0), 0, []), (.getfield 68, (3, 0, 10, 46, 4226, 1), 0, []), (.iload_n 1, (1, 0, 1, 0, 0, 0), 0, []), (.aload_n 0, (1, 0, 0, 0, 0, 0), 0, []), (.getfield 35, (3, 0, 10, 11, 4191, 1), 0, []), (.iload_n 1, (1, 0, 1, 0, 0, 0), 0, []), (.iaload, (1, 0, 0, 0, 0, 0), 0, []), (.iastore, (1, 0, 0, 0, 0, 0), 0, []), (.iinc 1 1, (3, 0, 1, 0, 0, 0), 1, []), (.goto (-21), (3, 1, 7, 0, 0, 0), 0, [])],
  [(.aload_n 0, (1, 0, 0, 0, 0, 0), 0, []), (.aload_n 0, (1, 0, 0, 0, 0, 0), 0, []), (.getfield 26, (3, 0, 10, 8, 4188, 0), 0, []), (.putfield 71, (3, 0, 10, 47, 4227, 0), 0, []), (.aload_n 0, (1, 0, 0, 0, 0, 0), 0, []), (.aload_n 0, (1, 0, 0, 0, 0, 0), 0, []), (.getfield 23, (3, 0, 10, 7, 4187, 0), 0, []), (.putfield 369, (3, 0, 10, 48, 4228, 0), 0, []), (.aload_n 0, (1, 0, 0, 0, 0, 0), 0, []), (.aload_n 0, (1, 0, 0, 0, 0, 0), 0, []), (.getfield 98, (3, 0, 10, 12, 4192, 0), 0, []), (.putfield 372, (3, 0, 10, 49, 4229, 0), 0, []), (.aload_n 0, (1, 0, 0, 0, 0, 0), 0, []), (.aload_n 0, (1, 0, 0, 0, 0, 0), 0, []), (.getfield 245, (3, 0, 10, 4, 4184, 0), 0, []), (.putfield 375, (3, 0, 10, 50, 4230, 0), 0, []), (.aload_n 0, (1, 0, 0, 0, 0, 0), 0, []), (.getfield 26, (3, 0, 10, 8, 4188, 0), 0, []), (.ireturn, (1, 3, 0, 0, 0, 0), 0, [])]]
/-- EvenlyPouredModel.back()I -/
noncomputable def bk_198 : List (List am_P) := [[(.aload_n 0, (1, 0, 0, 0, 0, 0), 0, []), (.getfield 71, (3, 0, 10, 47, 4227, 0), 0, []), (.iconst (-1), (1, 0, 0, 0, 0, 0), (-1), []), (.if_icmp .ne 6, (3, 1, 2, 1, 0, 0), 0, [])],
  [(.bipush (-3), (2, 0, 0, 0, 0, 0), (-3), []), (.ireturn, (1, 3, 0, 0, 0, 0), 0, [])],
  [(.iconst 0, (1, 0, 0, 0, 0, 0), 0, []), (.istore_n 1, (1, 0, 1, 0, 0, 0), 0, []), (.nop, (0, 1, 3, 0, 0, 0), 0, [])],
  [(.iload_n 1, (1, 0, 1, 0, 0, 0), 0, []), (.bipush 24, (2, 0, 0, 0, 0, 0), 24, []), (.if_icmp .ge 21, (3, 1, 5, 4, 0, 0), 0, [])],
  [(.aload_n 0, (1, 0, 0, 0, 0, 0), 0, []), (.getfield 29, (3, 0, 10, 9, 4189, 1), 0, []), (.iload_n 1, (1, 0, 1, 0, 0, 0), 0, []), (.aload_n 0, (1, 0, 0, 0, 0, 0), 0, []), (.getfield 62, (3, 0, 10, 44, 4224, 1), 0, []), (.iload_n 1, (1, 0, 1, 0, 0, 0), 0, []), (.iaload, (1, 0, 0, 0, 0, 0), 0, []), (.iastore, (1, 0, 0, 0, 0, 0), 0, []), (.iinc 1 1, (3, 0, 1, 0, 0, 0), 1, []), (.goto (-21), (3, 1, 3, 0, 0, 0), 0, [])],
  [(.iconst 0, (1, 0, 0, 0, 0, 0), 0, []), (.istore_n 1, (1, 0, 1, 0, 0, 0), 0, []), (.nop, (0, 1, 6, 0, 0, 0), 0, [])],
  [(.iload_n 1, (1, 0, 1, 0, 0, 0), 0, []), (.bipush 8, (2, 0, 0, 0, 0, 0), 8, []), (.if_icmp .ge 21, (3, 1, 8, 7, 0, 0), 0, [])],
  [(.aload_n 0, (1, 0, 0, 0, 0, 0), 0, []), (.getfield 38, (3, 0, 10, 13, 4193, 1), 0, []), (.iload_n 1, (1, 0, 1, 0, 0, 0), 0, []), (.aload_n 0, (1, 0, 0, 0, 0, 0), 0, []), (.getfield 65, (3, 0, 10, 45, 4225, 1), 0, []), (.iload_n 1, (1, 0, 1, 0, 0, 0), 0, []), (.iaload, (1, 0, 0, 0, 0, 0), 0, []), (.iastore, (1, 0, 0, 0, 0, 0), 0, []), (.iinc 1 1, (3, 0, 1, 0, 0, 0), 1, []), (.goto (-21), (3, 1, 6, 0, 0, 0), 0, [])],
  [(.iconst 0, (1, 0, 0, 0, 0, 0), 0, []), (.istore_n 1, (1, 0, 1, 0, 0, 0), 0, []), (.nop, (0, 1, 9, 0, 0, 0), 0, [])],
  [(.iload_n 1, (1, 0, 1, 0, 0, 0), 0, []), (.bipush 6, (2, 0, 0, 0, 0, 0), 6, []), (.if_icmp .ge 21, (3, 1, 11, 10, 0, 0), 0, [])],
  [(.aload_n 0, (1, 0, 0, 0, 0, 0), 0, []), (.getfield 35, (3, 0, 10, 11, 4191, 1), 0, []), (.iload_n 1, (1, 0, 1, 0, 0, 0), 0, []), (.aload_n 0, (1, 0, 0, 0, 0, 0), 0, []), (.getfield 68, (3, 0, 10, 46, 4226, 1), 0, []), (.iload_n 1, (1, 0, 1, 0, 0, 0), 0, []), (.iaload, (1, 0, 0, 0, 0, 0), 0, []), (.iastore, (1, 0, 0, 0, 0, 0), 0, []), (.iinc 1 1, (3, 0, 1, 0, 0, 0), 1, []), (.goto (-21), (3, 1, 9, 0, 0, 0), 0, [])],
  [(.aload_n 0, (1, 0, 0, 0, 0, 0), 0, []), (.aload_n 0, (1, 0, 0, 0, 0, 0), 0, []), (.getfield 71, (3, 0, 10, 47, 4227, 0), 0, []), (.putfield 26, (3, 0, 10, 8, 4188, 0), 0, []), (.aload_n 0, (1, 0, 0, 0, 0, 0), 0, []), (.aload_n 0, (1, 0, 0, 0, 0, 0), 0, []), (.getfield 369, (3, 0, 10, 48, 4228, 0), 0, []), (.putfield 23, (3, 0, 10, 7, 4187, 0), 0, []), (.aload_n 0, (1, 0, 0, 0, 0, 0), 0, []), (.aload_n 0, (1, 0, 0, 0, 0, 0), 0, []), (.getfield 372, (3, 0, 10, 49, 4229, 0), 0, []), (.putfield 98, (3, 0, 10, 12, 4192, 0), 0, []), (.aload_n 0, (1, 0, 0, 0, 0, 0), 0, []), (.aload_n 0, (1, 0, 0, 0, 0, 0), 0, []), (.getfield 375, (3, 0, 10, 50, 4230, 0), 0, []), (.putfield 245, (3, 0, 10, 4, 4184, 0), 0, []), (.aload_n 0, (1, 0, 0, 0, 0, 0), 0, []), (.getfield 26, (3, 0, 10, 8, 4188, 0), 0, []), (.ireturn, (1, 3, 0, 0, 0, 0), 0, [])]]
/-- EvenlyPouredModel.count(I)I -/
noncomputable def bk_199 : List (List am_P) := [[(.iload_n 1, (1, 0, 1, 0, 0, 0), 0, []), (.i2l, (1, 0, 0, 0, 0, 0), 0, []), (.lconst 0, (1, 0, 0, 0, 0, 0), 0, []), (.ldc2_w 122, (3, 0, 5, 0, 5144, 0), 0, []), (.invokestatic 94, (3, 2, 127, 1, 3, 0), 5111, [])],
  [(.ifCond .ne 6, (3, 1, 3, 2, 0, 0), 0, [])],
  [(.bipush (-2), (2, 0, 0, 0, 0, 0), (-2), []), (.ireturn, (1, 3, 0, 0, 0, 0), 0, [])],
  [(.iload_n 1, (1, 0, 1, 0, 0, 0), 0, []), (.iconst 3, (1, 0, 0, 0, 0, 0), 3, []), (.if_icmp .ge 31, (3, 1, 10, 4, 0, 0), 0, [])],
  [(.iload_n 1, (1, 0, 1, 0, 0, 0), 0, []), (.ifCond .ne 10, (3, 1, 6, 5, 0, 0), 0, [])],
  [(.aload_n 0, (1, 0, 0, 0, 0, 0), 0, []), (.getfield 23, (3, 0, 10, 7, 4187, 0), 0, []), (.goto 19, (3, 1, 9, 0, 0, 0), 0, [])],
  [(.iload_n 1, (1, 0, 1, 0, 0, 0), 0, []), (.iconst 1, (1, 0, 0, 0, 0, 0), 1, []), (.if_icmp .ne 10, (3, 1, 8, 7, 0, 0), 0, [])],
  [(.aload_n 0, (1, 0, 0, 0, 0, 0), 0, []), (.getfield 26, (3, 0, 10, 8, 4188, 0), 0, []), (.goto 7, (3, 1, 9, 0, 0, 0), 0, [])],
  [(.aload_n 0, (1, 0, 0, 0, 0, 0), 0, []), (.getfield 98, (3, 0, 10, 12, 4192, 0), 0, []), (.nop, (0, 1, 9, 0, 0, 0), 0, [])],
  [(.ireturn, (1, 3, 0, 0, 0, 0), 0, [])],
  [(.iload_n 1, (1, 0, 1, 0, 0, 0), 0, []), (.iconst 3, (1, 0, 0, 0, 0, 0), 3, []), (.if_icmp .ne 10, (3, 1, 12, 11, 0, 0), 0, [])],
  [(.aload_n 0, (1, 0, 0, 0, 0, 0), 0, []), (.getfield 91, (3, 0, 10, 3, 4183, 0), 0, []), (.goto 19, (3, 1, 15, 0, 0, 0), 0, [])],
  [(.iload_n 1, (1, 0, 1, 0, 0, 0), 0, []), (.iconst 4, (1, 0, 0, 0, 0, 0), 4, []), (.if_icmp .ne 10, (3, 1, 14, 13, 0, 0), 0, [])],
  [(.aload_n 0, (1, 0, 0, 0, 0, 0), 0, []), (.getfield 126, (3, 0, 10, 6, 4186, 0), 0, []), (.goto 7, (3, 1, 15, 0, 0, 0), 0, [])],
  [(.aload_n 0, (1, 0, 0, 0, 0, 0), 0, []), (.getfield 245, (3, 0, 10, 4, 4184, 0), 0, []), (.nop, (0, 1, 15, 0, 0, 0), 0, [])],
  [(.ireturn, (1, 3, 0, 0, 0, 0), 0, [])]]
/-- EvenlyPouredModel.isSheet(I)Z -/
noncomputable def bk_200 : List (List am_P) := [[(.iload_n 0, (1, 0, 0, 0, 0, 0), 0, []), (.i2l, (1, 0, 0, 0, 0, 0), 0, []), (.lconst 0, (1, 0, 0, 0, 0, 0), 0, []), (.ldc2_w 101, (3, 0, 3, 0, 5110, 0), 0, []), (.invokestatic 94, (3, 2, 127, 1, 3, 0), 5111, [])],
  [(.ireturn, (1, 3, 0, 0, 0, 1), 0, [])]]
/-- EvenlyPouredModel.sheet(III)I -/
noncomputable def bk_201 : List (List am_P) := [[(.iload_n 1, (1, 0, 1, 0, 0, 0), 0, []), (.invokestatic 357, (3, 2, 200, 1, 1, 0), 6131, [])],
  [(.ifCond .eq 27, (3, 1, 6, 2, 0, 0), 0, [])],
  [(.iload_n 2, (1, 0, 2, 0, 0, 0), 0, []), (.i2l, (1, 0, 0, 0, 0, 0), 0, []), (.ldc2_w 352, (3, 0, 100001, 0, 6098, 0), 0, []), (.ldc2_w 117, (3, 0, 2, 0, 5127, 0), 0, []), (.invokestatic 94, (3, 2, 127, 3, 3, 0), 5111, [])],
  [(.ifCond .eq 13, (3, 1, 6, 4, 0, 0), 0, [])],
  [(.iload_n 2, (1, 0, 2, 0, 0, 0), 0, []), (.ifCond .lt 12, (3, 1, 7, 5, 0, 0), 0, [])],
  [(.iload_n 3, (1, 0, 3, 0, 0, 0), 0, []), (.bipush 40, (2, 0, 0, 0, 0, 0), 40, []), (.if_icmp .le 6, (3, 1, 7, 6, 0, 0), 0, [])],
  [(.bipush (-2), (2, 0, 0, 0, 0, 0), (-2), []), (.ireturn, (1, 3, 0, 0, 0, 0), 0, [])],
  [(.iload_n 2, (1, 0, 2, 0, 0, 0), 0, []), (.ifCond .lt 10, (3, 1, 10, 8, 0, 0), 0, [])],
  [(.iload_n 3, (1, 0, 3, 0, 0, 0), 0, []), (.ifCond .ge 6, (3, 1, 10, 9, 0, 0), 0, [])],
  [(.bipush (-14), (2, 0, 0, 0, 0, 0), (-14), []), (.ireturn, (1, 3, 0, 0, 0, 0), 0, [])],
  [(.aload_n 0, (1, 0, 0, 0, 0, 0), 0, []), (.getfield 74, (3, 0, 10, 51, 4231, 1), 0, []), (.iload_n 1, (1, 0, 1, 0, 0, 0), 0, []), (.iload_n 2, (1, 0, 2, 0, 0, 0), 0, []), (.ifCond .lt 7, (3, 1, 12, 11, 0, 0), 0, [])],
  [(.iconst 1, (1, 0, 0, 0, 0, 0), 1, []), (.goto 4, (3, 1, 13, 0, 0, 0), 0, [])],
  [(.iconst 0, (1, 0, 0, 0, 0, 0), 0, []), (.nop, (0, 1, 13, 0, 0, 0), 0, [])],
  [(.bastore, (1, 0, 0, 0, 0, 0), 0, []), (.aload_n 0, (1, 0, 0, 0, 0, 0), 0, []), (.getfield 78, (3, 0, 10, 52, 4232, 1), 0, []), (.iload_n 1, (1, 0, 1, 0, 0, 0), 0, []), (.iload_n 2, (1, 0, 2, 0, 0, 0), 0, []), (.iastore, (1, 0, 0, 0, 0, 0), 0, []), (.aload_n 0, (1, 0, 0, 0, 0, 0), 0, []), (.getfield 81, (3, 0, 10, 53, 4233, 1), 0, []), (.iload_n 1, (1, 0, 1, 0, 0, 0), 0, []), (.iload_n 3, (1, 0, 3, 0, 0, 0), 0, []), (.iastore, (1, 0, 0, 0, 0, 0), 0, []), (.iconst 0, (1, 0, 0, 0, 0, 0), 0, []), (.istore 4, (2, 0, 4, 0, 0, 0), 0, []), (.nop, (0, 1, 14, 0, 0, 0), 0, [])],
  [(.iload 4, (2, 0, 4, 0, 0, 0), 0, []), (.iload_n 3, (1, 0, 3, 0, 0, 0), 0, []), (.if_icmp .ge 26, (3, 1, 17, 15, 0, 0), 0, [])],
  [(.iload_n 2, (1, 0, 2, 0, 0, 0), 0, []), (.ifCond .lt 22, (3, 1, 17, 16, 0, 0), 0, [])],
  [(.aload_n 0, (1, 0, 0, 0, 0, 0), 0, []), (.getfield 84, (3, 0, 10, 54, 4234, 1), 0, []), (.bipush 40, (2, 0, 0, 0, 0, 0), 40, []), (.iload_n 1, (1, 0, 1, 0, 0, 0), 0, []), (.imul, (1, 0, 0, 0, 0, 0), 0, []), (.iload 4, (2, 0, 4, 0, 0, 0), 0, []), (.iadd, (1, 0, 0, 0, 0, 0), 0, []), (.iconst 0, (1, 0, 0, 0, 0, 0), 0, []), (.iastore, (1, 0, 0, 0, 0, 0), 0, []), (.iinc 4 1, (3, 0, 4, 0, 0, 0), 1, []), (.goto (-26), (3, 1, 14, 0, 0, 0), 0, [])],
  [(.iconst 1, (1, 0, 0, 0, 0, 0), 1, []), (.ireturn, (1, 3, 0, 0, 0, 0), 0, [])]]
/-- EvenlyPouredModel.cell(III)I -/
noncomputable def bk_202 : List (List am_P) := [[(.iload_n 1, (1, 0, 1, 0, 0, 0), 0, []), (.invokestatic 357, (3, 2, 200, 1, 1, 0), 6131, [])],
  [(.ifCond .ne 6, (3, 1, 3, 2, 0, 0), 0, [])],
  [(.bipush (-2), (2, 0, 0, 0, 0, 0), (-2), []), (.ireturn, (1, 3, 0, 0, 0, 0), 0, [])],
  [(.aload_n 0, (1, 0, 0, 0, 0, 0), 0, []), (.getfield 74, (3, 0, 10, 51, 4231, 1), 0, []), (.iload_n 1, (1, 0, 1, 0, 0, 0), 0, []), (.baload, (1, 0, 21, 0, 0, 0), 0, []), (.ifCond .ne 6, (3, 1, 5, 4, 0, 0), 0, [])],
  [(.bipush (-11), (2, 0, 0, 0, 0, 0), (-11), []), (.ireturn, (1, 3, 0, 0, 0, 0), 0, [])],
  [(.iload_n 2, (1, 0, 2, 0, 0, 0), 0, []), (.i2l, (1, 0, 0, 0, 0, 0), 0, []), (.lconst 0, (1, 0, 0, 0, 0, 0), 0, []), (.aload_n 0, (1, 0, 0, 0, 0, 0), 0, []), (.getfield 81, (3, 0, 10, 53, 4233, 1), 0, []), (.iload_n 1, (1, 0, 1, 0, 0, 0), 0, []), (.iaload, (1, 0, 0, 0, 0, 0), 0, []), (.iconst 1, (1, 0, 0, 0, 0, 0), 1, []), (.isub, (1, 0, 0, 0, 0, 0), 0, []), (.i2l, (1, 0, 0, 0, 0, 0), 0, []), (.invokestatic 94, (3, 2, 127, 6, 3, 0), 5111, [])],
  [(.ifCond .ne 6, (3, 1, 8, 7, 0, 0), 0, [])],
  [(.bipush (-12), (2, 0, 0, 0, 0, 0), (-12), []), (.ireturn, (1, 3, 0, 0, 0, 0), 0, [])],
  [(.aload_n 0, (1, 0, 0, 0, 0, 0), 0, []), (.getfield 84, (3, 0, 10, 54, 4234, 1), 0, []), (.bipush 40, (2, 0, 0, 0, 0, 0), 40, []), (.iload_n 1, (1, 0, 1, 0, 0, 0), 0, []), (.imul, (1, 0, 0, 0, 0, 0), 0, []), (.iload_n 2, (1, 0, 2, 0, 0, 0), 0, []), (.iadd, (1, 0, 0, 0, 0, 0), 0, []), (.aload_n 0, (1, 0, 0, 0, 0, 0), 0, []), (.getfield 78, (3, 0, 10, 52, 4232, 1), 0, []), (.iload_n 1, (1, 0, 1, 0, 0, 0), 0, []), (.iaload, (1, 0, 0, 0, 0, 0), 0, []), (.ifCond .ne 8, (3, 1, 10, 9, 0, 0), 0, [])],
  [(.iload_n 3, (1, 0, 3, 0, 0, 0), 0, []), (.i2b, (1, 0, 0, 0, 0, 0), 0, []), (.goto 19, (3, 1, 13, 0, 0, 0), 0, [])],
  [(.aload_n 0, (1, 0, 0, 0, 0, 0), 0, []), (.getfield 78, (3, 0, 10, 52, 4232, 1), 0, []), (.iload_n 1, (1, 0, 1, 0, 0, 0), 0, []), (.iaload, (1, 0, 0, 0, 0, 0), 0, []), (.iconst 1, (1, 0, 0, 0, 0, 0), 1, []), (.if_icmp .ne 8, (3, 1, 12, 11, 0, 0), 0, [])],
  [(.iload_n 3, (1, 0, 3, 0, 0, 0), 0, []), (.i2s, (1, 0, 0, 0, 0, 0), 0, []), (.goto 4, (3, 1, 13, 0, 0, 0), 0, [])],
  [(.iload_n 3, (1, 0, 3, 0, 0, 0), 0, []), (.nop, (0, 1, 13, 0, 0, 0), 0, [])],
  [(.iastore, (1, 0, 0, 0, 0, 0), 0, []), (.iconst 1, (1, 0, 0, 0, 0, 0), 1, []), (.ireturn, (1, 3, 0, 0, 0, 0), 0, [])]]
/-- EvenlyPouredModel.copy(IIIII)I -/
noncomputable def bk_203 : List (List am_P) := [[(.iload_n 1, (1, 0, 1, 0, 0, 0), 0, []), (.invokestatic 357, (3, 2, 200, 1, 1, 0), 6131, [])],
  [(.ifCond .eq 10, (3, 1, 4, 2, 0, 0), 0, [])],
  [(.iload_n 3, (1, 0, 3, 0, 0, 0), 0, []), (.invokestatic 357, (3, 2, 200, 3, 1, 0), 6131, [])],
  [(.ifCond .ne 6, (3, 1, 5, 4, 0, 0), 0, [])],
  [(.bipush (-2), (2, 0, 0, 0, 0, 0), (-2), []), (.ireturn, (1, 3, 0, 0, 0, 0), 0, [])],
  [(.aload_n 0, (1, 0, 0, 0, 0, 0), 0, []), (.getfield 74, (3, 0, 10, 51, 4231, 1), 0, []), (.iload_n 1, (1, 0, 1, 0, 0, 0), 0, []), (.baload, (1, 0, 21, 0, 0, 0), 0, []), (.ifCond .eq 12, (3, 1, 7, 6, 0, 0), 0, [])],
  [(.aload_n 0, (1, 0, 0, 0, 0, 0), 0, []), (.getfield 74, (3, 0, 10, 51, 4231, 1), 0, []), (.iload_n 3, (1, 0, 3, 0, 0, 0), 0, []), (.baload, (1, 0, 21, 0, 0, 0), 0, []), (.ifCond .ne 6, (3, 1, 8, 7, 0, 0), 0, [])],
  [(.bipush (-11), (2, 0, 0, 0, 0, 0), (-11), []), (.ireturn, (1, 3, 0, 0, 0, 0), 0, [])],
  [(.aload_n 0, (1, 0, 0, 0, 0, 0), 0, []), (.getfield 78, (3, 0, 10, 52, 4232, 1), 0, []), (.iload_n 1, (1, 0, 1, 0, 0, 0), 0, []), (.iaload, (1, 0, 0, 0, 0, 0), 0, []), (.aload_n 0, (1, 0, 0, 0, 0, 0), 0, []), (.getfield 78, (3, 0, 10, 52, 4232, 1), 0, []), (.iload_n 3, (1, 0, 3, 0, 0, 0), 0, []), (.iaload, (1, 0, 0, 0, 0, 0), 0, []), (.if_icmp .eq 6, (3, 1, 10, 9, 0, 0), 0, [])],
  [(.bipush (-13), (2, 0, 0, 0, 0, 0), (-13), []), (.ireturn, (1, 3, 0, 0, 0, 0), 0, [])],
  [(.iload 5, (2, 0, 5, 0, 0, 0), 0, []), (.ifCond .lt 39, (3, 1, 15, 11, 0, 0), 0, [])],
  [(.iload_n 2, (1, 0, 2, 0, 0, 0), 0, []), (.ifCond .lt 35, (3, 1, 15, 12, 0, 0), 0, [])],
  [(.iload 4, (2, 0, 4, 0, 0, 0), 0, []), (.ifCond .lt 30, (3, 1, 15, 13, 0, 0), 0, [])],
  [(.iload_n 2, (1, 0, 2, 0, 0, 0), 0, []), (.aload_n 0, (1, 0, 0, 0, 0, 0), 0, []), (.getfield 81, (3, 0, 10, 53, 4233, 1), 0, []), (.iload_n 1, (1, 0, 1, 0, 0, 0), 0, []), (.iaload, (1, 0, 0, 0, 0, 0), 0, []), (.iload 5, (2, 0, 5, 0, 0, 0), 0, []), (.isub, (1, 0, 0, 0, 0, 0), 0, []), (.if_icmp .gt 17, (3, 1, 15, 14, 0, 0), 0, [])],
  [(.iload 4, (2, 0, 4, 0, 0, 0), 0, []), (.aload_n 0, (1, 0, 0, 0, 0, 0), 0, []), (.getfield 81, (3, 0, 10, 53, 4233, 1), 0, []), (.iload_n 3, (1, 0, 3, 0, 0, 0), 0, []), (.iaload, (1, 0, 0, 0, 0, 0), 0, []), (.iload 5, (2, 0, 5, 0, 0, 0), 0, []), (.isub, (1, 0, 0, 0, 0, 0), 0, []), (.if_icmp .le 6, (3, 1, 16, 15, 0, 0), 0, [])],
  [(.bipush (-12), (2, 0, 0, 0, 0, 0), (-12), []), (.ireturn, (1, 3, 0, 0, 0, 0), 0, [])],
  [(.iload_n 1, (1, 0, 1, 0, 0, 0), 0, []), (.iload_n 3, (1, 0, 3, 0, 0, 0), 0, []), (.if_icmp .ne 13, (3, 1, 19, 17, 0, 0), 0, [])],
  [(.iload_n 2, (1, 0, 2, 0, 0, 0), 0, []), (.iload 4, (2, 0, 4, 0, 0, 0), 0, []), (.if_icmp .ge 7, (3, 1, 19, 18, 0, 0), 0, [])],
  [(.iconst 1, (1, 0, 0, 0, 0, 0), 1, []), (.goto 4, (3, 1, 20, 0, 0, 0), 0, [])],
  [(.iconst 0, (1, 0, 0, 0, 0, 0), 0, []), (.nop, (0, 1, 20, 0, 0, 0), 0, [])],
  [(.istore 6, (2, 0, 6, 0, 0, 0), 0, []), (.iconst 0, (1, 0, 0, 0, 0, 0), 0, []), (.istore 7, (2, 0, 7, 0, 0, 0), 0, []), (.nop, (0, 1, 21, 0, 0, 0), 0, [])],
  [(.iload 7, (2, 0, 7, 0, 0, 0), 0, []), (.iload 5, (2, 0, 5, 0, 0, 0), 0, []), (.if_icmp .ge 57, (3, 1, 26, 22, 0, 0), 0, [])],
  [(.iload 6, (2, 0, 6, 0, 0, 0), 0, []), (.ifCond .eq 13, (3, 1, 24, 23, 0, 0), 0, [])],
  [(.iload 5, (2, 0, 5, 0, 0, 0), 0, []), (.iconst 1, (1, 0, 0, 0, 0, 0), 1, []), (.isub, (1, 0, 0, 0, 0, 0), 0, []), (.iload 7, (2, 0, 7, 0, 0, 0), 0, []), (.isub, (1, 0, 0, 0, 0, 0), 0, []), (.goto 5, (3, 1, 25, 0, 0, 0), 0, [])],
  [(.iload 7, (2, 0, 7, 0, 0, 0), 0, []), (.nop, (0, 1, 25, 0, 0, 0), 0, [])],
  [(.istore 8, (2, 0, 8, 0, 0, 0), 0, []), (.aload_n 0, (1, 0, 0, 0, 0, 0), 0, []), (.getfield 84, (3, 0, 10, 54, 4234, 1), 0, []), (.bipush 40, (2, 0, 0, 0, 0, 0), 40, []), (.iload_n 3, (1, 0, 3, 0, 0, 0), 0, []), (.imul, (1, 0, 0, 0, 0, 0), 0, []), (.iload 4, (2, 0, 4, 0, 0, 0), 0, []), (.iadd, (1, 0, 0, 0, 0, 0), 0, []), (.iload 8, (2, 0, 8, 0, 0, 0), 0, []), (.iadd, (1, 0, 0, 0, 0, 0), 0, []), (.aload_n 0, (1, 0, 0, 0, 0, 0), 0, []), (.getfield 84, (3, 0, 10, 54, 4234, 1), 0, []), (.bipush 40, (2, 0, 0, 0, 0, 0), 40, []), (.iload_n 1, (1, 0, 1, 0, 0, 0), 0, []), (.imul, (1, 0, 0, 0, 0, 0), 0, []), (.iload_n 2, (1, 0, 2, 0, 0, 0), 0, []), (.iadd, (1, 0, 0, 0, 0, 0), 0, []), (.iload 8, (2, 0, 8, 0, 0, 0), 0, []), (.iadd, (1, 0, 0, 0, 0, 0), 0, []), (.iaload, (1, 0, 0, 0, 0, 0), 0, []), (.iastore, (1, 0, 0, 0, 0, 0), 0, []), (.iinc 7 1, (3, 0, 7, 0, 0, 0), 1, []), (.goto (-58), (3, 1, 21, 0, 0, 0), 0, [])],
  [(.iload 5, (2, 0, 5, 0, 0, 0), 0, []), (.ireturn, (1, 3, 0, 0, 0, 0), 0, [])]]
/-- EvenlyPouredModel.rows(IIII)I -/
noncomputable def bk_204 : List (List am_P) := [[(.iload_n 1, (1, 0, 1, 0, 0, 0), 0, []), (.invokestatic 357, (3, 2, 200, 1, 1, 0), 6131, [])],
  [(.ifCond .eq 28, (3, 1, 6, 2, 0, 0), 0, [])],
  [(.iload_n 2, (1, 0, 2, 0, 0, 0), 0, []), (.i2l, (1, 0, 0, 0, 0, 0), 0, []), (.lconst 0, (1, 0, 0, 0, 0, 0), 0, []), (.ldc2_w 117, (3, 0, 2, 0, 5127, 0), 0, []), (.invokestatic 94, (3, 2, 127, 3, 3, 0), 5111, [])],
  [(.ifCond .eq 16, (3, 1, 6, 4, 0, 0), 0, [])],
  [(.iload 4, (2, 0, 4, 0, 0, 0), 0, []), (.i2l, (1, 0, 0, 0, 0, 0), 0, []), (.lconst 0, (1, 0, 0, 0, 0, 0), 0, []), (.ldc2_w 111, (3, 0, 24, 0, 5120, 0), 0, []), (.invokestatic 94, (3, 2, 127, 5, 3, 0), 5111, [])],
  [(.ifCond .ne 6, (3, 1, 7, 6, 0, 0), 0, [])],
  [(.bipush (-2), (2, 0, 0, 0, 0, 0), (-2), []), (.ireturn, (1, 3, 0, 0, 0, 0), 0, [])],
  [(.aload_n 0, (1, 0, 0, 0, 0, 0), 0, []), (.getfield 74, (3, 0, 10, 51, 4231, 1), 0, []), (.iload_n 1, (1, 0, 1, 0, 0, 0), 0, []), (.baload, (1, 0, 21, 0, 0, 0), 0, []), (.ifCond .eq 16, (3, 1, 10, 8, 0, 0), 0, [])],
  [(.aload_n 0, (1, 0, 0, 0, 0, 0), 0, []), (.getfield 78, (3, 0, 10, 52, 4232, 1), 0, []), (.iload_n 1, (1, 0, 1, 0, 0, 0), 0, []), (.iaload, (1, 0, 0, 0, 0, 0), 0, []), (.iload_n 2, (1, 0, 2, 0, 0, 0), 0, []), (.if_icmp .eq 6, (3, 1, 10, 9, 0, 0), 0, [])],
  [(.bipush (-13), (2, 0, 0, 0, 0, 0), (-13), []), (.ireturn, (1, 3, 0, 0, 0, 0), 0, [])],
  [(.aload_n 0, (1, 0, 0, 0, 0, 0), 0, []), (.getfield 74, (3, 0, 10, 51, 4231, 1), 0, []), (.iload_n 1, (1, 0, 1, 0, 0, 0), 0, []), (.baload, (1, 0, 21, 0, 0, 0), 0, []), (.ifCond .ne 6, (3, 1, 12, 11, 0, 0), 0, [])],
  [(.bipush (-11), (2, 0, 0, 0, 0, 0), (-11), []), (.ireturn, (1, 3, 0, 0, 0, 0), 0, [])],
  [(.iconst 0, (1, 0, 0, 0, 0, 0), 0, []), (.istore 5, (2, 0, 5, 0, 0, 0), 0, []), (.iconst 0, (1, 0, 0, 0, 0, 0), 0, []), (.istore 6, (2, 0, 6, 0, 0, 0), 0, []), (.nop, (0, 1, 13, 0, 0, 0), 0, [])],
  [(.iload 6, (2, 0, 6, 0, 0, 0), 0, []), (.iload 4, (2, 0, 4, 0, 0, 0), 0, []), (.if_icmp .ge 64, (3, 1, 22, 14, 0, 0), 0, [])],
  [(.iload_n 3, (1, 0, 3, 0, 0, 0), 0, []), (.ifCond .lt 18, (3, 1, 16, 15, 0, 0), 0, [])],
  [(.iload_n 3, (1, 0, 3, 0, 0, 0), 0, []), (.aload_n 0, (1, 0, 0, 0, 0, 0), 0, []), (.getfield 81, (3, 0, 10, 53, 4233, 1), 0, []), (.iload_n 1, (1, 0, 1, 0, 0, 0), 0, []), (.iaload, (1, 0, 0, 0, 0, 0), 0, []), (.iload 6, (2, 0, 6, 0, 0, 0), 0, []), (.isub, (1, 0, 0, 0, 0, 0), 0, []), (.iconst 1, (1, 0, 0, 0, 0, 0), 1, []), (.isub, (1, 0, 0, 0, 0, 0), 0, []), (.if_icmp .le 6, (3, 1, 17, 16, 0, 0), 0, [])],
  [(.bipush (-12), (2, 0, 0, 0, 0, 0), (-12), []), (.ireturn, (1, 3, 0, 0, 0, 0), 0, [])],
  [(.iload 5, (2, 0, 5, 0, 0, 0), 0, []), (.aload_n 0, (1, 0, 0, 0, 0, 0), 0, []), (.iload 6, (2, 0, 6, 0, 0, 0), 0, []), (.aload_n 0, (1, 0, 0, 0, 0, 0), 0, []), (.getfield 84, (3, 0, 10, 54, 4234, 1), 0, []), (.bipush 40, (2, 0, 0, 0, 0, 0), 40, []), (.iload_n 1, (1, 0, 1, 0, 0, 0), 0, []), (.imul, (1, 0, 0, 0, 0, 0), 0, []), (.iload_n 3, (1, 0, 3, 0, 0, 0), 0, []), (.iadd, (1, 0, 0, 0, 0, 0), 0, []), (.iload 6, (2, 0, 6, 0, 0, 0), 0, []), (.iadd, (1, 0, 0, 0, 0, 0), 0, []), (.iaload, (1, 0, 0, 0, 0, 0), 0, []), (.invokevirtual 378, (3, 2, 135, 18, 3, 11), 6188, [])],
  [(.ifCond .lt 7, (3, 1, 20, 19, 0, 0), 0, [])],
  [(.iconst 1, (1, 0, 0, 0, 0, 0), 1, []), (.goto 4, (3, 1, 21, 0, 0, 0), 0, [])],
  [(.iconst 0, (1, 0, 0, 0, 0, 0), 0, []), (.nop, (0, 1, 21, 0, 0, 0), 0, [])],
  [(.iadd, (1, 0, 0, 0, 0, 0), 0, []), (.istore 5, (2, 0, 5, 0, 0, 0), 0, []), (.iinc 6 1, (3, 0, 6, 0, 0, 0), 1, []), (.goto (-65), (3, 1, 13, 0, 0, 0), 0, [])],
  [(.iload 5, (2, 0, 5, 0, 0, 0), 0, []), (.ireturn, (1, 3, 0, 0, 0, 0), 0, [])]]
/-- EvenlyPouredModel.over(I)I -/
noncomputable def bk_205 : List (List am_P) := [[(.iload_n 0, (1, 0, 0, 0, 0, 0), 0, []), (.ifCond .ne 7, (3, 1, 2, 1, 0, 0), 0, [])],
  [(.iconst (-1), (1, 0, 0, 0, 0, 0), (-1), []), (.goto 27, (3, 1, 8, 0, 0, 0), 0, [])],
  [(.iload_n 0, (1, 0, 0, 0, 0, 0), 0, []), (.iconst 4, (1, 0, 0, 0, 0, 0), 4, []), (.if_icmp .ne 7, (3, 1, 4, 3, 0, 0), 0, [])],
  [(.iconst 2, (1, 0, 0, 0, 0, 0), 2, []), (.goto 18, (3, 1, 8, 0, 0, 0), 0, [])],
  [(.iload_n 0, (1, 0, 0, 0, 0, 0), 0, []), (.iconst 3, (1, 0, 0, 0, 0, 0), 3, []), (.if_icmp .eq 8, (3, 1, 6, 5, 0, 0), 0, [])],
  [(.iload_n 0, (1, 0, 0, 0, 0, 0), 0, []), (.iconst 5, (1, 0, 0, 0, 0, 0), 5, []), (.if_icmp .ne 7, (3, 1, 7, 6, 0, 0), 0, [])],
  [(.iconst 1, (1, 0, 0, 0, 0, 0), 1, []), (.goto 4, (3, 1, 8, 0, 0, 0), 0, [])],
  [(.iconst 0, (1, 0, 0, 0, 0, 0), 0, []), (.nop, (0, 1, 8, 0, 0, 0), 0, [])],
  [(.ireturn, (1, 3, 0, 0, 0, 0), 0, [])]]
/-- EvenlyPouredModel.taken(II)I -/
noncomputable def bk_206 : List (List am_P) := [[(.iload_n 2, (1, 0, 2, 0, 0, 0), 0, []), (.i2l, (1, 0, 0, 0, 0, 0), 0, []), (.lconst 0, (1, 0, 0, 0, 0, 0), 0, []), (.ldc2_w 122, (3, 0, 5, 0, 5144, 0), 0, []), (.invokestatic 94, (3, 2, 127, 1, 3, 0), 5111, [])],
  [(.ifCond .ne 6, (3, 1, 3, 2, 0, 0), 0, [])],
  [(.bipush (-2), (2, 0, 0, 0, 0, 0), (-2), []), (.ireturn, (1, 3, 0, 0, 0, 0), 0, [])],
  [(.aload_n 0, (1, 0, 0, 0, 0, 0), 0, []), (.iload_n 1, (1, 0, 1, 0, 0, 0), 0, []), (.invokevirtual 103, (3, 2, 132, 4, 2, 11), 5114, [])],
  [(.ifCond .ne 6, (3, 1, 6, 5, 0, 0), 0, [])],
  [(.bipush (-11), (2, 0, 0, 0, 0, 0), (-11), []), (.ireturn, (1, 3, 0, 0, 0, 0), 0, [])],
  [(.aload_n 0, (1, 0, 0, 0, 0, 0), 0, []), (.getfield 32, (3, 0, 10, 10, 4190, 1), 0, []), (.iload_n 1, (1, 0, 1, 0, 0, 0), 0, []), (.iaload, (1, 0, 0, 0, 0, 0), 0, []), (.istore_n 3, (1, 0, 3, 0, 0, 0), 0, []), (.nop, (0, 1, 7, 0, 0, 0), 0, [])],
  [(.iload_n 3, (1, 0, 3, 0, 0, 0), 0, []), (.iconst (-1), (1, 0, 0, 0, 0, 0), (-1), []), (.if_icmp .eq 16, (3, 1, 11, 8, 0, 0), 0, [])],
  [(.iload_n 3, (1, 0, 3, 0, 0, 0), 0, []), (.iload_n 2, (1, 0, 2, 0, 0, 0), 0, []), (.if_icmp .eq 11, (3, 1, 11, 9, 0, 0), 0, [])],
  [(.iload_n 3, (1, 0, 3, 0, 0, 0), 0, []), (.invokestatic 381, (3, 2, 205, 10, 1, 0), 6193, [])],
  [(.istore_n 3, (1, 0, 3, 0, 0, 0), 0, []), (.goto (-15), (3, 1, 7, 0, 0, 0), 0, [])],
  [(.iload_n 3, (1, 0, 3, 0, 0, 0), 0, []), (.iload_n 2, (1, 0, 2, 0, 0, 0), 0, []), (.if_icmp .ne 12, (3, 1, 13, 12, 0, 0), 0, [])],
  [(.aload_n 0, (1, 0, 0, 0, 0, 0), 0, []), (.getfield 35, (3, 0, 10, 11, 4191, 1), 0, []), (.iload_n 1, (1, 0, 1, 0, 0, 0), 0, []), (.iaload, (1, 0, 0, 0, 0, 0), 0, []), (.goto 5, (3, 1, 14, 0, 0, 0), 0, [])],
  [(.bipush (-13), (2, 0, 0, 0, 0, 0), (-13), []), (.nop, (0, 1, 14, 0, 0, 0), 0, [])],
  [(.ireturn, (1, 3, 0, 0, 0, 0), 0, [])]]
/-- EvenlyPouredLaw.law([I)Z -/
noncomputable def bk_207 : List (List am_P) := [[(.new 7, (3, 0, 9, 18, 1019, 0), 0, []), (.dup, (1, 0, 0, 0, 0, 0), 0, []), (.invokespecial 9, (3, 2, 66, 1, 1, 0), 1021, [])],
  [(.astore_n 1, (1, 0, 1, 0, 0, 0), 0, []), (.new 10, (3, 0, 10, 55, 4171, 0), 0, []), (.dup, (1, 0, 0, 0, 0, 0), 0, []), (.invokespecial 12, (3, 2, 129, 2, 1, 0), 4173, [])],
  [(.astore_n 2, (1, 0, 2, 0, 0, 0), 0, []), (.iconst 0, (1, 0, 0, 0, 0, 0), 0, []), (.istore_n 3, (1, 0, 3, 0, 0, 0), 0, []), (.nop, (0, 1, 3, 0, 0, 0), 0, [])],
  [(.iload_n 3, (1, 0, 3, 0, 0, 0), 0, []), (.aload_n 0, (1, 0, 0, 0, 0, 0), 0, []), (.arraylength, (1, 0, 0, 0, 0, 0), 0, []), (.bipush 6, (2, 0, 0, 0, 0, 0), 6, []), (.isub, (1, 0, 0, 0, 0, 0), 0, []), (.if_icmp .gt 1106, (3, 1, 134, 4, 0, 0), 0, [])],
  [(.aload_n 0, (1, 0, 0, 0, 0, 0), 0, []), (.iload_n 3, (1, 0, 3, 0, 0, 0), 0, []), (.iaload, (1, 0, 0, 0, 0, 0), 0, []), (.bipush 31, (2, 0, 0, 0, 0, 0), 31, []), (.iand, (1, 0, 0, 0, 0, 0), 0, []), (.tableswitch 1091 0 31 #[143, 186, 219, 252, 275, 308, 331, 344, 367, 400, 423, 457, 480, 493, 516, 539, 572, 595, 618, 641, 674, 697, 720, 753, 807, 820, 833, 856, 899, 942, 1005, 1058], (143, 1, 0, 133, 0, 0), 0, [(0, 5), (1, 9), (2, 13), (3, 17), (4, 21), (5, 25), (6, 29), (7, 33), (8, 37), (9, 41), (10, 45), (11, 49), (12, 53), (13, 57), (14, 61), (15, 65), (16, 69), (17, 73), (18, 77), (19, 81), (20, 85), (21, 89), (22, 93), (23, 97), (24, 101), (25, 105), (26, 109), (27, 113), (28, 117), (29, 121), (30, 125), (31, 129)])],
  [(.aload_n 1, (1, 0, 1, 0, 0, 0), 0, []), (.aload_n 0, (1, 0, 0, 0, 0, 0), 0, []), (.iload_n 3, (1, 0, 3, 0, 0, 0), 0, []), (.iconst 1, (1, 0, 0, 0, 0, 0), 1, []), (.iadd, (1, 0, 0, 0, 0, 0), 0, []), (.iaload, (1, 0, 0, 0, 0, 0), 0, []), (.aload_n 0, (1, 0, 0, 0, 0, 0), 0, []), (.iload_n 3, (1, 0, 3, 0, 0, 0), 0, []), (.iconst 2, (1, 0, 0, 0, 0, 0), 2, []), (.iadd, (1, 0, 0, 0, 0, 0), 0, []), (.iaload, (1, 0, 0, 0, 0, 0), 0, []), (.aload_n 0, (1, 0, 0, 0, 0, 0), 0, []), (.iload_n 3, (1, 0, 3, 0, 0, 0), 0, []), (.iconst 3, (1, 0, 0, 0, 0, 0), 3, []), (.iadd, (1, 0, 0, 0, 0, 0), 0, []), (.iaload, (1, 0, 0, 0, 0, 0), 0, []), (.invokevirtual 13, (3, 2, 67, 6, 4, 10), 2099, [])],
  [(.aload_n 2, (1, 0, 2, 0, 0, 0), 0, []), (.aload_n 0, (1, 0, 0, 0, 0, 0), 0, []), (.iload_n 3, (1, 0, 3, 0, 0, 0), 0, []), (.iconst 1, (1, 0, 0, 0, 0, 0), 1, []), (.iadd, (1, 0, 0, 0, 0, 0), 0, []), (.iaload, (1, 0, 0, 0, 0, 0), 0, []), (.aload_n 0, (1, 0, 0, 0, 0, 0), 0, []), (.iload_n 3, (1, 0, 3, 0, 0, 0), 0, []), (.iconst 2, (1, 0, 0, 0, 0, 0), 2, []), (.iadd, (1, 0, 0, 0, 0, 0), 0, []), (.iaload, (1, 0, 0, 0, 0, 0), 0, []), (.aload_n 0, (1, 0, 0, 0, 0, 0), 0, []), (.iload_n 3, (1, 0, 3, 0, 0, 0), 0, []), (.iconst 3, (1, 0, 0, 0, 0, 0), 3, []), (.iadd, (1, 0, 0, 0, 0, 0), 0, []), (.iaload, (1, 0, 0, 0, 0, 0), 0, []), (.invokevirtual 17, (3, 2, 133, 7, 4, 11), 5106, [])],
  [(.if_icmp .eq 910, (3, 1, 133, 8, 0, 0), 0, [])],
  [(.iconst 0, (1, 0, 0, 0, 0, 0), 0, []), (.ireturn, (1, 3, 0, 0, 0, 1), 0, [])],
  [(.aload_n 1, (1, 0, 1, 0, 0, 0), 0, []), (.aload_n 0, (1, 0, 0, 0, 0, 0), 0, []), (.iload_n 3, (1, 0, 3, 0, 0, 0), 0, []), (.iconst 1, (1, 0, 0, 0, 0, 0), 1, []), (.iadd, (1, 0, 0, 0, 0, 0), 0, []), (.iaload, (1, 0, 0, 0, 0, 0), 0, []), (.aload_n 0, (1, 0, 0, 0, 0, 0), 0, []), (.iload_n 3, (1, 0, 3, 0, 0, 0), 0, []), (.iconst 2, (1, 0, 0, 0, 0, 0), 2, []), (.iadd, (1, 0, 0, 0, 0, 0), 0, []), (.iaload, (1, 0, 0, 0, 0, 0), 0, []), (.invokevirtual 18, (3, 2, 72, 10, 3, 10), 2129, [])],
  [(.aload_n 2, (1, 0, 2, 0, 0, 0), 0, []), (.aload_n 0, (1, 0, 0, 0, 0, 0), 0, []), (.iload_n 3, (1, 0, 3, 0, 0, 0), 0, []), (.iconst 1, (1, 0, 0, 0, 0, 0), 1, []), (.iadd, (1, 0, 0, 0, 0, 0), 0, []), (.iaload, (1, 0, 0, 0, 0, 0), 0, []), (.aload_n 0, (1, 0, 0, 0, 0, 0), 0, []), (.iload_n 3, (1, 0, 3, 0, 0, 0), 0, []), (.iconst 2, (1, 0, 0, 0, 0, 0), 2, []), (.iadd, (1, 0, 0, 0, 0, 0), 0, []), (.iaload, (1, 0, 0, 0, 0, 0), 0, []), (.invokevirtual 22, (3, 2, 134, 11, 3, 11), 5123, [])],
  [(.if_icmp .eq 877, (3, 1, 133, 12, 0, 0), 0, [])],
  [(.iconst 0, (1, 0, 0, 0, 0, 0), 0, []), (.ireturn, (1, 3, 0, 0, 0, 1), 0, [])],
  [(.aload_n 1, (1, 0, 1, 0, 0, 0), 0, []), (.aload_n 0, (1, 0, 0, 0, 0, 0), 0, []), (.iload_n 3, (1, 0, 3, 0, 0, 0), 0, []), (.iconst 1, (1, 0, 0, 0, 0, 0), 1, []), (.iadd, (1, 0, 0, 0, 0, 0), 0, []), (.iaload, (1, 0, 0, 0, 0, 0), 0, []), (.aload_n 0, (1, 0, 0, 0, 0, 0), 0, []), (.iload_n 3, (1, 0, 3, 0, 0, 0), 0, []), (.iconst 2, (1, 0, 0, 0, 0, 0), 2, []), (.iadd, (1, 0, 0, 0, 0, 0), 0, []), (.iaload, (1, 0, 0, 0, 0, 0), 0, []), (.invokevirtual 23, (3, 2, 73, 14, 3, 10), 2133, [])],
  [(.aload_n 2, (1, 0, 2, 0, 0, 0), 0, []), (.aload_n 0, (1, 0, 0, 0, 0, 0), 0, []), (.iload_n 3, (1, 0, 3, 0, 0, 0), 0, []), (.iconst 1, (1, 0, 0, 0, 0, 0), 1, []), (.iadd, (1, 0, 0, 0, 0, 0), 0, []), (.iaload, (1, 0, 0, 0, 0, 0), 0, []), (.aload_n 0, (1, 0, 0, 0, 0, 0), 0, []), (.iload_n 3, (1, 0, 3, 0, 0, 0), 0, []), (.iconst 2, (1, 0, 0, 0, 0, 0), 2, []), (.iadd, (1, 0, 0, 0, 0, 0), 0, []), (.iaload, (1, 0, 0, 0, 0, 0), 0, []), (.invokevirtual 26, (3, 2, 135, 15, 3, 11), 5128, [])],
  [(.if_icmp .eq 844, (3, 1, 133, 16, 0, 0), 0, [])],
  [(.iconst 0, (1, 0, 0, 0, 0, 0), 0, []), (.ireturn, (1, 3, 0, 0, 0, 1), 0, [])],
  [(.aload_n 1, (1, 0, 1, 0, 0, 0), 0, []), (.aload_n 0, (1, 0, 0, 0, 0, 0), 0, []), (.iload_n 3, (1, 0, 3, 0, 0, 0), 0, []), (.iconst 1, (1, 0, 0, 0, 0, 0), 1, []), (.iadd, (1, 0, 0, 0, 0, 0), 0, []), (.iaload, (1, 0, 0, 0, 0, 0), 0, []), (.invokevirtual 27, (3, 2, 74, 18, 2, 10), 2145, [])],
  [(.aload_n 2, (1, 0, 2, 0, 0, 0), 0, []), (.aload_n 0, (1, 0, 0, 0, 0, 0), 0, []), (.iload_n 3, (1, 0, 3, 0, 0, 0), 0, []), (.iconst 1, (1, 0, 0, 0, 0, 0), 1, []), (.iadd, (1, 0, 0, 0, 0, 0), 0, []), (.iaload, (1, 0, 0, 0, 0, 0), 0, []), (.invokevirtual 31, (3, 2, 136, 19, 2, 11), 5136, [])],
  [(.if_icmp .eq 821, (3, 1, 133, 20, 0, 0), 0, [])],
  [(.iconst 0, (1, 0, 0, 0, 0, 0), 0, []), (.ireturn, (1, 3, 0, 0, 0, 1), 0, [])],
  [(.aload_n 1, (1, 0, 1, 0, 0, 0), 0, []), (.aload_n 0, (1, 0, 0, 0, 0, 0), 0, []), (.iload_n 3, (1, 0, 3, 0, 0, 0), 0, []), (.iconst 1, (1, 0, 0, 0, 0, 0), 1, []), (.iadd, (1, 0, 0, 0, 0, 0), 0, []), (.iaload, (1, 0, 0, 0, 0, 0), 0, []), (.aload_n 0, (1, 0, 0, 0, 0, 0), 0, []), (.iload_n 3, (1, 0, 3, 0, 0, 0), 0, []), (.iconst 2, (1, 0, 0, 0, 0, 0), 2, []), (.iadd, (1, 0, 0, 0, 0, 0), 0, []), (.iaload, (1, 0, 0, 0, 0, 0), 0, []), (.invokevirtual 32, (3, 2, 75, 22, 3, 10), 2149, [])],
  [(.aload_n 2, (1, 0, 2, 0, 0, 0), 0, []), (.aload_n 0, (1, 0, 0, 0, 0, 0), 0, []), (.iload_n 3, (1, 0, 3, 0, 0, 0), 0, []), (.iconst 1, (1, 0, 0, 0, 0, 0), 1, []), (.iadd, (1, 0, 0, 0, 0, 0), 0, []), (.iaload, (1, 0, 0, 0, 0, 0), 0, []), (.aload_n 0, (1, 0, 0, 0, 0, 0), 0, []), (.iload_n 3, (1, 0, 3, 0, 0, 0), 0, []), (.iconst 2, (1, 0, 0, 0, 0, 0), 2, []), (.iadd, (1, 0, 0, 0, 0, 0), 0, []), (.iaload, (1, 0, 0, 0, 0, 0), 0, []), (.invokevirtual 35, (3, 2, 137, 23, 3, 11), 5140, [])],
  [(.if_icmp .eq 788, (3, 1, 133, 24, 0, 0), 0, [])],
  [(.iconst 0, (1, 0, 0, 0, 0, 0), 0, []), (.ireturn, (1, 3, 0, 0, 0, 1), 0, [])],
  [(.aload_n 1, (1, 0, 1, 0, 0, 0), 0, []), (.aload_n 0, (1, 0, 0, 0, 0, 0), 0, []), (.iload_n 3, (1, 0, 3, 0, 0, 0), 0, []), (.iconst 1, (1, 0, 0, 0, 0, 0), 1, []), (.iadd, (1, 0, 0, 0, 0, 0), 0, []), (.iaload, (1, 0, 0, 0, 0, 0), 0, []), (.invokevirtual 36, (3, 2, 81, 26, 2, 10), 2156, [])],
  [(.aload_n 2, (1, 0, 2, 0, 0, 0), 0, []), (.aload_n 0, (1, 0, 0, 0, 0, 0), 0, []), (.iload_n 3, (1, 0, 3, 0, 0, 0), 0, []), (.iconst 1, (1, 0, 0, 0, 0, 0), 1, []), (.iadd, (1, 0, 0, 0, 0, 0), 0, []), (.iaload, (1, 0, 0, 0, 0, 0), 0, []), (.invokevirtual 39, (3, 2, 138, 27, 2, 11), 5145, [])],
  [(.if_icmp .eq 765, (3, 1, 133, 28, 0, 0), 0, [])],
  [(.iconst 0, (1, 0, 0, 0, 0, 0), 0, []), (.ireturn, (1, 3, 0, 0, 0, 1), 0, [])],
  [(.aload_n 1, (1, 0, 1, 0, 0, 0), 0, []), (.invokevirtual 40, (3, 2, 82, 30, 1, 10), 2160, [])],
  [(.aload_n 2, (1, 0, 2, 0, 0, 0), 0, []), (.invokevirtual 44, (3, 2, 155, 31, 1, 11), 5150, [])],
  [(.if_icmp .eq 752, (3, 1, 133, 32, 0, 0), 0, [])],
  [(.iconst 0, (1, 0, 0, 0, 0, 0), 0, []), (.ireturn, (1, 3, 0, 0, 0, 1), 0, [])],
  [(.aload_n 1, (1, 0, 1, 0, 0, 0), 0, []), (.aload_n 0, (1, 0, 0, 0, 0, 0), 0, []), (.iload_n 3, (1, 0, 3, 0, 0, 0), 0, []), (.iconst 1, (1, 0, 0, 0, 0, 0), 1, []), (.iadd, (1, 0, 0, 0, 0, 0), 0, []), (.iaload, (1, 0, 0, 0, 0, 0), 0, []), (.invokevirtual 45, (3, 2, 83, 34, 2, 10), 3068, [])],
  [(.aload_n 2, (1, 0, 2, 0, 0, 0), 0, []), (.aload_n 0, (1, 0, 0, 0, 0, 0), 0, []), (.iload_n 3, (1, 0, 3, 0, 0, 0), 0, []), (.iconst 1, (1, 0, 0, 0, 0, 0), 1, []), (.iadd, (1, 0, 0, 0, 0, 0), 0, []), (.iaload, (1, 0, 0, 0, 0, 0), 0, []), (.invokevirtual 48, (3, 2, 156, 35, 2, 11), 5225, [])],
  [(.if_icmp .eq 729, (3, 1, 133, 36, 0, 0), 0, [])],
  [(.iconst 0, (1, 0, 0, 0, 0, 0), 0, []), (.ireturn, (1, 3, 0, 0, 0, 1), 0, [])],
  [(.aload_n 1, (1, 0, 1, 0, 0, 0), 0, []), (.aload_n 0, (1, 0, 0, 0, 0, 0), 0, []), (.iload_n 3, (1, 0, 3, 0, 0, 0), 0, []), (.iconst 1, (1, 0, 0, 0, 0, 0), 1, []), (.iadd, (1, 0, 0, 0, 0, 0), 0, []), (.iaload, (1, 0, 0, 0, 0, 0), 0, []), (.aload_n 0, (1, 0, 0, 0, 0, 0), 0, []), (.iload_n 3, (1, 0, 3, 0, 0, 0), 0, []), (.iconst 2, (1, 0, 0, 0, 0, 0), 2, []), (.iadd, (1, 0, 0, 0, 0, 0), 0, []), (.iaload, (1, 0, 0, 0, 0, 0), 0, []), (.invokevirtual 49, (3, 2, 84, 38, 3, 10), 3072, [])],
  [(.aload_n 2, (1, 0, 2, 0, 0, 0), 0, []), (.aload_n 0, (1, 0, 0, 0, 0, 0), 0, []), (.iload_n 3, (1, 0, 3, 0, 0, 0), 0, []), (.iconst 1, (1, 0, 0, 0, 0, 0), 1, []), (.iadd, (1, 0, 0, 0, 0, 0), 0, []), (.iaload, (1, 0, 0, 0, 0, 0), 0, []), (.aload_n 0, (1, 0, 0, 0, 0, 0), 0, []), (.iload_n 3, (1, 0, 3, 0, 0, 0), 0, []), (.iconst 2, (1, 0, 0, 0, 0, 0), 2, []), (.iadd, (1, 0, 0, 0, 0, 0), 0, []), (.iaload, (1, 0, 0, 0, 0, 0), 0, []), (.invokevirtual 52, (3, 2, 166, 39, 3, 11), 5229, [])],
  [(.if_icmp .eq 696, (3, 1, 133, 40, 0, 0), 0, [])],
  [(.iconst 0, (1, 0, 0, 0, 0, 0), 0, []), (.ireturn, (1, 3, 0, 0, 0, 1), 0, [])],
  [(.aload_n 1, (1, 0, 1, 0, 0, 0), 0, []), (.aload_n 0, (1, 0, 0, 0, 0, 0), 0, []), (.iload_n 3, (1, 0, 3, 0, 0, 0), 0, []), (.iconst 1, (1, 0, 0, 0, 0, 0), 1, []), (.iadd, (1, 0, 0, 0, 0, 0), 0, []), (.iaload, (1, 0, 0, 0, 0, 0), 0, []), (.invokevirtual 53, (3, 2, 85, 42, 2, 10), 3135, [])],
  [(.aload_n 2, (1, 0, 2, 0, 0, 0), 0, []), (.aload_n 0, (1, 0, 0, 0, 0, 0), 0, []), (.iload_n 3, (1, 0, 3, 0, 0, 0), 0, []), (.iconst 1, (1, 0, 0, 0, 0, 0), 1, []), (.iadd, (1, 0, 0, 0, 0, 0), 0, []), (.iaload, (1, 0, 0, 0, 0, 0), 0, []), (.invokevirtual 56, (3, 2, 169, 43, 2, 11), 6027, [])],
  [(.if_icmp .eq 673, (3, 1, 133, 44, 0, 0), 0, [])],
  [(.iconst 0, (1, 0, 0, 0, 0, 0), 0, []), (.ireturn, (1, 3, 0, 0, 0, 1), 0, [])],
  [(.aload_n 1, (1, 0, 1, 0, 0, 0), 0, []), (.aload_n 0, (1, 0, 0, 0, 0, 0), 0, []), (.iload_n 3, (1, 0, 3, 0, 0, 0), 0, []), (.iconst 1, (1, 0, 0, 0, 0, 0), 1, []), (.iadd, (1, 0, 0, 0, 0, 0), 0, []), (.iaload, (1, 0, 0, 0, 0, 0), 0, []), (.aload_n 0, (1, 0, 0, 0, 0, 0), 0, []), (.iload_n 3, (1, 0, 3, 0, 0, 0), 0, []), (.iconst 2, (1, 0, 0, 0, 0, 0), 2, []), (.iadd, (1, 0, 0, 0, 0, 0), 0, []), (.iaload, (1, 0, 0, 0, 0, 0), 0, []), (.invokevirtual 57, (3, 2, 86, 46, 3, 10), 3168, [])],
  [(.aload_n 2, (1, 0, 2, 0, 0, 0), 0, []), (.aload_n 0, (1, 0, 0, 0, 0, 0), 0, []), (.iload_n 3, (1, 0, 3, 0, 0, 0), 0, []), (.iconst 1, (1, 0, 0, 0, 0, 0), 1, []), (.iadd, (1, 0, 0, 0, 0, 0), 0, []), (.iaload, (1, 0, 0, 0, 0, 0), 0, []), (.aload_n 0, (1, 0, 0, 0, 0, 0), 0, []), (.iload_n 3, (1, 0, 3, 0, 0, 0), 0, []), (.iconst 2, (1, 0, 0, 0, 0, 0), 2, []), (.iadd, (1, 0, 0, 0, 0, 0), 0, []), (.iaload, (1, 0, 0, 0, 0, 0), 0, []), (.invokevirtual 61, (3, 2, 171, 47, 3, 11), 6043, [])],
  [(.lcmp, (1, 0, 0, 0, 0, 0), 0, []), (.ifCond .eq 639, (3, 1, 133, 48, 0, 0), 0, [])],
  [(.iconst 0, (1, 0, 0, 0, 0, 0), 0, []), (.ireturn, (1, 3, 0, 0, 0, 1), 0, [])],
  [(.aload_n 1, (1, 0, 1, 0, 0, 0), 0, []), (.aload_n 0, (1, 0, 0, 0, 0, 0), 0, []), (.iload_n 3, (1, 0, 3, 0, 0, 0), 0, []), (.iconst 1, (1, 0, 0, 0, 0, 0), 1, []), (.iadd, (1, 0, 0, 0, 0, 0), 0, []), (.iaload, (1, 0, 0, 0, 0, 0), 0, []), (.invokevirtual 62, (3, 2, 87, 50, 2, 10), 3179, [])],
  [(.aload_n 2, (1, 0, 2, 0, 0, 0), 0, []), (.aload_n 0, (1, 0, 0, 0, 0, 0), 0, []), (.iload_n 3, (1, 0, 3, 0, 0, 0), 0, []), (.iconst 1, (1, 0, 0, 0, 0, 0), 1, []), (.iadd, (1, 0, 0, 0, 0, 0), 0, []), (.iaload, (1, 0, 0, 0, 0, 0), 0, []), (.invokevirtual 65, (3, 2, 178, 51, 2, 11), 6051, [])],
  [(.if_icmp .eq 616, (3, 1, 133, 52, 0, 0), 0, [])],
  [(.iconst 0, (1, 0, 0, 0, 0, 0), 0, []), (.ireturn, (1, 3, 0, 0, 0, 1), 0, [])],
  [(.aload_n 1, (1, 0, 1, 0, 0, 0), 0, []), (.invokevirtual 66, (3, 2, 88, 54, 1, 10), 3236, [])],
  [(.aload_n 2, (1, 0, 2, 0, 0, 0), 0, []), (.invokevirtual 69, (3, 2, 179, 55, 1, 11), 6081, [])],
  [(.if_icmp .eq 603, (3, 1, 133, 56, 0, 0), 0, [])],
  [(.iconst 0, (1, 0, 0, 0, 0, 0), 0, []), (.ireturn, (1, 3, 0, 0, 0, 1), 0, [])],
  [(.aload_n 1, (1, 0, 1, 0, 0, 0), 0, []), (.aload_n 0, (1, 0, 0, 0, 0, 0), 0, []), (.iload_n 3, (1, 0, 3, 0, 0, 0), 0, []), (.iconst 1, (1, 0, 0, 0, 0, 0), 1, []), (.iadd, (1, 0, 0, 0, 0, 0), 0, []), (.iaload, (1, 0, 0, 0, 0, 0), 0, []), (.invokevirtual 70, (3, 2, 89, 58, 2, 10), 4001, [])],
  [(.aload_n 2, (1, 0, 2, 0, 0, 0), 0, []), (.aload_n 0, (1, 0, 0, 0, 0, 0), 0, []), (.iload_n 3, (1, 0, 3, 0, 0, 0), 0, []), (.iconst 1, (1, 0, 0, 0, 0, 0), 1, []), (.iadd, (1, 0, 0, 0, 0, 0), 0, []), (.iaload, (1, 0, 0, 0, 0, 0), 0, []), (.invokevirtual 73, (3, 2, 180, 59, 2, 11), 6085, [])],
  [(.if_icmp .eq 580, (3, 1, 133, 60, 0, 0), 0, [])],
  [(.iconst 0, (1, 0, 0, 0, 0, 0), 0, []), (.ireturn, (1, 3, 0, 0, 0, 1), 0, [])],
  [(.aload_n 1, (1, 0, 1, 0, 0, 0), 0, []), (.aload_n 0, (1, 0, 0, 0, 0, 0), 0, []), (.iload_n 3, (1, 0, 3, 0, 0, 0), 0, []), (.iconst 1, (1, 0, 0, 0, 0, 0), 1, []), (.iadd, (1, 0, 0, 0, 0, 0), 0, []), (.iaload, (1, 0, 0, 0, 0, 0), 0, []), (.invokevirtual 74, (3, 2, 90, 62, 2, 10), 4010, [])],
  [(.aload_n 2, (1, 0, 2, 0, 0, 0), 0, []), (.aload_n 0, (1, 0, 0, 0, 0, 0), 0, []), (.iload_n 3, (1, 0, 3, 0, 0, 0), 0, []), (.iconst 1, (1, 0, 0, 0, 0, 0), 1, []), (.iadd, (1, 0, 0, 0, 0, 0), 0, []), (.iaload, (1, 0, 0, 0, 0, 0), 0, []), (.invokevirtual 77, (3, 2, 181, 63, 2, 11), 6090, [])],
  [(.if_icmp .eq 557, (3, 1, 133, 64, 0, 0), 0, [])],
  [(.iconst 0, (1, 0, 0, 0, 0, 0), 0, []), (.ireturn, (1, 3, 0, 0, 0, 1), 0, [])],
  [(.aload_n 1, (1, 0, 1, 0, 0, 0), 0, []), (.aload_n 0, (1, 0, 0, 0, 0, 0), 0, []), (.iload_n 3, (1, 0, 3, 0, 0, 0), 0, []), (.iconst 1, (1, 0, 0, 0, 0, 0), 1, []), (.iadd, (1, 0, 0, 0, 0, 0), 0, []), (.iaload, (1, 0, 0, 0, 0, 0), 0, []), (.aload_n 0, (1, 0, 0, 0, 0, 0), 0, []), (.iload_n 3, (1, 0, 3, 0, 0, 0), 0, []), (.iconst 2, (1, 0, 0, 0, 0, 0), 2, []), (.iadd, (1, 0, 0, 0, 0, 0), 0, []), (.iaload, (1, 0, 0, 0, 0, 0), 0, []), (.invokevirtual 78, (3, 2, 101, 66, 3, 10), 4018, [])],
  [(.aload_n 2, (1, 0, 2, 0, 0, 0), 0, []), (.aload_n 0, (1, 0, 0, 0, 0, 0), 0, []), (.iload_n 3, (1, 0, 3, 0, 0, 0), 0, []), (.iconst 1, (1, 0, 0, 0, 0, 0), 1, []), (.iadd, (1, 0, 0, 0, 0, 0), 0, []), (.iaload, (1, 0, 0, 0, 0, 0), 0, []), (.aload_n 0, (1, 0, 0, 0, 0, 0), 0, []), (.iload_n 3, (1, 0, 3, 0, 0, 0), 0, []), (.iconst 2, (1, 0, 0, 0, 0, 0), 2, []), (.iadd, (1, 0, 0, 0, 0, 0), 0, []), (.iaload, (1, 0, 0, 0, 0, 0), 0, []), (.invokevirtual 81, (3, 2, 186, 67, 3, 11), 6094, [])],
  [(.if_icmp .eq 524, (3, 1, 133, 68, 0, 0), 0, [])],
  [(.iconst 0, (1, 0, 0, 0, 0, 0), 0, []), (.ireturn, (1, 3, 0, 0, 0, 1), 0, [])],
  [(.aload_n 1, (1, 0, 1, 0, 0, 0), 0, []), (.aload_n 0, (1, 0, 0, 0, 0, 0), 0, []), (.iload_n 3, (1, 0, 3, 0, 0, 0), 0, []), (.iconst 1, (1, 0, 0, 0, 0, 0), 1, []), (.iadd, (1, 0, 0, 0, 0, 0), 0, []), (.iaload, (1, 0, 0, 0, 0, 0), 0, []), (.invokevirtual 82, (3, 2, 102, 70, 2, 10), 4040, [])],
  [(.aload_n 2, (1, 0, 2, 0, 0, 0), 0, []), (.aload_n 0, (1, 0, 0, 0, 0, 0), 0, []), (.iload_n 3, (1, 0, 3, 0, 0, 0), 0, []), (.iconst 1, (1, 0, 0, 0, 0, 0), 1, []), (.iadd, (1, 0, 0, 0, 0, 0), 0, []), (.iaload, (1, 0, 0, 0, 0, 0), 0, []), (.invokevirtual 85, (3, 2, 187, 71, 2, 11), 6115, [])],
  [(.if_icmp .eq 501, (3, 1, 133, 72, 0, 0), 0, [])],
  [(.iconst 0, (1, 0, 0, 0, 0, 0), 0, []), (.ireturn, (1, 3, 0, 0, 0, 1), 0, [])],
  [(.aload_n 1, (1, 0, 1, 0, 0, 0), 0, []), (.aload_n 0, (1, 0, 0, 0, 0, 0), 0, []), (.iload_n 3, (1, 0, 3, 0, 0, 0), 0, []), (.iconst 1, (1, 0, 0, 0, 0, 0), 1, []), (.iadd, (1, 0, 0, 0, 0, 0), 0, []), (.iaload, (1, 0, 0, 0, 0, 0), 0, []), (.invokevirtual 86, (3, 2, 103, 74, 2, 10), 4044, [])],
  [(.aload_n 2, (1, 0, 2, 0, 0, 0), 0, []), (.aload_n 0, (1, 0, 0, 0, 0, 0), 0, []), (.iload_n 3, (1, 0, 3, 0, 0, 0), 0, []), (.iconst 1, (1, 0, 0, 0, 0, 0), 1, []), (.iadd, (1, 0, 0, 0, 0, 0), 0, []), (.iaload, (1, 0, 0, 0, 0, 0), 0, []), (.invokevirtual 89, (3, 2, 188, 75, 2, 11), 6119, [])],
  [(.if_icmp .eq 478, (3, 1, 133, 76, 0, 0), 0, [])],
  [(.iconst 0, (1, 0, 0, 0, 0, 0), 0, []), (.ireturn, (1, 3, 0, 0, 0, 1), 0, [])],
  [(.aload_n 1, (1, 0, 1, 0, 0, 0), 0, []), (.aload_n 0, (1, 0, 0, 0, 0, 0), 0, []), (.iload_n 3, (1, 0, 3, 0, 0, 0), 0, []), (.iconst 1, (1, 0, 0, 0, 0, 0), 1, []), (.iadd, (1, 0, 0, 0, 0, 0), 0, []), (.iaload, (1, 0, 0, 0, 0, 0), 0, []), (.invokevirtual 90, (3, 2, 105, 78, 2, 10), 4048, [])],
  [(.aload_n 2, (1, 0, 2, 0, 0, 0), 0, []), (.aload_n 0, (1, 0, 0, 0, 0, 0), 0, []), (.iload_n 3, (1, 0, 3, 0, 0, 0), 0, []), (.iconst 1, (1, 0, 0, 0, 0, 0), 1, []), (.iadd, (1, 0, 0, 0, 0, 0), 0, []), (.iaload, (1, 0, 0, 0, 0, 0), 0, []), (.invokevirtual 93, (3, 2, 189, 79, 2, 11), 6123, [])],
  [(.if_icmp .eq 455, (3, 1, 133, 80, 0, 0), 0, [])],
  [(.iconst 0, (1, 0, 0, 0, 0, 0), 0, []), (.ireturn, (1, 3, 0, 0, 0, 1), 0, [])],
  [(.aload_n 1, (1, 0, 1, 0, 0, 0), 0, []), (.aload_n 0, (1, 0, 0, 0, 0, 0), 0, []), (.iload_n 3, (1, 0, 3, 0, 0, 0), 0, []), (.iconst 1, (1, 0, 0, 0, 0, 0), 1, []), (.iadd, (1, 0, 0, 0, 0, 0), 0, []), (.iaload, (1, 0, 0, 0, 0, 0), 0, []), (.aload_n 0, (1, 0, 0, 0, 0, 0), 0, []), (.iload_n 3, (1, 0, 3, 0, 0, 0), 0, []), (.iconst 2, (1, 0, 0, 0, 0, 0), 2, []), (.iadd, (1, 0, 0, 0, 0, 0), 0, []), (.iaload, (1, 0, 0, 0, 0, 0), 0, []), (.invokevirtual 94, (3, 2, 108, 82, 3, 10), 4057, [])],
  [(.aload_n 2, (1, 0, 2, 0, 0, 0), 0, []), (.aload_n 0, (1, 0, 0, 0, 0, 0), 0, []), (.iload_n 3, (1, 0, 3, 0, 0, 0), 0, []), (.iconst 1, (1, 0, 0, 0, 0, 0), 1, []), (.iadd, (1, 0, 0, 0, 0, 0), 0, []), (.iaload, (1, 0, 0, 0, 0, 0), 0, []), (.aload_n 0, (1, 0, 0, 0, 0, 0), 0, []), (.iload_n 3, (1, 0, 3, 0, 0, 0), 0, []), (.iconst 2, (1, 0, 0, 0, 0, 0), 2, []), (.iadd, (1, 0, 0, 0, 0, 0), 0, []), (.iaload, (1, 0, 0, 0, 0, 0), 0, []), (.invokevirtual 97, (3, 2, 191, 83, 3, 11), 6127, [])],
  [(.if_icmp .eq 422, (3, 1, 133, 84, 0, 0), 0, [])],
  [(.iconst 0, (1, 0, 0, 0, 0, 0), 0, []), (.ireturn, (1, 3, 0, 0, 0, 1), 0, [])],
  [(.aload_n 1, (1, 0, 1, 0, 0, 0), 0, []), (.aload_n 0, (1, 0, 0, 0, 0, 0), 0, []), (.iload_n 3, (1, 0, 3, 0, 0, 0), 0, []), (.iconst 1, (1, 0, 0, 0, 0, 0), 1, []), (.iadd, (1, 0, 0, 0, 0, 0), 0, []), (.iaload, (1, 0, 0, 0, 0, 0), 0, []), (.invokevirtual 98, (3, 2, 109, 86, 2, 10), 4084, [])],
  [(.aload_n 2, (1, 0, 2, 0, 0, 0), 0, []), (.aload_n 0, (1, 0, 0, 0, 0, 0), 0, []), (.iload_n 3, (1, 0, 3, 0, 0, 0), 0, []), (.iconst 1, (1, 0, 0, 0, 0, 0), 1, []), (.iadd, (1, 0, 0, 0, 0, 0), 0, []), (.iaload, (1, 0, 0, 0, 0, 0), 0, []), (.invokevirtual 101, (3, 2, 192, 87, 2, 11), 6138, [])],
  [(.if_icmp .eq 399, (3, 1, 133, 88, 0, 0), 0, [])],
  [(.iconst 0, (1, 0, 0, 0, 0, 0), 0, []), (.ireturn, (1, 3, 0, 0, 0, 1), 0, [])],
  [(.aload_n 1, (1, 0, 1, 0, 0, 0), 0, []), (.aload_n 0, (1, 0, 0, 0, 0, 0), 0, []), (.iload_n 3, (1, 0, 3, 0, 0, 0), 0, []), (.iconst 1, (1, 0, 0, 0, 0, 0), 1, []), (.iadd, (1, 0, 0, 0, 0, 0), 0, []), (.iaload, (1, 0, 0, 0, 0, 0), 0, []), (.invokevirtual 102, (3, 2, 110, 90, 2, 10), 4092, [])],
  [(.aload_n 2, (1, 0, 2, 0, 0, 0), 0, []), (.aload_n 0, (1, 0, 0, 0, 0, 0), 0, []), (.iload_n 3, (1, 0, 3, 0, 0, 0), 0, []), (.iconst 1, (1, 0, 0, 0, 0, 0), 1, []), (.iadd, (1, 0, 0, 0, 0, 0), 0, []), (.iaload, (1, 0, 0, 0, 0, 0), 0, []), (.invokevirtual 105, (3, 2, 193, 91, 2, 11), 6142, [])],
  [(.if_icmp .eq 376, (3, 1, 133, 92, 0, 0), 0, [])],
  [(.iconst 0, (1, 0, 0, 0, 0, 0), 0, []), (.ireturn, (1, 3, 0, 0, 0, 1), 0, [])],
  [(.aload_n 1, (1, 0, 1, 0, 0, 0), 0, []), (.aload_n 0, (1, 0, 0, 0, 0, 0), 0, []), (.iload_n 3, (1, 0, 3, 0, 0, 0), 0, []), (.iconst 1, (1, 0, 0, 0, 0, 0), 1, []), (.iadd, (1, 0, 0, 0, 0, 0), 0, []), (.iaload, (1, 0, 0, 0, 0, 0), 0, []), (.aload_n 0, (1, 0, 0, 0, 0, 0), 0, []), (.iload_n 3, (1, 0, 3, 0, 0, 0), 0, []), (.iconst 2, (1, 0, 0, 0, 0, 0), 2, []), (.iadd, (1, 0, 0, 0, 0, 0), 0, []), (.iaload, (1, 0, 0, 0, 0, 0), 0, []), (.invokevirtual 106, (3, 2, 113, 94, 3, 10), 4096, [])],
  [(.aload_n 2, (1, 0, 2, 0, 0, 0), 0, []), (.aload_n 0, (1, 0, 0, 0, 0, 0), 0, []), (.iload_n 3, (1, 0, 3, 0, 0, 0), 0, []), (.iconst 1, (1, 0, 0, 0, 0, 0), 1, []), (.iadd, (1, 0, 0, 0, 0, 0), 0, []), (.iaload, (1, 0, 0, 0, 0, 0), 0, []), (.aload_n 0, (1, 0, 0, 0, 0, 0), 0, []), (.iload_n 3, (1, 0, 3, 0, 0, 0), 0, []), (.iconst 2, (1, 0, 0, 0, 0, 0), 2, []), (.iadd, (1, 0, 0, 0, 0, 0), 0, []), (.iaload, (1, 0, 0, 0, 0, 0), 0, []), (.invokevirtual 109, (3, 2, 195, 95, 3, 11), 6146, [])],
  [(.if_icmp .eq 343, (3, 1, 133, 96, 0, 0), 0, [])],
  [(.iconst 0, (1, 0, 0, 0, 0, 0), 0, []), (.ireturn, (1, 3, 0, 0, 0, 1), 0, [])],
  [(.aload_n 1, (1, 0, 1, 0, 0, 0), 0, []), (.aload_n 0, (1, 0, 0, 0, 0, 0), 0, []), (.iload_n 3, (1, 0, 3, 0, 0, 0), 0, []), (.iconst 1, (1, 0, 0, 0, 0, 0), 1, []), (.iadd, (1, 0, 0, 0, 0, 0), 0, []), (.iaload, (1, 0, 0, 0, 0, 0), 0, []), (.aload_n 0, (1, 0, 0, 0, 0, 0), 0, []), (.iload_n 3, (1, 0, 3, 0, 0, 0), 0, []), (.iconst 2, (1, 0, 0, 0, 0, 0), 2, []), (.iadd, (1, 0, 0, 0, 0, 0), 0, []), (.iaload, (1, 0, 0, 0, 0, 0), 0, []), (.aload_n 0, (1, 0, 0, 0, 0, 0), 0, []), (.iload_n 3, (1, 0, 3, 0, 0, 0), 0, []), (.iconst 3, (1, 0, 0, 0, 0, 0), 3, []), (.iadd, (1, 0, 0, 0, 0, 0), 0, []), (.iaload, (1, 0, 0, 0, 0, 0), 0, []), (.aload_n 0, (1, 0, 0, 0, 0, 0), 0, []), (.iload_n 3, (1, 0, 3, 0, 0, 0), 0, []), (.iconst 4, (1, 0, 0, 0, 0, 0), 4, []), (.iadd, (1, 0, 0, 0, 0, 0), 0, []), (.iaload, (1, 0, 0, 0, 0, 0), 0, []), (.invokevirtual 110, (3, 2, 114, 98, 5, 10), 4108, [])],
  [(.aload_n 2, (1, 0, 2, 0, 0, 0), 0, []), (.aload_n 0, (1, 0, 0, 0, 0, 0), 0, []), (.iload_n 3, (1, 0, 3, 0, 0, 0), 0, []), (.iconst 1, (1, 0, 0, 0, 0, 0), 1, []), (.iadd, (1, 0, 0, 0, 0, 0), 0, []), (.iaload, (1, 0, 0, 0, 0, 0), 0, []), (.aload_n 0, (1, 0, 0, 0, 0, 0), 0, []), (.iload_n 3, (1, 0, 3, 0, 0, 0), 0, []), (.iconst 2, (1, 0, 0, 0, 0, 0), 2, []), (.iadd, (1, 0, 0, 0, 0, 0), 0, []), (.iaload, (1, 0, 0, 0, 0, 0), 0, []), (.aload_n 0, (1, 0, 0, 0, 0, 0), 0, []), (.iload_n 3, (1, 0, 3, 0, 0, 0), 0, []), (.iconst 3, (1, 0, 0, 0, 0, 0), 3, []), (.iadd, (1, 0, 0, 0, 0, 0), 0, []), (.iaload, (1, 0, 0, 0, 0, 0), 0, []), (.aload_n 0, (1, 0, 0, 0, 0, 0), 0, []), (.iload_n 3, (1, 0, 3, 0, 0, 0), 0, []), (.iconst 4, (1, 0, 0, 0, 0, 0), 4, []), (.iadd, (1, 0, 0, 0, 0, 0), 0, []), (.iaload, (1, 0, 0, 0, 0, 0), 0, []), (.invokevirtual 114, (3, 2, 196, 99, 5, 11), 6156, [])],
  [(.lcmp, (1, 0, 0, 0, 0, 0), 0, []), (.ifCond .eq 289, (3, 1, 133, 100, 0, 0), 0, [])],
  [(.iconst 0, (1, 0, 0, 0, 0, 0), 0, []), (.ireturn, (1, 3, 0, 0, 0, 1), 0, [])],
  [(.aload_n 1, (1, 0, 1, 0, 0, 0), 0, []), (.invokevirtual 115, (3, 2, 117, 102, 1, 10), 4112, [])],
  [(.aload_n 2, (1, 0, 2, 0, 0, 0), 0, []), (.invokevirtual 118, (3, 2, 197, 103, 1, 11), 6160, [])],
  [(.if_icmp .eq 276, (3, 1, 133, 104, 0, 0), 0, [])],
  [(.iconst 0, (1, 0, 0, 0, 0, 0), 0, []), (.ireturn, (1, 3, 0, 0, 0, 1), 0, [])],
  [(.aload_n 1, (1, 0, 1, 0, 0, 0), 0, []), (.invokevirtual 119, (3, 2, 118, 106, 1, 10), 4116, [])],
  [(.aload_n 2, (1, 0, 2, 0, 0, 0), 0, []), (.invokevirtual 122, (3, 2, 198, 107, 1, 11), 6164, [])],
  [(.if_icmp .eq 263, (3, 1, 133, 108, 0, 0), 0, [])],
  [(.iconst 0, (1, 0, 0, 0, 0, 0), 0, []), (.ireturn, (1, 3, 0, 0, 0, 1), 0, [])],
  [(.aload_n 1, (1, 0, 1, 0, 0, 0), 0, []), (.aload_n 0, (1, 0, 0, 0, 0, 0), 0, []), (.iload_n 3, (1, 0, 3, 0, 0, 0), 0, []), (.iconst 1, (1, 0, 0, 0, 0, 0), 1, []), (.iadd, (1, 0, 0, 0, 0, 0), 0, []), (.iaload, (1, 0, 0, 0, 0, 0), 0, []), (.invokevirtual 123, (3, 2, 119, 110, 2, 10), 4120, [])],
  [(.aload_n 2, (1, 0, 2, 0, 0, 0), 0, []), (.aload_n 0, (1, 0, 0, 0, 0, 0), 0, []), (.iload_n 3, (1, 0, 3, 0, 0, 0), 0, []), (.iconst 1, (1, 0, 0, 0, 0, 0), 1, []), (.iadd, (1, 0, 0, 0, 0, 0), 0, []), (.iaload, (1, 0, 0, 0, 0, 0), 0, []), (.invokevirtual 126, (3, 2, 199, 111, 2, 11), 6168, [])],
  [(.if_icmp .eq 240, (3, 1, 133, 112, 0, 0), 0, [])],
  [(.iconst 0, (1, 0, 0, 0, 0, 0), 0, []), (.ireturn, (1, 3, 0, 0, 0, 1), 0, [])],
  [(.aload_n 1, (1, 0, 1, 0, 0, 0), 0, []), (.aload_n 0, (1, 0, 0, 0, 0, 0), 0, []), (.iload_n 3, (1, 0, 3, 0, 0, 0), 0, []), (.iconst 1, (1, 0, 0, 0, 0, 0), 1, []), (.iadd, (1, 0, 0, 0, 0, 0), 0, []), (.iaload, (1, 0, 0, 0, 0, 0), 0, []), (.aload_n 0, (1, 0, 0, 0, 0, 0), 0, []), (.iload_n 3, (1, 0, 3, 0, 0, 0), 0, []), (.iconst 2, (1, 0, 0, 0, 0, 0), 2, []), (.iadd, (1, 0, 0, 0, 0, 0), 0, []), (.iaload, (1, 0, 0, 0, 0, 0), 0, []), (.aload_n 0, (1, 0, 0, 0, 0, 0), 0, []), (.iload_n 3, (1, 0, 3, 0, 0, 0), 0, []), (.iconst 3, (1, 0, 0, 0, 0, 0), 3, []), (.iadd, (1, 0, 0, 0, 0, 0), 0, []), (.iaload, (1, 0, 0, 0, 0, 0), 0, []), (.invokevirtual 127, (3, 2, 120, 114, 4, 10), 4124, [])],
  [(.aload_n 2, (1, 0, 2, 0, 0, 0), 0, []), (.aload_n 0, (1, 0, 0, 0, 0, 0), 0, []), (.iload_n 3, (1, 0, 3, 0, 0, 0), 0, []), (.iconst 1, (1, 0, 0, 0, 0, 0), 1, []), (.iadd, (1, 0, 0, 0, 0, 0), 0, []), (.iaload, (1, 0, 0, 0, 0, 0), 0, []), (.aload_n 0, (1, 0, 0, 0, 0, 0), 0, []), (.iload_n 3, (1, 0, 3, 0, 0, 0), 0, []), (.iconst 2, (1, 0, 0, 0, 0, 0), 2, []), (.iadd, (1, 0, 0, 0, 0, 0), 0, []), (.iaload, (1, 0, 0, 0, 0, 0), 0, []), (.aload_n 0, (1, 0, 0, 0, 0, 0), 0, []), (.iload_n 3, (1, 0, 3, 0, 0, 0), 0, []), (.iconst 3, (1, 0, 0, 0, 0, 0), 3, []), (.iadd, (1, 0, 0, 0, 0, 0), 0, []), (.iaload, (1, 0, 0, 0, 0, 0), 0, []), (.invokevirtual 130, (3, 2, 201, 115, 4, 11), 6172, [])],
  [(.if_icmp .eq 197, (3, 1, 133, 116, 0, 0), 0, [])],
  [(.iconst 0, (1, 0, 0, 0, 0, 0), 0, []), (.ireturn, (1, 3, 0, 0, 0, 1), 0, [])],
  [(.aload_n 1, (1, 0, 1, 0, 0, 0), 0, []), (.aload_n 0, (1, 0, 0, 0, 0, 0), 0, []), (.iload_n 3, (1, 0, 3, 0, 0, 0), 0, []), (.iconst 1, (1, 0, 0, 0, 0, 0), 1, []), (.iadd, (1, 0, 0, 0, 0, 0), 0, []), (.iaload, (1, 0, 0, 0, 0, 0), 0, []), (.aload_n 0, (1, 0, 0, 0, 0, 0), 0, []), (.iload_n 3, (1, 0, 3, 0, 0, 0), 0, []), (.iconst 2, (1, 0, 0, 0, 0, 0), 2, []), (.iadd, (1, 0, 0, 0, 0, 0), 0, []), (.iaload, (1, 0, 0, 0, 0, 0), 0, []), (.aload_n 0, (1, 0, 0, 0, 0, 0), 0, []), (.iload_n 3, (1, 0, 3, 0, 0, 0), 0, []), (.iconst 3, (1, 0, 0, 0, 0, 0), 3, []), (.iadd, (1, 0, 0, 0, 0, 0), 0, []), (.iaload, (1, 0, 0, 0, 0, 0), 0, []), (.invokevirtual 131, (3, 2, 121, 118, 4, 10), 4136, [])],
  [(.aload_n 2, (1, 0, 2, 0, 0, 0), 0, []), (.aload_n 0, (1, 0, 0, 0, 0, 0), 0, []), (.iload_n 3, (1, 0, 3, 0, 0, 0), 0, []), (.iconst 1, (1, 0, 0, 0, 0, 0), 1, []), (.iadd, (1, 0, 0, 0, 0, 0), 0, []), (.iaload, (1, 0, 0, 0, 0, 0), 0, []), (.aload_n 0, (1, 0, 0, 0, 0, 0), 0, []), (.iload_n 3, (1, 0, 3, 0, 0, 0), 0, []), (.iconst 2, (1, 0, 0, 0, 0, 0), 2, []), (.iadd, (1, 0, 0, 0, 0, 0), 0, []), (.iaload, (1, 0, 0, 0, 0, 0), 0, []), (.aload_n 0, (1, 0, 0, 0, 0, 0), 0, []), (.iload_n 3, (1, 0, 3, 0, 0, 0), 0, []), (.iconst 3, (1, 0, 0, 0, 0, 0), 3, []), (.iadd, (1, 0, 0, 0, 0, 0), 0, []), (.iaload, (1, 0, 0, 0, 0, 0), 0, []), (.invokevirtual 134, (3, 2, 202, 119, 4, 11), 6176, [])],
  [(.if_icmp .eq 154, (3, 1, 133, 120, 0, 0), 0, [])],
  [(.iconst 0, (1, 0, 0, 0, 0, 0), 0, []), (.ireturn, (1, 3, 0, 0, 0, 1), 0, [])],
  [(.aload_n 1, (1, 0, 1, 0, 0, 0), 0, []), (.aload_n 0, (1, 0, 0, 0, 0, 0), 0, []), (.iload_n 3, (1, 0, 3, 0, 0, 0), 0, []), (.iconst 1, (1, 0, 0, 0, 0, 0), 1, []), (.iadd, (1, 0, 0, 0, 0, 0), 0, []), (.iaload, (1, 0, 0, 0, 0, 0), 0, []), (.aload_n 0, (1, 0, 0, 0, 0, 0), 0, []), (.iload_n 3, (1, 0, 3, 0, 0, 0), 0, []), (.iconst 2, (1, 0, 0, 0, 0, 0), 2, []), (.iadd, (1, 0, 0, 0, 0, 0), 0, []), (.iaload, (1, 0, 0, 0, 0, 0), 0, []), (.aload_n 0, (1, 0, 0, 0, 0, 0), 0, []), (.iload_n 3, (1, 0, 3, 0, 0, 0), 0, []), (.iconst 3, (1, 0, 0, 0, 0, 0), 3, []), (.iadd, (1, 0, 0, 0, 0, 0), 0, []), (.iaload, (1, 0, 0, 0, 0, 0), 0, []), (.aload_n 0, (1, 0, 0, 0, 0, 0), 0, []), (.iload_n 3, (1, 0, 3, 0, 0, 0), 0, []), (.iconst 4, (1, 0, 0, 0, 0, 0), 4, []), (.iadd, (1, 0, 0, 0, 0, 0), 0, []), (.iaload, (1, 0, 0, 0, 0, 0), 0, []), (.aload_n 0, (1, 0, 0, 0, 0, 0), 0, []), (.iload_n 3, (1, 0, 3, 0, 0, 0), 0, []), (.iconst 5, (1, 0, 0, 0, 0, 0), 5, []), (.iadd, (1, 0, 0, 0, 0, 0), 0, []), (.iaload, (1, 0, 0, 0, 0, 0), 0, []), (.invokevirtual 135, (3, 2, 122, 122, 6, 10), 4148, [])],
  [(.aload_n 2, (1, 0, 2, 0, 0, 0), 0, []), (.aload_n 0, (1, 0, 0, 0, 0, 0), 0, []), (.iload_n 3, (1, 0, 3, 0, 0, 0), 0, []), (.iconst 1, (1, 0, 0, 0, 0, 0), 1, []), (.iadd, (1, 0, 0, 0, 0, 0), 0, []), (.iaload, (1, 0, 0, 0, 0, 0), 0, []), (.aload_n 0, (1, 0, 0, 0, 0, 0), 0, []), (.iload_n 3, (1, 0, 3, 0, 0, 0), 0, []), (.iconst 2, (1, 0, 0, 0, 0, 0), 2, []), (.iadd, (1, 0, 0, 0, 0, 0), 0, []), (.iaload, (1, 0, 0, 0, 0, 0), 0, []), (.aload_n 0, (1, 0, 0, 0, 0, 0), 0, []), (.iload_n 3, (1, 0, 3, 0, 0, 0), 0, []), (.iconst 3, (1, 0, 0, 0, 0, 0), 3, []), (.iadd, (1, 0, 0, 0, 0, 0), 0, []), (.iaload, (1, 0, 0, 0, 0, 0), 0, []), (.aload_n 0, (1, 0, 0, 0, 0, 0), 0, []), (.iload_n 3, (1, 0, 3, 0, 0, 0), 0, []), (.iconst 4, (1, 0, 0, 0, 0, 0), 4, []), (.iadd, (1, 0, 0, 0, 0, 0), 0, []), (.iaload, (1, 0, 0, 0, 0, 0), 0, []), (.aload_n 0, (1, 0, 0, 0, 0, 0), 0, []), (.iload_n 3, (1, 0, 3, 0, 0, 0), 0, []), (.iconst 5, (1, 0, 0, 0, 0, 0), 5, []), (.iadd, (1, 0, 0, 0, 0, 0), 0, []), (.iaload, (1, 0, 0, 0, 0, 0), 0, []), (.invokevirtual 139, (3, 2, 203, 123, 6, 11), 6180, [])],
  [(.if_icmp .eq 91, (3, 1, 133, 124, 0, 0), 0, [])],
  [(.iconst 0, (1, 0, 0, 0, 0, 0), 0, []), (.ireturn, (1, 3, 0, 0, 0, 1), 0, [])],
  [(.aload_n 1, (1, 0, 1, 0, 0, 0), 0, []), (.aload_n 0, (1, 0, 0, 0, 0, 0), 0, []), (.iload_n 3, (1, 0, 3, 0, 0, 0), 0, []), (.iconst 1, (1, 0, 0, 0, 0, 0), 1, []), (.iadd, (1, 0, 0, 0, 0, 0), 0, []), (.iaload, (1, 0, 0, 0, 0, 0), 0, []), (.aload_n 0, (1, 0, 0, 0, 0, 0), 0, []), (.iload_n 3, (1, 0, 3, 0, 0, 0), 0, []), (.iconst 2, (1, 0, 0, 0, 0, 0), 2, []), (.iadd, (1, 0, 0, 0, 0, 0), 0, []), (.iaload, (1, 0, 0, 0, 0, 0), 0, []), (.aload_n 0, (1, 0, 0, 0, 0, 0), 0, []), (.iload_n 3, (1, 0, 3, 0, 0, 0), 0, []), (.iconst 3, (1, 0, 0, 0, 0, 0), 3, []), (.iadd, (1, 0, 0, 0, 0, 0), 0, []), (.iaload, (1, 0, 0, 0, 0, 0), 0, []), (.aload_n 0, (1, 0, 0, 0, 0, 0), 0, []), (.iload_n 3, (1, 0, 3, 0, 0, 0), 0, []), (.iconst 4, (1, 0, 0, 0, 0, 0), 4, []), (.iadd, (1, 0, 0, 0, 0, 0), 0, []), (.iaload, (1, 0, 0, 0, 0, 0), 0, []), (.invokevirtual 140, (3, 2, 123, 126, 5, 10), 4156, [])],
  [(.aload_n 2, (1, 0, 2, 0, 0, 0), 0, []), (.aload_n 0, (1, 0, 0, 0, 0, 0), 0, []), (.iload_n 3, (1, 0, 3, 0, 0, 0), 0, []), (.iconst 1, (1, 0, 0, 0, 0, 0), 1, []), (.iadd, (1, 0, 0, 0, 0, 0), 0, []), (.iaload, (1, 0, 0, 0, 0, 0), 0, []), (.aload_n 0, (1, 0, 0, 0, 0, 0), 0, []), (.iload_n 3, (1, 0, 3, 0, 0, 0), 0, []), (.iconst 2, (1, 0, 0, 0, 0, 0), 2, []), (.iadd, (1, 0, 0, 0, 0, 0), 0, []), (.iaload, (1, 0, 0, 0, 0, 0), 0, []), (.aload_n 0, (1, 0, 0, 0, 0, 0), 0, []), (.iload_n 3, (1, 0, 3, 0, 0, 0), 0, []), (.iconst 3, (1, 0, 0, 0, 0, 0), 3, []), (.iadd, (1, 0, 0, 0, 0, 0), 0, []), (.iaload, (1, 0, 0, 0, 0, 0), 0, []), (.aload_n 0, (1, 0, 0, 0, 0, 0), 0, []), (.iload_n 3, (1, 0, 3, 0, 0, 0), 0, []), (.iconst 4, (1, 0, 0, 0, 0, 0), 4, []), (.iadd, (1, 0, 0, 0, 0, 0), 0, []), (.iaload, (1, 0, 0, 0, 0, 0), 0, []), (.invokevirtual 144, (3, 2, 204, 127, 5, 11), 6184, [])],
  [(.if_icmp .eq 38, (3, 1, 133, 128, 0, 0), 0, [])],
  [(.iconst 0, (1, 0, 0, 0, 0, 0), 0, []), (.ireturn, (1, 3, 0, 0, 0, 1), 0, [])],
  [(.aload_n 1, (1, 0, 1, 0, 0, 0), 0, []), (.aload_n 0, (1, 0, 0, 0, 0, 0), 0, []), (.iload_n 3, (1, 0, 3, 0, 0, 0), 0, []), (.iconst 1, (1, 0, 0, 0, 0, 0), 1, []), (.iadd, (1, 0, 0, 0, 0, 0), 0, []), (.iaload, (1, 0, 0, 0, 0, 0), 0, []), (.aload_n 0, (1, 0, 0, 0, 0, 0), 0, []), (.iload_n 3, (1, 0, 3, 0, 0, 0), 0, []), (.iconst 2, (1, 0, 0, 0, 0, 0), 2, []), (.iadd, (1, 0, 0, 0, 0, 0), 0, []), (.iaload, (1, 0, 0, 0, 0, 0), 0, []), (.invokevirtual 145, (3, 2, 124, 130, 3, 10), 4160, [])],
  [(.aload_n 2, (1, 0, 2, 0, 0, 0), 0, []), (.aload_n 0, (1, 0, 0, 0, 0, 0), 0, []), (.iload_n 3, (1, 0, 3, 0, 0, 0), 0, []), (.iconst 1, (1, 0, 0, 0, 0, 0), 1, []), (.iadd, (1, 0, 0, 0, 0, 0), 0, []), (.iaload, (1, 0, 0, 0, 0, 0), 0, []), (.aload_n 0, (1, 0, 0, 0, 0, 0), 0, []), (.iload_n 3, (1, 0, 3, 0, 0, 0), 0, []), (.iconst 2, (1, 0, 0, 0, 0, 0), 2, []), (.iadd, (1, 0, 0, 0, 0, 0), 0, []), (.iaload, (1, 0, 0, 0, 0, 0), 0, []), (.invokevirtual 148, (3, 2, 206, 131, 3, 11), 6189, [])],
  [(.if_icmp .eq 5, (3, 1, 133, 132, 0, 0), 0, [])],
  [(.iconst 0, (1, 0, 0, 0, 0, 0), 0, []), (.ireturn, (1, 3, 0, 0, 0, 1), 0, [])],
  [(.iinc 3 6, (3, 0, 3, 0, 0, 0), 6, []), (.goto (-1109), (3, 1, 3, 0, 0, 0), 0, [])],
  [(.iconst 1, (1, 0, 0, 0, 0, 0), 1, []), (.ireturn, (1, 3, 0, 0, 0, 1), 0, [])]]
/-- java/lang/String.length()I -/
noncomputable def bk_208 : List (List am_P) := [[(.aload_n 0, (1, 0, 0, 0, 0, 0), 0, []), (.getfield 9, (3, 0, 26, 1, 6196, 1), 0, []), (.arraylength, (1, 0, 0, 0, 0, 0), 0, []), (.aload_n 0, (1, 0, 0, 0, 0, 0), 0, []), (.invokevirtual 335, (3, 2, 210, 1, 1, 27), 2195, [])],
  [(.ishr, (1, 0, 0, 0, 0, 0), 0, []), (.ireturn, (1, 3, 0, 0, 0, 0), 0, [])]]
/-- java/lang/String.charAt(I)C -/
noncomputable def bk_209 : List (List am_P) := [[(.aload_n 0, (1, 0, 0, 0, 0, 0), 0, []), (.invokevirtual 492, (3, 2, 211, 1, 1, 27), 2205, [])],
  [(.ifCond .eq 12, (3, 1, 4, 2, 0, 0), 0, [])],
  [(.aload_n 0, (1, 0, 0, 0, 0, 0), 0, []), (.getfield 9, (3, 0, 26, 1, 6196, 1), 0, []), (.iload_n 1, (1, 0, 1, 0, 0, 0), 0, []), (.invokestatic 495, (3, 2, 213, 3, 2, 0), 2209, [])],
  [(.ireturn, (1, 3, 0, 0, 0, 2), 0, [])],
  [(.aload_n 0, (1, 0, 0, 0, 0, 0), 0, []), (.getfield 9, (3, 0, 26, 1, 6196, 1), 0, []), (.iload_n 1, (1, 0, 1, 0, 0, 0), 0, []), (.invokestatic 498, (3, 2, 9999, 5, 0, 0), 0, [])],
  [(.ireturn, (1, 3, 0, 0, 0, 2), 0, [])]]
/-- java/lang/String.coder()B -/
noncomputable def bk_210 : List (List am_P) := [[(.getstatic 38, (3, 0, 1, 0, 2199, 0), 0, []), (.ifCond .eq 10, (3, 1, 2, 1, 0, 0), 0, [])],
  [(.aload_n 0, (1, 0, 0, 0, 0, 0), 0, []), (.getfield 15, (3, 0, 26, 0, 6197, 0), 0, []), (.goto 4, (3, 1, 3, 0, 0, 0), 0, [])],
  [(.iconst 1, (1, 0, 0, 0, 0, 0), 1, []), (.nop, (0, 1, 3, 0, 0, 0), 0, [])],
  [(.ireturn, (1, 3, 0, 0, 0, 3), 0, [])]]
/-- java/lang/String.isLatin1()Z -/
noncomputable def bk_211 : List (List am_P) := [[(.getstatic 38, (3, 0, 1, 0, 2199, 0), 0, []), (.ifCond .eq 14, (3, 1, 3, 1, 0, 0), 0, [])],
  [(.aload_n 0, (1, 0, 0, 0, 0, 0), 0, []), (.getfield 15, (3, 0, 26, 0, 6197, 0), 0, []), (.ifCond .ne 7, (3, 1, 3, 2, 0, 0), 0, [])],
  [(.iconst 1, (1, 0, 0, 0, 0, 0), 1, []), (.goto 4, (3, 1, 4, 0, 0, 0), 0, [])],
  [(.iconst 0, (1, 0, 0, 0, 0, 0), 0, []), (.nop, (0, 1, 4, 0, 0, 0), 0, [])],
  [(.ireturn, (1, 3, 0, 0, 0, 1), 0, [])]]
/-- java/lang/String.checkIndex(II)V -/
noncomputable def bk_212 : List (List am_P) := [[(.iload_n 0, (1, 0, 0, 0, 0, 0), 0, []), (.iload_n 1, (1, 0, 1, 0, 0, 0), 0, []), (.getstatic 1053, (3, 0, 2, 0, 2215, 0), 0, []), (.invokestatic 1059, (3, 2, 216, 1, 3, 0), 2217, [])],
  [(.pop, (1, 0, 0, 0, 0, 0), 0, []), (.return_, (1, 3, 0, 0, 0, 0), 0, [])]]
/-- java/lang/StringLatin1.charAt([BI)C -/
noncomputable def bk_213 : List (List am_P) := [[(.iload_n 1, (1, 0, 1, 0, 0, 0), 0, []), (.aload_n 0, (1, 0, 0, 0, 0, 0), 0, []), (.arraylength, (1, 0, 0, 0, 0, 0), 0, []), (.invokestatic 9, (3, 2, 212, 1, 2, 0), 2212, [])],
  [(.aload_n 0, (1, 0, 0, 0, 0, 0), 0, []), (.iload_n 1, (1, 0, 1, 0, 0, 0), 0, []), (.baload, (1, 0, 25, 0, 0, 0), 0, []), (.sipush 255, (3, 0, 0, 0, 0, 0), 255, []), (.iand, (1, 0, 0, 0, 0, 0), 0, []), (.i2c, (1, 0, 0, 0, 0, 0), 0, []), (.ireturn, (1, 3, 0, 0, 0, 2), 0, [])]]
/-- java/util/Arrays.fill([II)V -/
noncomputable def bk_214 : List (List am_P) := [[(.iconst 0, (1, 0, 0, 0, 0, 0), 0, []), (.istore_n 2, (1, 0, 2, 0, 0, 0), 0, []), (.aload_n 0, (1, 0, 0, 0, 0, 0), 0, []), (.arraylength, (1, 0, 0, 0, 0, 0), 0, []), (.istore_n 3, (1, 0, 3, 0, 0, 0), 0, []), (.nop, (0, 1, 1, 0, 0, 0), 0, [])],
  [(.iload_n 2, (1, 0, 2, 0, 0, 0), 0, []), (.iload_n 3, (1, 0, 3, 0, 0, 0), 0, []), (.if_icmp .ge 13, (3, 1, 3, 2, 0, 0), 0, [])],
  [(.aload_n 0, (1, 0, 0, 0, 0, 0), 0, []), (.iload_n 2, (1, 0, 2, 0, 0, 0), 0, []), (.iload_n 1, (1, 0, 1, 0, 0, 0), 0, []), (.iastore, (1, 0, 0, 0, 0, 0), 0, []), (.iinc 2 1, (3, 0, 2, 0, 0, 0), 1, []), (.goto (-12), (3, 1, 1, 0, 0, 0), 0, [])],
  [(.return_, (1, 3, 0, 0, 0, 0), 0, [])]]
/-- java/util/Arrays.copyOf([II)[I -/
noncomputable def bk_215 : List (List am_P) := [[(.iload_n 1, (1, 0, 1, 0, 0, 0), 0, []), (.aload_n 0, (1, 0, 0, 0, 0, 0), 0, []), (.arraylength, (1, 0, 0, 0, 0, 0), 0, []), (.if_icmp .ne 11, (3, 1, 3, 1, 0, 0), 0, [])],
  [(.aload_n 0, (1, 0, 0, 0, 0, 0), 0, []), (.invokevirtual 316, (3, 2, 9999, 2, 0, 0), 0, [])],
  [(.checkcast 317, (3, 0, 0, 0, 0, 0), 0, []), (.areturn, (1, 3, 0, 0, 0, 0), 0, [])],
  [(.iload_n 1, (1, 0, 1, 0, 0, 0), 0, []), (.newarray .int, (2, 0, 20, 0, 0, 0), 0, []), (.astore_n 2, (1, 0, 2, 0, 0, 0), 0, []), (.aload_n 0, (1, 0, 0, 0, 0, 0), 0, []), (.iconst 0, (1, 0, 0, 0, 0, 0), 0, []), (.aload_n 2, (1, 0, 2, 0, 0, 0), 0, []), (.iconst 0, (1, 0, 0, 0, 0, 0), 0, []), (.aload_n 0, (1, 0, 0, 0, 0, 0), 0, []), (.arraylength, (1, 0, 0, 0, 0, 0), 0, []), (.iload_n 1, (1, 0, 1, 0, 0, 0), 0, []), (.invokestatic 304, (3, 0, 0, 0, 3055, 2), 0, []), (.invokestatic 150, (3, 0, 0, 0, 3058, 0), 0, []), (.aload_n 2, (1, 0, 2, 0, 0, 0), 0, []), (.areturn, (1, 3, 0, 0, 0, 0), 0, [])]]
/-- jdk/internal/util/Preconditions.checkIndex(IILjava/util/function/BiFunction;)I -/
noncomputable def bk_216 : List (List am_P) := [[(.iload_n 0, (1, 0, 0, 0, 0, 0), 0, []), (.ifCond .lt 8, (3, 1, 2, 1, 0, 0), 0, [])],
  [(.iload_n 0, (1, 0, 0, 0, 0, 0), 0, []), (.iload_n 1, (1, 0, 1, 0, 0, 0), 0, []), (.if_icmp .lt 10, (3, 1, 4, 2, 0, 0), 0, [])],
  [(.aload_n 2, (1, 0, 2, 0, 0, 0), 0, []), (.iload_n 0, (1, 0, 0, 0, 0, 0), 0, []), (.iload_n 1, (1, 0, 1, 0, 0, 0), 0, []), (.invokestatic 95, (3, 2, 9999, 3, 0, 0), 0, [])],
  [(.athrow, (1, 0, 0, 0, 0, 0), 0, []), (.nop, (0, 1, 4, 0, 0, 0), 0, [])],
  [(.iload_n 0, (1, 0, 0, 0, 0, 0), 0, []), (.ireturn, (1, 3, 0, 0, 0, 0), 0, [])]]
noncomputable def am_pg : List (List (List am_P)) := [bk_0, bk_1, bk_2, bk_3, bk_4, bk_5, bk_6, bk_7, bk_8, bk_9, bk_10, bk_11, bk_12, bk_13, bk_14, bk_15, bk_16, bk_17, bk_18, bk_19, bk_20, bk_21, bk_22, bk_23, bk_24, bk_25, bk_26, bk_27, bk_28, bk_29, bk_30, bk_31, bk_32, bk_33, bk_34, bk_35, bk_36, bk_37, bk_38, bk_39, bk_40, bk_41, bk_42, bk_43, bk_44, bk_45, bk_46, bk_47, bk_48, bk_49, bk_50, bk_51, bk_52, bk_53, bk_54, bk_55, bk_56, bk_57, bk_58, bk_59, bk_60, bk_61, bk_62, bk_63, bk_64, bk_65, bk_66, bk_67, bk_68, bk_69, bk_70, bk_71, bk_72, bk_73, bk_74, bk_75, bk_76, bk_77, bk_78, bk_79, bk_80, bk_81, bk_82, bk_83, bk_84, bk_85, bk_86, bk_87, bk_88, bk_89, bk_90, bk_91, bk_92, bk_93, bk_94, bk_95, bk_96, bk_97, bk_98, bk_99, bk_100, bk_101, bk_102, bk_103, bk_104, bk_105, bk_106, bk_107, bk_108, bk_109, bk_110, bk_111, bk_112, bk_113, bk_114, bk_115, bk_116, bk_117, bk_118, bk_119, bk_120, bk_121, bk_122, bk_123, bk_124, bk_125, bk_126, bk_127, bk_128, bk_129, bk_130, bk_131, bk_132, bk_133, bk_134, bk_135, bk_136, bk_137, bk_138, bk_139, bk_140, bk_141, bk_142, bk_143, bk_144, bk_145, bk_146, bk_147, bk_148, bk_149, bk_150, bk_151, bk_152, bk_153, bk_154, bk_155, bk_156, bk_157, bk_158, bk_159, bk_160, bk_161, bk_162, bk_163, bk_164, bk_165, bk_166, bk_167, bk_168, bk_169, bk_170, bk_171, bk_172, bk_173, bk_174, bk_175, bk_176, bk_177, bk_178, bk_179, bk_180, bk_181, bk_182, bk_183, bk_184, bk_185, bk_186, bk_187, bk_188, bk_189, bk_190, bk_191, bk_192, bk_193, bk_194, bk_195, bk_196, bk_197, bk_198, bk_199, bk_200, bk_201, bk_202, bk_203, bk_204, bk_205, bk_206, bk_207, bk_208, bk_209, bk_210, bk_211, bk_212, bk_213, bk_214, bk_215, bk_216]
noncomputable def am_blk (m b : Nat) : List am_P := (am_pg.getD m []).getD b []
/-- how many slots a method has -/
noncomputable def am_mx (m : Nat) : Nat := ([1, 1, 4, 4, 3, 6, 4, 2, 4, 7, 1, 3, 2, 2, 4, 1, 1, 1, 2, 2, 6, 3, 3, 2, 1, 2, 7, 7, 5, 5, 1, 3, 1, 6, 4, 3, 2, 7, 4, 1, 3, 1, 2, 3, 3, 1, 4, 3, 4, 5, 6, 5, 1, 1, 1, 2, 4, 5, 1, 2, 1, 2, 6, 2, 3, 4, 6, 4, 3, 3, 4, 4, 3, 4, 2, 3, 2, 2, 2, 1, 1, 2, 2, 3, 3, 2, 4, 2, 1, 2, 6, 3, 1, 3, 2, 4, 7, 3, 1, 1, 12, 3, 2, 6, 4, 4, 3, 5, 4, 5, 4, 2, 4, 3, 8, 1, 5, 2, 2, 2, 4, 4, 8, 9, 3, 1, 1, 6, 3, 1, 10, 2, 2, 6, 3, 4, 2, 3, 2, 2, 3, 1, 3, 9, 2, 1, 1, 2, 2, 4, 4, 3, 3, 3, 6, 2, 3, 6, 2, 4, 6, 6, 2, 7, 4, 2, 3, 4, 7, 5, 11, 3, 3, 7, 2, 3, 2, 3, 2, 2, 2, 7, 2, 5, 7, 3, 3, 3, 6, 6, 2, 6, 7, 6, 5, 3, 8, 2, 2, 2, 1, 5, 4, 9, 7, 1, 4, 4, 1, 2, 1, 1, 2, 2, 4, 3, 3] : List Nat).getD m 0
/-- where a block begins -/
noncomputable def am_pcs : List (List Nat) := [[0],
  [0],
  [0, 7, 13, 17, 20, 25, 27, 39],
  [0, 5, 12, 14, 52, 61, 66, 67, 72, 75, 87, 88, 98, 103, 111, 116, 119, 124],
  [0, 12, 16, 21],
  [0, 14, 21, 25, 43],
  [0, 4, 9, 18, 20, 26],
  [0],
  [0, 10, 43, 51],
  [0, 8, 12, 16, 35, 42, 52, 61, 91],
  [0, 11],
  [0, 4, 12, 24, 36],
  [0, 19, 26],
  [0],
  [0, 7, 23, 30, 37, 42, 46, 51, 58, 62, 72],
  [0],
  [0],
  [0, 7, 21, 31],
  [0, 10, 16, 22, 33],
  [0, 4, 8, 13, 17],
  [0, 7, 8, 13, 18, 19, 24, 28, 33, 39, 45, 46, 54, 59, 63, 66, 70, 76, 83, 87, 90, 94, 98, 104, 112, 118, 124],
  [0, 4, 9, 14, 18, 21, 27, 33, 39, 42, 48, 54, 60, 63, 68],
  [0, 5, 11, 15, 23],
  [0, 10, 30],
  [0, 68, 70, 72, 74, 76, 78],
  [0],
  [0, 5, 13, 21, 30, 31, 84, 87, 96, 99, 108, 116, 122, 128],
  [0, 2, 7, 10, 19, 31, 38, 46, 57, 60, 69, 79, 88, 94, 100],
  [0],
  [0, 13, 17, 18, 21, 31, 41, 42],
  [0, 7, 8, 34, 38, 45],
  [0, 2, 8, 18, 20, 26],
  [0, 8, 16],
  [0, 8, 13, 14, 17, 26, 32, 35, 43, 86, 92, 98, 99, 102, 125, 131],
  [0, 13, 26, 30, 31, 32, 36, 44, 57, 60, 66, 74, 78, 79],
  [0, 11, 36, 44, 52, 79],
  [0, 14, 22],
  [0, 8, 15, 16, 19, 28, 36, 56, 97, 120, 126],
  [0, 2, 10, 22, 23, 29, 36, 41],
  [0],
  [0, 14, 18],
  [0, 8, 12, 13],
  [0, 4, 12, 16, 17],
  [0, 4, 8, 16, 26, 30, 31],
  [0, 32, 36, 43, 47, 54, 58, 61],
  [0],
  [0, 9, 16, 24, 29, 41, 52, 66, 87, 95],
  [0, 13, 16, 24, 33, 36, 42, 51, 54, 62, 71, 74, 80],
  [0, 11, 14, 20, 21, 25, 28, 35, 40, 46, 47, 51, 54, 59, 61],
  [0, 5, 11, 33],
  [0, 8, 15, 18, 25, 30, 41, 50, 53, 59, 67, 69, 70, 79, 85],
  [0, 3, 9, 16, 30, 32, 38],
  [0, 6, 12, 16, 17],
  [0, 6, 12, 16, 17],
  [0, 104, 106],
  [0],
  [0],
  [0],
  [0, 8, 11, 17],
  [0, 8, 11, 17],
  [0, 8, 11, 17],
  [0],
  [0, 4, 10, 20, 26, 28, 41, 46, 56, 63, 70, 77, 82, 84, 108, 114, 119, 123, 124, 128, 133, 135, 138, 164, 165, 171, 176, 185, 186],
  [0, 6, 15, 16],
  [0, 60, 64, 68, 72, 73, 74, 78, 82, 86, 87, 88, 93, 97, 98, 99, 104, 108, 109, 110, 114, 118],
  [0],
  [0, 72, 87, 106, 188, 193, 200, 215, 218, 225, 238, 245, 248, 254, 267, 274, 283, 295, 308],
  [0, 32, 37, 38, 43, 44, 50, 51, 57, 58],
  [0, 5, 10, 13, 31],
  [0, 4, 10, 13, 31],
  [0, 5, 8, 12, 18, 21, 27, 37],
  [0, 4, 7, 11, 17, 20],
  [0, 28, 33, 36, 42, 48, 50, 51, 56, 59, 65, 71, 73, 74, 78, 81, 90, 92, 93],
  [0, 5, 8, 13, 16, 19],
  [0, 5, 8, 17, 19],
  [0, 4, 7, 11, 17, 20, 29, 32, 41, 54],
  [0, 4, 12, 16, 17],
  [0, 4, 12, 16, 17],
  [0, 4, 12, 16, 17],
  [0, 4, 10, 14, 15],
  [0, 4, 10, 14, 15],
  [0, 4, 11, 14, 27, 30],
  [0, 9, 12, 19, 32, 41, 43],
  [0, 4, 12, 15],
  [0, 5, 8, 12, 17, 20, 24, 52, 62, 72, 80],
  [0, 4, 9, 12, 16, 48, 55, 56, 63, 64, 72, 80, 84],
  [0, 5, 8, 12, 15, 19, 23, 37, 43, 59],
  [0, 4, 14, 17, 21, 24, 27, 31, 60, 68, 76],
  [0, 4, 7, 10, 14],
  [0, 4, 10, 13, 17, 20, 23, 27, 35],
  [0, 4, 9, 12, 21, 24, 31, 35, 44, 50, 58, 64, 70, 74, 78, 79],
  [0, 13, 26, 28, 36, 51, 57, 70, 77],
  [0, 5],
  [0, 13, 24, 26, 34, 44, 59, 65],
  [0, 2, 7, 12, 15, 19, 25],
  [0, 6, 9, 17, 23, 27, 29, 35],
  [0, 5, 14, 25, 31, 37, 50, 55, 61],
  [0, 4, 12, 25, 27, 33],
  [0, 17, 28, 35],
  [0, 4, 9, 13, 14],
  [0, 9, 17, 24, 45, 52, 56, 61, 65, 66],
  [0, 5, 8, 13, 18, 21, 24, 31, 34, 39, 46, 49, 55],
  [0, 5, 8, 11, 18, 21, 45],
  [0, 4, 9, 12, 19, 28, 36, 39, 46, 53, 59, 65, 71, 75, 79, 80],
  [0, 13, 24, 26, 34, 50, 68, 74],
  [0, 5, 10, 13, 16, 24, 26, 32, 45, 47, 55, 59, 65, 92, 98, 103, 114, 117, 123],
  [0, 4, 10, 19, 24, 39, 41, 47],
  [0, 11, 17, 41],
  [0, 4, 7, 11, 16, 19, 24, 29, 31, 40, 44, 47, 50, 67, 78, 88, 91, 94, 98, 108, 115],
  [0, 4, 7, 10, 15, 20, 22, 27, 36, 44, 47, 54, 57, 61, 64, 71, 77],
  [0, 4, 7, 10, 15, 20, 22, 24, 32, 37, 44, 47, 51, 54, 56, 62],
  [0, 6, 9, 12, 15, 21, 31, 35, 37],
  [0, 2, 10, 15, 30, 32, 38],
  [0, 4, 7, 13, 16, 18],
  [0, 5, 11, 15, 18, 23, 26, 30, 36, 42, 53, 63, 72],
  [0, 4, 10, 14, 15],
  [0, 15, 26, 29, 38, 72, 78, 85],
  [0, 90, 98, 112, 122],
  [0, 10, 13, 95, 103, 109, 127],
  [0, 40, 45, 50, 55, 60, 68, 73],
  [0, 4, 7, 12, 16, 19, 22, 27, 33, 38, 40, 46, 49, 53, 56, 62, 67],
  [0, 4, 7, 10, 16, 19, 22, 25, 31, 35, 38, 41, 47, 52],
  [0, 4, 7, 11, 14, 17, 23, 31, 38, 41, 46, 49, 52, 65, 68, 76, 79, 88, 91, 94, 99, 105],
  [0, 4, 7, 11, 14, 19, 26, 29, 35, 42, 45, 48, 57, 60, 66, 73, 82, 85, 88, 93, 106, 109, 115, 118, 130, 136],
  [0, 4, 7, 10, 15, 18, 21, 27, 31, 34, 40, 46, 48],
  [0, 4, 9, 13, 14],
  [0, 4, 9, 13, 14],
  [0, 6, 13, 17, 18],
  [0, 5, 9, 14, 18, 19],
  [0, 208, 230, 252, 274, 296, 318],
  [0],
  [0, 13],
  [0, 13],
  [0, 9, 12, 17, 22, 25, 30, 39, 42, 48, 52, 53, 57, 63, 68, 74, 79, 85, 88, 91, 94, 97, 101, 108, 113, 120, 125, 134, 140, 146, 154, 159, 167, 172, 182, 189, 192, 199, 204, 218],
  [0, 9, 12, 17, 22, 25, 28, 37, 40, 43, 47, 56, 61, 70, 76],
  [0, 13, 16, 21, 24, 27],
  [0, 13, 16, 25, 27],
  [0, 9, 12, 21, 24, 27, 36, 39],
  [0, 9, 12, 15, 25, 28],
  [0, 8, 22, 23],
  [0, 8, 13, 21, 26, 39, 55, 65, 81, 92, 95, 100, 108, 118, 121, 134, 145, 148, 160, 168, 178, 181, 187, 203, 212, 216, 235, 241, 245, 246, 252, 258, 264, 270, 276, 282, 288, 294, 300, 321],
  [0, 7, 20],
  [0, 13, 23, 27, 31, 35, 39, 43, 44],
  [0, 7, 15, 29, 35, 38, 44, 47, 53, 56, 63, 66, 73, 76, 83, 86, 94, 97, 105, 108, 112, 113],
  [0, 7, 15, 25, 29, 30],
  [0, 8, 12, 14, 28],
  [0, 16, 19, 24, 41, 44, 49, 65, 68, 73, 88, 91, 96, 112, 115, 120, 135, 138, 143, 147],
  [0, 8, 11, 15, 18, 22, 37, 43, 46, 50, 53, 57, 64, 67, 71, 88, 92, 95, 102, 110, 120, 123, 130, 138, 142, 150, 154, 157, 161],
  [0, 4, 5, 11, 14, 18, 23, 28],
  [0, 4, 5, 11, 14, 20, 23, 34, 38, 39, 44, 48, 53, 59, 62, 66],
  [0, 15, 18, 22, 25, 27, 31, 46, 50, 51, 52, 56, 63, 66, 72, 75, 77, 88, 92, 93, 98, 102, 107, 112, 115, 120, 124, 125],
  [0, 4, 5, 20, 23, 27, 31, 36, 40, 44, 45, 49],
  [0, 4, 5, 19, 22, 26, 30, 35, 39, 43, 44, 48],
  [0, 4, 8, 15, 19, 26, 30, 34, 41, 44, 48, 55, 59],
  [0, 38, 57, 60, 68, 72, 90, 93, 102, 106, 124, 127, 136, 143, 147, 151, 155, 160, 165, 167],
  [0, 9, 12, 14, 22, 49, 76, 84, 92],
  [0, 13, 16, 19],
  [0, 47, 53, 59, 62, 65],
  [0, 2, 9, 29],
  [0],
  [0, 8, 21, 37, 38],
  [0, 8, 21, 37, 38],
  [0, 2, 7, 27],
  [0, 8, 12, 16, 32, 42, 56, 65, 70, 72, 102],
  [0, 16, 24, 34, 43, 44, 55, 64, 65, 72],
  [0, 4, 8, 10, 18, 30, 36],
  [0, 5, 8, 17, 20, 23, 27, 31, 40, 45, 54, 71],
  [0, 2, 7, 13, 16, 24, 30, 34, 38, 44, 50],
  [0, 5, 14, 20, 26, 39, 51, 56, 57, 65],
  [0, 9, 12, 15, 20, 24, 25, 29, 34, 38, 42, 45, 50, 57, 61, 62, 66, 74, 97, 106, 112, 114, 122],
  [0, 6, 13, 31, 36, 43, 47],
  [0, 5, 8, 15, 18, 22, 26, 35, 41, 59],
  [0, 4, 12, 19, 32, 39, 43, 44],
  [0, 8, 12, 13, 32, 40, 48, 58, 85, 99, 129, 135],
  [0, 2, 10, 28, 30, 36],
  [0, 8, 12, 20, 24, 47, 51, 52, 59, 63, 81, 85, 86, 90, 93, 94, 98, 107, 115, 123, 134, 142, 143, 151, 159, 167, 178, 200],
  [0, 2, 10, 28],
  [0, 4, 8, 24, 28, 29, 37],
  [0, 9, 12, 17, 27, 30, 34, 37, 40, 46, 50, 57, 62, 69, 77],
  [0, 4, 7, 10, 16, 18, 26, 44],
  [0, 9, 12, 15, 19, 22, 25, 31],
  [0, 7, 10, 13, 22, 25, 42, 51, 81, 98, 105, 111, 117, 123, 137, 141, 142],
  [0, 11, 20, 33],
  [0, 8, 12, 16, 22, 27, 43],
  [0, 20, 29, 35, 40, 41, 47, 54, 62, 68, 77, 78, 84, 89, 94, 95, 101, 110, 127, 132, 134, 142],
  [0, 4, 8, 10, 18, 29, 42, 48],
  [0, 5, 8, 23, 26, 29, 34, 39, 43, 46, 52],
  [0, 5, 8, 11, 16, 18, 26, 44, 48],
  [0, 7, 10, 13, 20, 29, 35, 39, 46, 52, 58, 64, 68, 72, 73],
  [0, 5, 10, 13, 16, 18, 23, 36, 40, 48, 54, 60, 67, 76, 82, 99, 103, 109, 143, 148, 155, 173, 182, 193, 203, 204, 217, 227, 229, 237],
  [0, 4, 7, 10, 19, 22, 35, 39, 41],
  [0, 4, 7, 14, 17, 20, 25, 30, 32, 41, 45, 48, 51, 57, 61, 66, 73, 75, 81, 90, 111],
  [0, 5, 10, 12, 17, 26, 32, 38, 47, 52, 74, 78, 79, 87, 93, 97, 98, 109],
  [0, 5, 10, 12, 16, 18, 26, 30, 33, 42, 53, 67, 73, 79, 88, 93, 99, 121, 125, 126, 134, 139, 141, 147],
  [0, 4, 9, 18, 49, 55, 59],
  [0, 9, 12, 15, 19, 25],
  [0, 9, 12, 21, 24, 32, 35, 39, 43, 49, 55, 66, 76, 85],
  [0, 2, 8, 26, 28, 34, 52, 54, 60, 78],
  [0, 8, 11, 13, 19, 37, 39, 45, 63, 65, 71, 89],
  [0, 9, 12, 15, 20, 24, 31, 36, 43, 47, 48, 53, 60, 65, 72, 76],
  [0, 9],
  [0, 4, 7, 18, 21, 25, 31, 34, 38, 42, 45, 54, 58, 59, 77, 83, 87, 106],
  [0, 4, 7, 10, 19, 22, 37, 40, 43, 62, 67, 77, 82, 83],
  [0, 4, 7, 11, 14, 17, 26, 35, 38, 53, 56, 61, 65, 70, 83, 97, 100, 105, 111, 115, 116, 121, 128, 133, 143, 145, 182],
  [0, 4, 7, 16, 19, 29, 32, 35, 44, 54, 57, 66, 69, 75, 82, 86, 101, 104, 126, 129, 133, 134, 143],
  [0, 4, 8, 13, 17, 22, 27, 31, 32],
  [0, 9, 12, 15, 20, 23, 26, 33, 38, 43, 47, 51, 56, 65, 67],
  [0, 7, 15, 18, 27, 176, 195, 214, 217, 219, 233, 247, 250, 252, 266, 280, 283, 285, 294, 303, 306, 308, 322, 336, 339, 341, 350, 359, 362, 364, 368, 372, 375, 377, 386, 395, 398, 400, 414, 428, 431, 433, 442, 451, 454, 456, 470, 484, 488, 490, 499, 508, 511, 513, 517, 521, 524, 526, 535, 544, 547, 549, 558, 567, 570, 572, 586, 600, 603, 605, 614, 623, 626, 628, 637, 646, 649, 651, 660, 669, 672, 674, 688, 702, 705, 707, 716, 725, 728, 730, 739, 748, 751, 753, 767, 781, 784, 786, 810, 834, 838, 840, 844, 848, 851, 853, 857, 861, 864, 866, 875, 884, 887, 889, 908, 927, 930, 932, 951, 970, 973, 975, 1004, 1033, 1036, 1038, 1062, 1086, 1089, 1091, 1105, 1119, 1122, 1124, 1130],
  [0, 9],
  [0, 4, 7, 15, 16, 24],
  [0, 6, 13, 14],
  [0, 6, 13, 17, 18],
  [0, 8],
  [0, 6],
  [0, 5, 10, 20],
  [0, 6, 10, 14],
  [0, 4, 9, 15, 16]]
end
section
/-! THE RUN. Fuel n counts blocks, d the calls that may stand open. -/
noncomputable def am_isV (v : Value) : Bool := am_isT 0 v || (am_isT 1 v || am_isT 2 v)
/-- what a call hands over fits -/
noncomputable def am_okA (y : Nat) (as : List Value) : Bool := Nat.ble (am_sl as).length (am_mx y) && as.all am_isV
noncomputable def am_run : Nat → Nat → Nat → Nat → am_M → am_L → List Value → Option am_V
  | 0, _, _, _, _, _, _ => none
  | n + 1, d, m, b, M, L, S => am_ex d (fun b' M' L' S' => am_run n d m b' M' L' S') (fun y M' as => match d with | 0 => none | e + 1 => cond (am_okA y as) (am_run n e y 0 M' (am_in (am_mx y) as) []) none) (am_blk m b) true M L S
theorem am_ex_cons (d : Nat) (J : Nat → am_M → am_L → List Value → Option am_V) (C : Nat → am_M → List Value → Option am_V) (i : am_P) (is : List am_P) : am_ex d J C (i :: is) = am_st d J C i (am_ex d J C is) := rfl
theorem am_ex_nil (d : Nat) (J : Nat → am_M → am_L → List Value → Option am_V) (C : Nat → am_M → List Value → Option am_V) (f : Bool) (M : am_M) (L : am_L) (S : List Value) : am_ex d J C [] f M L S = none := rfl
/-- more answers behind, more answers ahead -/
theorem am_ex_mono {d : Nat} {J J' : Nat → am_M → am_L → List Value → Option am_V} {C C' : Nat → am_M → List Value → Option am_V} (hJ : ∀ b M L S v, J b M L S = some v → J' b M L S = some v) (hC : ∀ y M as v, C y M as = some v → C' y M as = some v) : ∀ (is : List am_P) (f : Bool) (M : am_M) (L : am_L) (S : List Value) (v : am_V), am_ex d J C is f M L S = some v → am_ex d J' C' is f M L S = some v := by
  intro is
  induction is with
  | nil => intro f M L S v h; exact h
  | cons i is ih =>
    intro f M L S v h
    rw [am_ex_cons] at h ⊢
    unfold am_st at h ⊢
    generalize am_srt i = s at h ⊢
    rcases s with _ | _ | _ | s
    · unfold am_sS at h ⊢
      cases hq : am_s1 d i M L S with
      | none => rw [hq] at h; cases h
      | some q => rw [hq] at h; exact ih _ _ _ _ _ h
    · unfold am_sS at h ⊢
      cases hq : am_s2 i S with
      | none => rw [hq] at h; cases h
      | some q =>
        rw [hq] at h
        cases f with
        | false => cases h
        | true => exact hJ _ _ _ _ _ h
    · unfold am_sS at h ⊢
      cases hq : am_s3 i M S with
      | none => rw [hq] at h; cases h
      | some q =>
        rw [hq] at h
        simp only [Option.bind_some] at h ⊢
        cases hf : (q.1 && f) with
        | false => rw [hf] at h; cases h
        | true =>
          rw [hf] at h
          simp only [cond_true] at h ⊢
          cases hc : C (am_x i) M q.2.1 with
          | none => rw [hc] at h; cases h
          | some r =>
            rw [hc] at h
            rw [hC _ _ _ _ hc]
            exact hJ _ _ _ _ _ h
    · exact h
theorem am_run_mono1 : ∀ (n d m b : Nat) (M : am_M) (L : am_L) (S : List Value) (v : am_V), am_run n d m b M L S = some v → am_run (n + 1) d m b M L S = some v := by
  intro n
  induction n with
  | zero => intro d m b M L S v h; cases h
  | succ n ih =>
    intro d m b M L S v h
    rw [am_run] at h ⊢
    refine am_ex_mono (fun b M L S v h => ih _ _ _ _ _ _ _ h) (fun y M as v h => ?_) _ _ _ _ _ _ h
    cases d with
    | zero => cases h
    | succ e =>
      cases hk : am_okA y as with
      | false => simp only [hk, cond_false] at h; cases h
      | true =>
        simp only [hk, cond_true] at h ⊢
        exact ih _ _ _ _ _ _ _ h
theorem am_run_mono {n n' : Nat} (hn : n ≤ n') {d m b : Nat} {M : am_M} {L : am_L} {S : List Value} {v : am_V} (h : am_run n d m b M L S = some v) : am_run n' d m b M L S = some v := by
  induction hn with
  | refl => exact h
  | step _ ih => exact am_run_mono1 _ _ _ _ _ _ _ _ ih
noncomputable def am_R (d m b : Nat) (M : am_M) (L : am_L) (S : List Value) : Option am_V := Classical.epsilon (fun o => (∃ n, am_run n d m b M L S = o ∧ o.isSome) ∨ (o = none ∧ ∀ n, am_run n d m b M L S = none))
theorem am_R_spec (d m b : Nat) (M : am_M) (L : am_L) (S : List Value) : (∃ n, am_run n d m b M L S = am_R d m b M L S ∧ (am_R d m b M L S).isSome) ∨ (am_R d m b M L S = none ∧ ∀ n, am_run n d m b M L S = none) := by
  refine Classical.epsilon_spec (p := fun o => (∃ n, am_run n d m b M L S = o ∧ o.isSome) ∨ (o = none ∧ ∀ n, am_run n d m b M L S = none)) ?_
  by_cases h : ∃ n, (am_run n d m b M L S).isSome
  · obtain ⟨n, hn⟩ := h
    exact ⟨_, Or.inl ⟨n, rfl, hn⟩⟩
  · refine ⟨none, Or.inr ⟨rfl, fun n => ?_⟩⟩
    cases hr : am_run n d m b M L S with
    | none => rfl
    | some v => exact absurd ⟨n, by rw [hr]; rfl⟩ h
theorem am_R_some {d m b : Nat} {M : am_M} {L : am_L} {S : List Value} {v : am_V} (h : am_R d m b M L S = some v) : ∃ n, am_run n d m b M L S = some v := by
  rcases am_R_spec d m b M L S with ⟨n, h1, -⟩ | ⟨h1, -⟩
  · exact ⟨n, h1.trans h⟩
  · rw [h] at h1; cases h1
theorem am_R_of {n d m b : Nat} {M : am_M} {L : am_L} {S : List Value} {v : am_V} (h : am_run n d m b M L S = some v) : am_R d m b M L S = some v := by
  rcases am_R_spec d m b M L S with ⟨k, h1, h2⟩ | ⟨-, h1⟩
  · cases hr : am_R d m b M L S with
    | none => rw [hr] at h2; cases h2
    | some w =>
      rw [hr] at h1
      have e1 := am_run_mono (Nat.le_max_left n k) h
      have e2 := am_run_mono (Nat.le_max_right n k) h1
      rw [e1] at e2
      exact e2.symm
  · rw [h1 n] at h; cases h
/-- what a call answers -/
noncomputable def am_C (d y : Nat) (M : am_M) (as : List Value) : Option am_V := match d with
  | 0 => none
  | e + 1 => cond (am_okA y as) (am_R e y 0 M (am_in (am_mx y) as) []) none
/-- finitely many answers behind an answer: one fuel for all of them -/
theorem am_ex_fin {d m : Nat} : ∀ (is : List am_P) (f : Bool) (M : am_M) (L : am_L) (S : List Value) (v : am_V), am_ex d (am_R d m) (am_C d) is f M L S = some v → ∃ n, am_ex d (fun b' M' L' S' => am_run n d m b' M' L' S') (fun y M' as => match d with | 0 => none | e + 1 => cond (am_okA y as) (am_run n e y 0 M' (am_in (am_mx y) as) []) none) is f M L S = some v := by
  intro is
  induction is with
  | nil => intro f M L S v h; cases h
  | cons i is ih =>
    intro f M L S v h
    rw [am_ex_cons] at h
    simp only [am_ex_cons]
    unfold am_st at h ⊢
    generalize am_srt i = s at h ⊢
    rcases s with _ | _ | _ | s
    · unfold am_sS at h ⊢
      cases hq : am_s1 d i M L S with
      | none => rw [hq] at h; cases h
      | some q => rw [hq] at h; exact ih _ _ _ _ _ h
    · unfold am_sS at h ⊢
      cases hq : am_s2 i S with
      | none => rw [hq] at h; cases h
      | some q =>
        rw [hq] at h
        cases f with
        | false => cases h
        | true => exact am_R_some h
    · unfold am_sS at h ⊢
      cases hq : am_s3 i M S with
      | none => rw [hq] at h; cases h
      | some q =>
        rw [hq] at h
        simp only [Option.bind_some] at h ⊢
        cases hf : (q.1 && f) with
        | false => rw [hf] at h; cases h
        | true =>
          rw [hf] at h
          simp only [cond_true] at h ⊢
          cases hc : am_C d (am_x i) M q.2.1 with
          | none => rw [hc] at h; cases h
          | some r =>
            rw [hc] at h
            obtain ⟨n2, h2⟩ := am_R_some h
            cases d with
            | zero => cases hc
            | succ e =>
              cases hk : am_okA (am_x i) q.2.1 with
              | false => simp only [am_C, hk, cond_false] at hc; cases hc
              | true =>
                simp only [am_C, hk, cond_true] at hc
                obtain ⟨n1, h1⟩ := am_R_some hc
                refine ⟨max n1 n2, ?_⟩
                simp only [hk, cond_true, am_run_mono (Nat.le_max_left n1 n2) h1, Option.bind_some]
                exact am_run_mono (Nat.le_max_right n1 n2) h2
    · exact ⟨0, h⟩
/-- THE EQUATION OF A BLOCK -/
theorem am_R_eq (d m b : Nat) (M : am_M) (L : am_L) (S : List Value) : am_R d m b M L S = am_ex d (am_R d m) (am_C d) (am_blk m b) true M L S := by
  cases hr : am_ex d (am_R d m) (am_C d) (am_blk m b) true M L S with
  | some v =>
    obtain ⟨n, hn⟩ := am_ex_fin _ _ _ _ _ _ hr
    exact am_R_of (n := n + 1) (by rw [am_run]; exact hn)
  | none =>
    cases h : am_R d m b M L S with
    | none => rfl
    | some v =>
      obtain ⟨n, hn⟩ := am_R_some h
      cases n with
      | zero => cases hn
      | succ n =>
        rw [am_run] at hn
        have := am_ex_mono (J' := am_R d m) (C' := am_C d) (fun b M L S v h => am_R_of h) (fun y M as v h => by
          cases d with
          | zero => cases h
          | succ e =>
            cases hk : am_okA y as with
            | false => simp only [hk, cond_false] at h; cases h
            | true =>
              simp only [am_C, hk, cond_true] at h ⊢
              exact am_R_of h) _ _ _ _ _ _ hn
        rw [hr] at this
        cases this
theorem am_R_b {m b : Nat} {is : List am_P} (h : am_blk m b = is) (d : Nat) (M : am_M) (L : am_L) (S : List Value) : am_R d m b M L S = am_ex d (am_R d m) (am_C d) is true M L S := by rw [am_R_eq, h]
end
