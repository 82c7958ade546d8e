section
-- ===== PART A: goes FIRST, ahead of the names: the tables' words, and 'selects' of the private methods out of them =====
/-- a private method of a class that the tables say can be made, by its rows of tables_1 -/
def lw_okq (q : MethodName × Nat) : Prop := (q.1.cls ≠ "java/lang/invoke/MethodHandle" ∧ q.1.cls ≠ "java/lang/invoke/VarHandle") ∧ Cond.instantiable q.1.cls q.2 ∈ tables_1 ∧ Cond.privateMethod q.1 ∈ tables_1 ∧ Cond.instanceMethod q.1 ∈ tables_1
theorem lw_p0 : lw_okq (⟨"EvenlyPoured", "changeCups", "(I)I"⟩, 18) := ⟨⟨by decide +kernel, by decide +kernel⟩, List.mem_of_getElem? (i := 20) (by decide +kernel), List.mem_of_getElem? (i := 344) (by decide +kernel), List.mem_of_getElem? (i := 345) (by decide +kernel)⟩
theorem lw_p1 : lw_okq (⟨"EvenlyPoured", "changeDribs", "(I)I"⟩, 18) := ⟨⟨by decide +kernel, by decide +kernel⟩, List.mem_of_getElem? (i := 20) (by decide +kernel), List.mem_of_getElem? (i := 351) (by decide +kernel), List.mem_of_getElem? (i := 352) (by decide +kernel)⟩
theorem lw_p2 : lw_okq (⟨"EvenlyPoured", "changeNumber", "(II)I"⟩, 18) := ⟨⟨by decide +kernel, by decide +kernel⟩, List.mem_of_getElem? (i := 20) (by decide +kernel), List.mem_of_getElem? (i := 355) (by decide +kernel), List.mem_of_getElem? (i := 356) (by decide +kernel)⟩
theorem lw_p3 : lw_okq (⟨"EvenlyPoured", "isPourer", "(I)Z"⟩, 18) := ⟨⟨by decide +kernel, by decide +kernel⟩, List.mem_of_getElem? (i := 20) (by decide +kernel), List.mem_of_getElem? (i := 359) (by decide +kernel), List.mem_of_getElem? (i := 360) (by decide +kernel)⟩
theorem lw_p4 : lw_okq (⟨"EvenlyPoured", "changePrice", "(II)I"⟩, 18) := ⟨⟨by decide +kernel, by decide +kernel⟩, List.mem_of_getElem? (i := 20) (by decide +kernel), List.mem_of_getElem? (i := 363) (by decide +kernel), List.mem_of_getElem? (i := 364) (by decide +kernel)⟩
theorem lw_p5 : lw_okq (⟨"EvenlyPoured", "isDrib", "(I)Z"⟩, 18) := ⟨⟨by decide +kernel, by decide +kernel⟩, List.mem_of_getElem? (i := 20) (by decide +kernel), List.mem_of_getElem? (i := 378) (by decide +kernel), List.mem_of_getElem? (i := 379) (by decide +kernel)⟩
theorem lw_p6 : lw_okq (⟨"EvenlyPoured", "isCup", "(I)Z"⟩, 18) := ⟨⟨by decide +kernel, by decide +kernel⟩, List.mem_of_getElem? (i := 20) (by decide +kernel), List.mem_of_getElem? (i := 382) (by decide +kernel), List.mem_of_getElem? (i := 383) (by decide +kernel)⟩
theorem lw_p7 : lw_okq (⟨"EvenlyPoured$Tape", "endOf", "(I)I"⟩, 5) := ⟨⟨by decide +kernel, by decide +kernel⟩, List.mem_of_getElem? (i := 32) (by decide +kernel), List.mem_of_getElem? (i := 413) (by decide +kernel), List.mem_of_getElem? (i := 414) (by decide +kernel)⟩
theorem lw_p8 : lw_okq (⟨"EvenlyPoured$Tape", "tokenOf", "(II)I"⟩, 5) := ⟨⟨by decide +kernel, by decide +kernel⟩, List.mem_of_getElem? (i := 32) (by decide +kernel), List.mem_of_getElem? (i := 423) (by decide +kernel), List.mem_of_getElem? (i := 424) (by decide +kernel)⟩
theorem lw_p9 : lw_okq (⟨"EvenlyPoured$Tape", "wordOf", "(II)I"⟩, 5) := ⟨⟨by decide +kernel, by decide +kernel⟩, List.mem_of_getElem? (i := 32) (by decide +kernel), List.mem_of_getElem? (i := 427) (by decide +kernel), List.mem_of_getElem? (i := 428) (by decide +kernel)⟩
theorem lw_p10 : lw_okq (⟨"EvenlyPoured$Tape", "isSpelled", "(III)Z"⟩, 5) := ⟨⟨by decide +kernel, by decide +kernel⟩, List.mem_of_getElem? (i := 32) (by decide +kernel), List.mem_of_getElem? (i := 480) (by decide +kernel), List.mem_of_getElem? (i := 481) (by decide +kernel)⟩
theorem lw_p11 : lw_okq (⟨"EvenlyPoured$Tape", "numberOf", "(II)I"⟩, 5) := ⟨⟨by decide +kernel, by decide +kernel⟩, List.mem_of_getElem? (i := 32) (by decide +kernel), List.mem_of_getElem? (i := 484) (by decide +kernel), List.mem_of_getElem? (i := 485) (by decide +kernel)⟩
theorem lw_p12 : lw_okq (⟨"EvenlyPoured$Reader", "clause", "(I)[I"⟩, 5) := ⟨⟨by decide +kernel, by decide +kernel⟩, List.mem_of_getElem? (i := 60) (by decide +kernel), List.mem_of_getElem? (i := 491) (by decide +kernel), List.mem_of_getElem? (i := 492) (by decide +kernel)⟩
theorem lw_p13 : lw_okq (⟨"EvenlyPoured$Reader", "demand", "(I)V"⟩, 5) := ⟨⟨by decide +kernel, by decide +kernel⟩, List.mem_of_getElem? (i := 60) (by decide +kernel), List.mem_of_getElem? (i := 495) (by decide +kernel), List.mem_of_getElem? (i := 496) (by decide +kernel)⟩
theorem lw_p14 : lw_okq (⟨"EvenlyPoured$Reader", "token", "()I"⟩, 5) := ⟨⟨by decide +kernel, by decide +kernel⟩, List.mem_of_getElem? (i := 60) (by decide +kernel), List.mem_of_getElem? (i := 499) (by decide +kernel), List.mem_of_getElem? (i := 500) (by decide +kernel)⟩
theorem lw_p15 : lw_okq (⟨"EvenlyPoured$Reader", "step", "()V"⟩, 5) := ⟨⟨by decide +kernel, by decide +kernel⟩, List.mem_of_getElem? (i := 60) (by decide +kernel), List.mem_of_getElem? (i := 503) (by decide +kernel), List.mem_of_getElem? (i := 504) (by decide +kernel)⟩
def lw_privs_1 : List (MethodName × Nat) := [(⟨"EvenlyPoured", "changeCups", "(I)I"⟩, 18), (⟨"EvenlyPoured", "changeDribs", "(I)I"⟩, 18), (⟨"EvenlyPoured", "changeNumber", "(II)I"⟩, 18), (⟨"EvenlyPoured", "isPourer", "(I)Z"⟩, 18), (⟨"EvenlyPoured", "changePrice", "(II)I"⟩, 18), (⟨"EvenlyPoured", "isDrib", "(I)Z"⟩, 18), (⟨"EvenlyPoured", "isCup", "(I)Z"⟩, 18), (⟨"EvenlyPoured$Tape", "endOf", "(I)I"⟩, 5), (⟨"EvenlyPoured$Tape", "tokenOf", "(II)I"⟩, 5), (⟨"EvenlyPoured$Tape", "wordOf", "(II)I"⟩, 5), (⟨"EvenlyPoured$Tape", "isSpelled", "(III)Z"⟩, 5), (⟨"EvenlyPoured$Tape", "numberOf", "(II)I"⟩, 5), (⟨"EvenlyPoured$Reader", "clause", "(I)[I"⟩, 5), (⟨"EvenlyPoured$Reader", "demand", "(I)V"⟩, 5), (⟨"EvenlyPoured$Reader", "token", "()I"⟩, 5), (⟨"EvenlyPoured$Reader", "step", "()V"⟩, 5)]
theorem lw_r1 : ∀ q ∈ lw_privs_1, lw_okq q := List.forall_mem_cons.mpr ⟨lw_p0, List.forall_mem_cons.mpr ⟨lw_p1, List.forall_mem_cons.mpr ⟨lw_p2, List.forall_mem_cons.mpr ⟨lw_p3, List.forall_mem_cons.mpr ⟨lw_p4, List.forall_mem_cons.mpr ⟨lw_p5, List.forall_mem_cons.mpr ⟨lw_p6, List.forall_mem_cons.mpr ⟨lw_p7, List.forall_mem_cons.mpr ⟨lw_p8, List.forall_mem_cons.mpr ⟨lw_p9, List.forall_mem_cons.mpr ⟨lw_p10, List.forall_mem_cons.mpr ⟨lw_p11, List.forall_mem_cons.mpr ⟨lw_p12, List.forall_mem_cons.mpr ⟨lw_p13, List.forall_mem_cons.mpr ⟨lw_p14, List.forall_mem_cons.mpr ⟨lw_p15, fun _ h => absurd h List.not_mem_nil⟩⟩⟩⟩⟩⟩⟩⟩⟩⟩⟩⟩⟩⟩⟩⟩
theorem lw_p16 : lw_okq (⟨"EvenlyPoured$Reader", "part", "(II)V"⟩, 5) := ⟨⟨by decide +kernel, by decide +kernel⟩, List.mem_of_getElem? (i := 60) (by decide +kernel), List.mem_of_getElem? (i := 507) (by decide +kernel), List.mem_of_getElem? (i := 508) (by decide +kernel)⟩
theorem lw_p17 : lw_okq (⟨"EvenlyPoured$Reader", "one", "(I)V"⟩, 5) := ⟨⟨by decide +kernel, by decide +kernel⟩, List.mem_of_getElem? (i := 60) (by decide +kernel), List.mem_of_getElem? (i := 511) (by decide +kernel), List.mem_of_getElem? (i := 512) (by decide +kernel)⟩
theorem lw_p18 : lw_okq (⟨"EvenlyPoured$Reader", "put", "(I)V"⟩, 5) := ⟨⟨by decide +kernel, by decide +kernel⟩, List.mem_of_getElem? (i := 60) (by decide +kernel), List.mem_of_getElem? (i := 515) (by decide +kernel), List.mem_of_getElem? (i := 516) (by decide +kernel)⟩
theorem lw_p19 : lw_okq (⟨"EvenlyPoured$Reader", "inside", "(II)V"⟩, 5) := ⟨⟨by decide +kernel, by decide +kernel⟩, List.mem_of_getElem? (i := 60) (by decide +kernel), List.mem_of_getElem? (i := 519) (by decide +kernel), List.mem_of_getElem? (i := 520) (by decide +kernel)⟩
theorem lw_p20 : lw_okq (⟨"EvenlyPoured", "pourRow", "()V"⟩, 18) := ⟨⟨by decide +kernel, by decide +kernel⟩, List.mem_of_getElem? (i := 20) (by decide +kernel), List.mem_of_getElem? (i := 557) (by decide +kernel), List.mem_of_getElem? (i := 558) (by decide +kernel)⟩
theorem lw_p21 : lw_okq (⟨"EvenlyPoured", "pourAllBut", "(I)V"⟩, 18) := ⟨⟨by decide +kernel, by decide +kernel⟩, List.mem_of_getElem? (i := 20) (by decide +kernel), List.mem_of_getElem? (i := 561) (by decide +kernel), List.mem_of_getElem? (i := 562) (by decide +kernel)⟩
theorem lw_p22 : lw_okq (⟨"EvenlyPoured$Teller", "worth", "([I)I"⟩, 3) := ⟨⟨by decide +kernel, by decide +kernel⟩, List.mem_of_getElem? (i := 170) (by decide +kernel), List.mem_of_getElem? (i := 586) (by decide +kernel), List.mem_of_getElem? (i := 587) (by decide +kernel)⟩
theorem lw_p23 : lw_okq (⟨"EvenlyPoured$Teller", "named", "(I)I"⟩, 3) := ⟨⟨by decide +kernel, by decide +kernel⟩, List.mem_of_getElem? (i := 170) (by decide +kernel), List.mem_of_getElem? (i := 590) (by decide +kernel), List.mem_of_getElem? (i := 591) (by decide +kernel)⟩
theorem lw_p24 : lw_okq (⟨"EvenlyPoured", "greatestEvenPower", "()I"⟩, 18) := ⟨⟨by decide +kernel, by decide +kernel⟩, List.mem_of_getElem? (i := 20) (by decide +kernel), List.mem_of_getElem? (i := 637) (by decide +kernel), List.mem_of_getElem? (i := 638) (by decide +kernel)⟩
theorem lw_p25 : lw_okq (⟨"EvenlyPoured", "isAsMuchInEachCup", "(I)Z"⟩, 18) := ⟨⟨by decide +kernel, by decide +kernel⟩, List.mem_of_getElem? (i := 20) (by decide +kernel), List.mem_of_getElem? (i := 641) (by decide +kernel), List.mem_of_getElem? (i := 642) (by decide +kernel)⟩
theorem lw_p26 : lw_okq (⟨"EvenlyPoured", "sumOfPowers", "(II)I"⟩, 18) := ⟨⟨by decide +kernel, by decide +kernel⟩, List.mem_of_getElem? (i := 20) (by decide +kernel), List.mem_of_getElem? (i := 645) (by decide +kernel), List.mem_of_getElem? (i := 646) (by decide +kernel)⟩
theorem lw_p27 : lw_okq (⟨"EvenlyPoured", "waysAreFew", "()Z"⟩, 18) := ⟨⟨by decide +kernel, by decide +kernel⟩, List.mem_of_getElem? (i := 20) (by decide +kernel), List.mem_of_getElem? (i := 664) (by decide +kernel), List.mem_of_getElem? (i := 665) (by decide +kernel)⟩
theorem lw_p28 : lw_okq (⟨"EvenlyPoured", "findEvenest", "()V"⟩, 18) := ⟨⟨by decide +kernel, by decide +kernel⟩, List.mem_of_getElem? (i := 20) (by decide +kernel), List.mem_of_getElem? (i := 669) (by decide +kernel), List.mem_of_getElem? (i := 670) (by decide +kernel)⟩
theorem lw_p29 : lw_okq (⟨"EvenlyPoured$Search", "learnGains", "(II)V"⟩, 17) := ⟨⟨by decide +kernel, by decide +kernel⟩, List.mem_of_getElem? (i := 221) (by decide +kernel), List.mem_of_getElem? (i := 678) (by decide +kernel), List.mem_of_getElem? (i := 679) (by decide +kernel)⟩
theorem lw_p30 : lw_okq (⟨"EvenlyPoured$Search", "gainPlace", "(IIII)I"⟩, 17) := ⟨⟨by decide +kernel, by decide +kernel⟩, List.mem_of_getElem? (i := 221) (by decide +kernel), List.mem_of_getElem? (i := 685) (by decide +kernel), List.mem_of_getElem? (i := 686) (by decide +kernel)⟩
theorem lw_p31 : lw_okq (⟨"EvenlyPoured$Search", "empty", "()V"⟩, 17) := ⟨⟨by decide +kernel, by decide +kernel⟩, List.mem_of_getElem? (i := 221) (by decide +kernel), List.mem_of_getElem? (i := 694) (by decide +kernel), List.mem_of_getElem? (i := 695) (by decide +kernel)⟩
def lw_privs_2 : List (MethodName × Nat) := [(⟨"EvenlyPoured$Reader", "part", "(II)V"⟩, 5), (⟨"EvenlyPoured$Reader", "one", "(I)V"⟩, 5), (⟨"EvenlyPoured$Reader", "put", "(I)V"⟩, 5), (⟨"EvenlyPoured$Reader", "inside", "(II)V"⟩, 5), (⟨"EvenlyPoured", "pourRow", "()V"⟩, 18), (⟨"EvenlyPoured", "pourAllBut", "(I)V"⟩, 18), (⟨"EvenlyPoured$Teller", "worth", "([I)I"⟩, 3), (⟨"EvenlyPoured$Teller", "named", "(I)I"⟩, 3), (⟨"EvenlyPoured", "greatestEvenPower", "()I"⟩, 18), (⟨"EvenlyPoured", "isAsMuchInEachCup", "(I)Z"⟩, 18), (⟨"EvenlyPoured", "sumOfPowers", "(II)I"⟩, 18), (⟨"EvenlyPoured", "waysAreFew", "()Z"⟩, 18), (⟨"EvenlyPoured", "findEvenest", "()V"⟩, 18), (⟨"EvenlyPoured$Search", "learnGains", "(II)V"⟩, 17), (⟨"EvenlyPoured$Search", "gainPlace", "(IIII)I"⟩, 17), (⟨"EvenlyPoured$Search", "empty", "()V"⟩, 17)]
theorem lw_r2 : ∀ q ∈ lw_privs_2, lw_okq q := List.forall_mem_cons.mpr ⟨lw_p16, List.forall_mem_cons.mpr ⟨lw_p17, List.forall_mem_cons.mpr ⟨lw_p18, List.forall_mem_cons.mpr ⟨lw_p19, List.forall_mem_cons.mpr ⟨lw_p20, List.forall_mem_cons.mpr ⟨lw_p21, List.forall_mem_cons.mpr ⟨lw_p22, List.forall_mem_cons.mpr ⟨lw_p23, List.forall_mem_cons.mpr ⟨lw_p24, List.forall_mem_cons.mpr ⟨lw_p25, List.forall_mem_cons.mpr ⟨lw_p26, List.forall_mem_cons.mpr ⟨lw_p27, List.forall_mem_cons.mpr ⟨lw_p28, List.forall_mem_cons.mpr ⟨lw_p29, List.forall_mem_cons.mpr ⟨lw_p30, List.forall_mem_cons.mpr ⟨lw_p31, fun _ h => absurd h List.not_mem_nil⟩⟩⟩⟩⟩⟩⟩⟩⟩⟩⟩⟩⟩⟩⟩⟩
theorem lw_p32 : lw_okq (⟨"EvenlyPoured$Search", "tryBalanced", "(III)V"⟩, 17) := ⟨⟨by decide +kernel, by decide +kernel⟩, List.mem_of_getElem? (i := 221) (by decide +kernel), List.mem_of_getElem? (i := 698) (by decide +kernel), List.mem_of_getElem? (i := 699) (by decide +kernel)⟩
theorem lw_p33 : lw_okq (⟨"EvenlyPoured$Search", "judge", "(I)V"⟩, 17) := ⟨⟨by decide +kernel, by decide +kernel⟩, List.mem_of_getElem? (i := 221) (by decide +kernel), List.mem_of_getElem? (i := 702) (by decide +kernel), List.mem_of_getElem? (i := 703) (by decide +kernel)⟩
theorem lw_p34 : lw_okq (⟨"EvenlyPoured$Search", "hasRoom", "(I)Z"⟩, 17) := ⟨⟨by decide +kernel, by decide +kernel⟩, List.mem_of_getElem? (i := 221) (by decide +kernel), List.mem_of_getElem? (i := 709) (by decide +kernel), List.mem_of_getElem? (i := 710) (by decide +kernel)⟩
theorem lw_p35 : lw_okq (⟨"EvenlyPoured$Search", "gain", "(III)I"⟩, 17) := ⟨⟨by decide +kernel, by decide +kernel⟩, List.mem_of_getElem? (i := 221) (by decide +kernel), List.mem_of_getElem? (i := 713) (by decide +kernel), List.mem_of_getElem? (i := 714) (by decide +kernel)⟩
theorem lw_p36 : lw_okq (⟨"EvenlyPoured", "unevenWithOneMore", "(I)I"⟩, 18) := ⟨⟨by decide +kernel, by decide +kernel⟩, List.mem_of_getElem? (i := 20) (by decide +kernel), List.mem_of_getElem? (i := 735) (by decide +kernel), List.mem_of_getElem? (i := 736) (by decide +kernel)⟩
theorem lw_p37 : lw_okq (⟨"EvenlyPoured", "pourBy", "(LEvenlyPoured$Pourer;)V"⟩, 18) := ⟨⟨by decide +kernel, by decide +kernel⟩, List.mem_of_getElem? (i := 20) (by decide +kernel), List.mem_of_getElem? (i := 743) (by decide +kernel), List.mem_of_getElem? (i := 744) (by decide +kernel)⟩
theorem lw_p38 : lw_okq (⟨"EvenlyPoured", "dearestLeft", "()I"⟩, 18) := ⟨⟨by decide +kernel, by decide +kernel⟩, List.mem_of_getElem? (i := 20) (by decide +kernel), List.mem_of_getElem? (i := 773) (by decide +kernel), List.mem_of_getElem? (i := 774) (by decide +kernel)⟩
theorem lw_p39 : lw_okq (⟨"EvenlyPoured", "notTasted", "(I)I"⟩, 18) := ⟨⟨by decide +kernel, by decide +kernel⟩, List.mem_of_getElem? (i := 20) (by decide +kernel), List.mem_of_getElem? (i := 785) (by decide +kernel), List.mem_of_getElem? (i := 786) (by decide +kernel)⟩
theorem lw_p40 : lw_okq (⟨"EvenlyPoured$Search", "tryTold", "(III[I)V"⟩, 17) := ⟨⟨by decide +kernel, by decide +kernel⟩, List.mem_of_getElem? (i := 221) (by decide +kernel), List.mem_of_getElem? (i := 797) (by decide +kernel), List.mem_of_getElem? (i := 798) (by decide +kernel)⟩
theorem lw_p41 : lw_okq (⟨"EvenlyPoured$Search", "tellTasted", "(I[I)V"⟩, 17) := ⟨⟨by decide +kernel, by decide +kernel⟩, List.mem_of_getElem? (i := 221) (by decide +kernel), List.mem_of_getElem? (i := 801) (by decide +kernel), List.mem_of_getElem? (i := 802) (by decide +kernel)⟩
theorem lw_p42 : lw_okq (⟨"EvenlyPoured", "tastesAsTold", "([II)Z"⟩, 18) := ⟨⟨by decide +kernel, by decide +kernel⟩, List.mem_of_getElem? (i := 20) (by decide +kernel), List.mem_of_getElem? (i := 809) (by decide +kernel), List.mem_of_getElem? (i := 810) (by decide +kernel)⟩
theorem lw_p43 : lw_okq (⟨"EvenlyPoured", "unevenByLot", "(II)I"⟩, 18) := ⟨⟨by decide +kernel, by decide +kernel⟩, List.mem_of_getElem? (i := 20) (by decide +kernel), List.mem_of_getElem? (i := 824) (by decide +kernel), List.mem_of_getElem? (i := 825) (by decide +kernel)⟩
theorem lw_p44 : lw_okq (⟨"EvenlyPouredModel", "spell", "(IIIIIIIII)V"⟩, 55) := ⟨⟨by decide +kernel, by decide +kernel⟩, List.mem_of_getElem? (i := 892) (by decide +kernel), List.mem_of_getElem? (i := 898) (by decide +kernel), List.mem_of_getElem? (i := 899) (by decide +kernel)⟩
theorem lw_p45 : lw_okq (⟨"EvenlyPouredModel", "isPourer", "(I)Z"⟩, 55) := ⟨⟨by decide +kernel, by decide +kernel⟩, List.mem_of_getElem? (i := 892) (by decide +kernel), List.mem_of_getElem? (i := 1075) (by decide +kernel), List.mem_of_getElem? (i := 1076) (by decide +kernel)⟩
theorem lw_p46 : lw_okq (⟨"EvenlyPouredModel", "isCup", "(I)Z"⟩, 55) := ⟨⟨by decide +kernel, by decide +kernel⟩, List.mem_of_getElem? (i := 892) (by decide +kernel), List.mem_of_getElem? (i := 1093) (by decide +kernel), List.mem_of_getElem? (i := 1094) (by decide +kernel)⟩
theorem lw_p47 : lw_okq (⟨"EvenlyPouredModel", "read", "(II)I"⟩, 55) := ⟨⟨by decide +kernel, by decide +kernel⟩, List.mem_of_getElem? (i := 892) (by decide +kernel), List.mem_of_getElem? (i := 1115) (by decide +kernel), List.mem_of_getElem? (i := 1116) (by decide +kernel)⟩
def lw_privs_3 : List (MethodName × Nat) := [(⟨"EvenlyPoured$Search", "tryBalanced", "(III)V"⟩, 17), (⟨"EvenlyPoured$Search", "judge", "(I)V"⟩, 17), (⟨"EvenlyPoured$Search", "hasRoom", "(I)Z"⟩, 17), (⟨"EvenlyPoured$Search", "gain", "(III)I"⟩, 17), (⟨"EvenlyPoured", "unevenWithOneMore", "(I)I"⟩, 18), (⟨"EvenlyPoured", "pourBy", "(LEvenlyPoured$Pourer;)V"⟩, 18), (⟨"EvenlyPoured", "dearestLeft", "()I"⟩, 18), (⟨"EvenlyPoured", "notTasted", "(I)I"⟩, 18), (⟨"EvenlyPoured$Search", "tryTold", "(III[I)V"⟩, 17), (⟨"EvenlyPoured$Search", "tellTasted", "(I[I)V"⟩, 17), (⟨"EvenlyPoured", "tastesAsTold", "([II)Z"⟩, 18), (⟨"EvenlyPoured", "unevenByLot", "(II)I"⟩, 18), (⟨"EvenlyPouredModel", "spell", "(IIIIIIIII)V"⟩, 55), (⟨"EvenlyPouredModel", "isPourer", "(I)Z"⟩, 55), (⟨"EvenlyPouredModel", "isCup", "(I)Z"⟩, 55), (⟨"EvenlyPouredModel", "read", "(II)I"⟩, 55)]
theorem lw_r3 : ∀ q ∈ lw_privs_3, lw_okq q := List.forall_mem_cons.mpr ⟨lw_p32, List.forall_mem_cons.mpr ⟨lw_p33, List.forall_mem_cons.mpr ⟨lw_p34, List.forall_mem_cons.mpr ⟨lw_p35, List.forall_mem_cons.mpr ⟨lw_p36, List.forall_mem_cons.mpr ⟨lw_p37, List.forall_mem_cons.mpr ⟨lw_p38, List.forall_mem_cons.mpr ⟨lw_p39, List.forall_mem_cons.mpr ⟨lw_p40, List.forall_mem_cons.mpr ⟨lw_p41, List.forall_mem_cons.mpr ⟨lw_p42, List.forall_mem_cons.mpr ⟨lw_p43, List.forall_mem_cons.mpr ⟨lw_p44, List.forall_mem_cons.mpr ⟨lw_p45, List.forall_mem_cons.mpr ⟨lw_p46, List.forall_mem_cons.mpr ⟨lw_p47, fun _ h => absurd h List.not_mem_nil⟩⟩⟩⟩⟩⟩⟩⟩⟩⟩⟩⟩⟩⟩⟩⟩
theorem lw_p48 : lw_okq (⟨"EvenlyPouredModel", "nextToken", "()V"⟩, 55) := ⟨⟨by decide +kernel, by decide +kernel⟩, List.mem_of_getElem? (i := 892) (by decide +kernel), List.mem_of_getElem? (i := 1119) (by decide +kernel), List.mem_of_getElem? (i := 1120) (by decide +kernel)⟩
theorem lw_p49 : lw_okq (⟨"EvenlyPouredModel", "byteAt", "(I)I"⟩, 55) := ⟨⟨by decide +kernel, by decide +kernel⟩, List.mem_of_getElem? (i := 892) (by decide +kernel), List.mem_of_getElem? (i := 1123) (by decide +kernel), List.mem_of_getElem? (i := 1124) (by decide +kernel)⟩
theorem lw_p50 : lw_okq (⟨"EvenlyPouredModel", "isWord", "(IIIIIIII)Z"⟩, 55) := ⟨⟨by decide +kernel, by decide +kernel⟩, List.mem_of_getElem? (i := 892) (by decide +kernel), List.mem_of_getElem? (i := 1132) (by decide +kernel), List.mem_of_getElem? (i := 1133) (by decide +kernel)⟩
theorem lw_p51 : lw_okq (⟨"EvenlyPouredModel", "isLetter", "(II)Z"⟩, 55) := ⟨⟨by decide +kernel, by decide +kernel⟩, List.mem_of_getElem? (i := 892) (by decide +kernel), List.mem_of_getElem? (i := 1136) (by decide +kernel), List.mem_of_getElem? (i := 1137) (by decide +kernel)⟩
theorem lw_p52 : lw_okq (⟨"EvenlyPouredModel", "part", "(Z)I"⟩, 55) := ⟨⟨by decide +kernel, by decide +kernel⟩, List.mem_of_getElem? (i := 892) (by decide +kernel), List.mem_of_getElem? (i := 1140) (by decide +kernel), List.mem_of_getElem? (i := 1141) (by decide +kernel)⟩
theorem lw_p53 : lw_okq (⟨"EvenlyPouredModel", "fail", "()V"⟩, 55) := ⟨⟨by decide +kernel, by decide +kernel⟩, List.mem_of_getElem? (i := 892) (by decide +kernel), List.mem_of_getElem? (i := 1144) (by decide +kernel), List.mem_of_getElem? (i := 1145) (by decide +kernel)⟩
theorem lw_p54 : lw_okq (⟨"EvenlyPouredModel", "either", "()I"⟩, 55) := ⟨⟨by decide +kernel, by decide +kernel⟩, List.mem_of_getElem? (i := 892) (by decide +kernel), List.mem_of_getElem? (i := 1148) (by decide +kernel), List.mem_of_getElem? (i := 1149) (by decide +kernel)⟩
theorem lw_p55 : lw_okq (⟨"EvenlyPouredModel", "both", "()I"⟩, 55) := ⟨⟨by decide +kernel, by decide +kernel⟩, List.mem_of_getElem? (i := 892) (by decide +kernel), List.mem_of_getElem? (i := 1152) (by decide +kernel), List.mem_of_getElem? (i := 1153) (by decide +kernel)⟩
theorem lw_p56 : lw_okq (⟨"EvenlyPouredModel", "not", "()I"⟩, 55) := ⟨⟨by decide +kernel, by decide +kernel⟩, List.mem_of_getElem? (i := 892) (by decide +kernel), List.mem_of_getElem? (i := 1156) (by decide +kernel), List.mem_of_getElem? (i := 1157) (by decide +kernel)⟩
theorem lw_p57 : lw_okq (⟨"EvenlyPouredModel", "opens", "()Z"⟩, 55) := ⟨⟨by decide +kernel, by decide +kernel⟩, List.mem_of_getElem? (i := 892) (by decide +kernel), List.mem_of_getElem? (i := 1160) (by decide +kernel), List.mem_of_getElem? (i := 1161) (by decide +kernel)⟩
theorem lw_p58 : lw_okq (⟨"EvenlyPouredModel", "added", "()I"⟩, 55) := ⟨⟨by decide +kernel, by decide +kernel⟩, List.mem_of_getElem? (i := 892) (by decide +kernel), List.mem_of_getElem? (i := 1164) (by decide +kernel), List.mem_of_getElem? (i := 1165) (by decide +kernel)⟩
theorem lw_p59 : lw_okq (⟨"EvenlyPouredModel", "term", "()I"⟩, 55) := ⟨⟨by decide +kernel, by decide +kernel⟩, List.mem_of_getElem? (i := 892) (by decide +kernel), List.mem_of_getElem? (i := 1168) (by decide +kernel), List.mem_of_getElem? (i := 1169) (by decide +kernel)⟩
theorem lw_p60 : lw_okq (⟨"EvenlyPouredModel", "atom", "()I"⟩, 55) := ⟨⟨by decide +kernel, by decide +kernel⟩, List.mem_of_getElem? (i := 892) (by decide +kernel), List.mem_of_getElem? (i := 1172) (by decide +kernel), List.mem_of_getElem? (i := 1173) (by decide +kernel)⟩
theorem lw_p61 : lw_okq (⟨"EvenlyPouredModel", "isSign", "(I)Z"⟩, 55) := ⟨⟨by decide +kernel, by decide +kernel⟩, List.mem_of_getElem? (i := 892) (by decide +kernel), List.mem_of_getElem? (i := 1176) (by decide +kernel), List.mem_of_getElem? (i := 1177) (by decide +kernel)⟩
theorem lw_p62 : lw_okq (⟨"EvenlyPouredModel", "name", "()I"⟩, 55) := ⟨⟨by decide +kernel, by decide +kernel⟩, List.mem_of_getElem? (i := 892) (by decide +kernel), List.mem_of_getElem? (i := 1180) (by decide +kernel), List.mem_of_getElem? (i := 1181) (by decide +kernel)⟩
theorem lw_p63 : lw_okq (⟨"EvenlyPouredModel", "poursRow", "()V"⟩, 55) := ⟨⟨by decide +kernel, by decide +kernel⟩, List.mem_of_getElem? (i := 892) (by decide +kernel), List.mem_of_getElem? (i := 1194) (by decide +kernel), List.mem_of_getElem? (i := 1195) (by decide +kernel)⟩
def lw_privs_4 : List (MethodName × Nat) := [(⟨"EvenlyPouredModel", "nextToken", "()V"⟩, 55), (⟨"EvenlyPouredModel", "byteAt", "(I)I"⟩, 55), (⟨"EvenlyPouredModel", "isWord", "(IIIIIIII)Z"⟩, 55), (⟨"EvenlyPouredModel", "isLetter", "(II)Z"⟩, 55), (⟨"EvenlyPouredModel", "part", "(Z)I"⟩, 55), (⟨"EvenlyPouredModel", "fail", "()V"⟩, 55), (⟨"EvenlyPouredModel", "either", "()I"⟩, 55), (⟨"EvenlyPouredModel", "both", "()I"⟩, 55), (⟨"EvenlyPouredModel", "not", "()I"⟩, 55), (⟨"EvenlyPouredModel", "opens", "()Z"⟩, 55), (⟨"EvenlyPouredModel", "added", "()I"⟩, 55), (⟨"EvenlyPouredModel", "term", "()I"⟩, 55), (⟨"EvenlyPouredModel", "atom", "()I"⟩, 55), (⟨"EvenlyPouredModel", "isSign", "(I)Z"⟩, 55), (⟨"EvenlyPouredModel", "name", "()I"⟩, 55), (⟨"EvenlyPouredModel", "poursRow", "()V"⟩, 55)]
theorem lw_r4 : ∀ q ∈ lw_privs_4, lw_okq q := List.forall_mem_cons.mpr ⟨lw_p48, List.forall_mem_cons.mpr ⟨lw_p49, List.forall_mem_cons.mpr ⟨lw_p50, List.forall_mem_cons.mpr ⟨lw_p51, List.forall_mem_cons.mpr ⟨lw_p52, List.forall_mem_cons.mpr ⟨lw_p53, List.forall_mem_cons.mpr ⟨lw_p54, List.forall_mem_cons.mpr ⟨lw_p55, List.forall_mem_cons.mpr ⟨lw_p56, List.forall_mem_cons.mpr ⟨lw_p57, List.forall_mem_cons.mpr ⟨lw_p58, List.forall_mem_cons.mpr ⟨lw_p59, List.forall_mem_cons.mpr ⟨lw_p60, List.forall_mem_cons.mpr ⟨lw_p61, List.forall_mem_cons.mpr ⟨lw_p62, List.forall_mem_cons.mpr ⟨lw_p63, fun _ h => absurd h List.not_mem_nil⟩⟩⟩⟩⟩⟩⟩⟩⟩⟩⟩⟩⟩⟩⟩⟩
theorem lw_p64 : lw_okq (⟨"EvenlyPouredModel", "forgets", "()V"⟩, 55) := ⟨⟨by decide +kernel, by decide +kernel⟩, List.mem_of_getElem? (i := 892) (by decide +kernel), List.mem_of_getElem? (i := 1198) (by decide +kernel), List.mem_of_getElem? (i := 1199) (by decide +kernel)⟩
theorem lw_p65 : lw_okq (⟨"EvenlyPouredModel", "begins", "()V"⟩, 55) := ⟨⟨by decide +kernel, by decide +kernel⟩, List.mem_of_getElem? (i := 892) (by decide +kernel), List.mem_of_getElem? (i := 1202) (by decide +kernel), List.mem_of_getElem? (i := 1203) (by decide +kernel)⟩
theorem lw_p66 : lw_okq (⟨"EvenlyPouredModel", "pours", "(III)V"⟩, 55) := ⟨⟨by decide +kernel, by decide +kernel⟩, List.mem_of_getElem? (i := 892) (by decide +kernel), List.mem_of_getElem? (i := 1206) (by decide +kernel), List.mem_of_getElem? (i := 1207) (by decide +kernel)⟩
theorem lw_p67 : lw_okq (⟨"EvenlyPouredModel", "strong", "(IIII)I"⟩, 55) := ⟨⟨by decide +kernel, by decide +kernel⟩, List.mem_of_getElem? (i := 892) (by decide +kernel), List.mem_of_getElem? (i := 1210) (by decide +kernel), List.mem_of_getElem? (i := 1211) (by decide +kernel)⟩
theorem lw_p68 : lw_okq (⟨"EvenlyPouredModel", "says", "(IIIII)I"⟩, 55) := ⟨⟨by decide +kernel, by decide +kernel⟩, List.mem_of_getElem? (i := 892) (by decide +kernel), List.mem_of_getElem? (i := 1217) (by decide +kernel), List.mem_of_getElem? (i := 1218) (by decide +kernel)⟩
theorem lw_p69 : lw_okq (⟨"EvenlyPouredModel", "drips", "(IIII)I"⟩, 55) := ⟨⟨by decide +kernel, by decide +kernel⟩, List.mem_of_getElem? (i := 892) (by decide +kernel), List.mem_of_getElem? (i := 1224) (by decide +kernel), List.mem_of_getElem? (i := 1225) (by decide +kernel)⟩
theorem lw_p70 : lw_okq (⟨"EvenlyPouredModel", "power", "()I"⟩, 55) := ⟨⟨by decide +kernel, by decide +kernel⟩, List.mem_of_getElem? (i := 892) (by decide +kernel), List.mem_of_getElem? (i := 1232) (by decide +kernel), List.mem_of_getElem? (i := 1233) (by decide +kernel)⟩
theorem lw_p71 : lw_okq (⟨"EvenlyPouredModel", "sumOf", "(II)I"⟩, 55) := ⟨⟨by decide +kernel, by decide +kernel⟩, List.mem_of_getElem? (i := 892) (by decide +kernel), List.mem_of_getElem? (i := 1236) (by decide +kernel), List.mem_of_getElem? (i := 1237) (by decide +kernel)⟩
theorem lw_p72 : lw_okq (⟨"EvenlyPouredModel", "uneven", "()I"⟩, 55) := ⟨⟨by decide +kernel, by decide +kernel⟩, List.mem_of_getElem? (i := 892) (by decide +kernel), List.mem_of_getElem? (i := 1240) (by decide +kernel), List.mem_of_getElem? (i := 1241) (by decide +kernel)⟩
theorem lw_p73 : lw_okq (⟨"EvenlyPouredModel", "areMany", "()Z"⟩, 55) := ⟨⟨by decide +kernel, by decide +kernel⟩, List.mem_of_getElem? (i := 892) (by decide +kernel), List.mem_of_getElem? (i := 1257) (by decide +kernel), List.mem_of_getElem? (i := 1258) (by decide +kernel)⟩
theorem lw_p74 : lw_okq (⟨"EvenlyPouredModel", "seeks", "(II)V"⟩, 55) := ⟨⟨by decide +kernel, by decide +kernel⟩, List.mem_of_getElem? (i := 892) (by decide +kernel), List.mem_of_getElem? (i := 1262) (by decide +kernel), List.mem_of_getElem? (i := 1263) (by decide +kernel)⟩
theorem lw_p75 : lw_okq (⟨"EvenlyPouredModel", "goes", "(I)V"⟩, 55) := ⟨⟨by decide +kernel, by decide +kernel⟩, List.mem_of_getElem? (i := 892) (by decide +kernel), List.mem_of_getElem? (i := 1266) (by decide +kernel), List.mem_of_getElem? (i := 1267) (by decide +kernel)⟩
theorem lw_p76 : lw_okq (⟨"EvenlyPouredModel", "ends", "()V"⟩, 55) := ⟨⟨by decide +kernel, by decide +kernel⟩, List.mem_of_getElem? (i := 892) (by decide +kernel), List.mem_of_getElem? (i := 1270) (by decide +kernel), List.mem_of_getElem? (i := 1271) (by decide +kernel)⟩
theorem lw_p77 : lw_okq (⟨"EvenlyPouredModel", "keepsWay", "()V"⟩, 55) := ⟨⟨by decide +kernel, by decide +kernel⟩, List.mem_of_getElem? (i := 892) (by decide +kernel), List.mem_of_getElem? (i := 1274) (by decide +kernel), List.mem_of_getElem? (i := 1275) (by decide +kernel)⟩
theorem lw_p78 : lw_okq (⟨"EvenlyPouredModel", "areBalanced", "()Z"⟩, 55) := ⟨⟨by decide +kernel, by decide +kernel⟩, List.mem_of_getElem? (i := 892) (by decide +kernel), List.mem_of_getElem? (i := 1278) (by decide +kernel), List.mem_of_getElem? (i := 1279) (by decide +kernel)⟩
theorem lw_p79 : lw_okq (⟨"EvenlyPouredModel", "poursBy", "(I)V"⟩, 55) := ⟨⟨by decide +kernel, by decide +kernel⟩, List.mem_of_getElem? (i := 892) (by decide +kernel), List.mem_of_getElem? (i := 1300) (by decide +kernel), List.mem_of_getElem? (i := 1301) (by decide +kernel)⟩
def lw_privs_5 : List (MethodName × Nat) := [(⟨"EvenlyPouredModel", "forgets", "()V"⟩, 55), (⟨"EvenlyPouredModel", "begins", "()V"⟩, 55), (⟨"EvenlyPouredModel", "pours", "(III)V"⟩, 55), (⟨"EvenlyPouredModel", "strong", "(IIII)I"⟩, 55), (⟨"EvenlyPouredModel", "says", "(IIIII)I"⟩, 55), (⟨"EvenlyPouredModel", "drips", "(IIII)I"⟩, 55), (⟨"EvenlyPouredModel", "power", "()I"⟩, 55), (⟨"EvenlyPouredModel", "sumOf", "(II)I"⟩, 55), (⟨"EvenlyPouredModel", "uneven", "()I"⟩, 55), (⟨"EvenlyPouredModel", "areMany", "()Z"⟩, 55), (⟨"EvenlyPouredModel", "seeks", "(II)V"⟩, 55), (⟨"EvenlyPouredModel", "goes", "(I)V"⟩, 55), (⟨"EvenlyPouredModel", "ends", "()V"⟩, 55), (⟨"EvenlyPouredModel", "keepsWay", "()V"⟩, 55), (⟨"EvenlyPouredModel", "areBalanced", "()Z"⟩, 55), (⟨"EvenlyPouredModel", "poursBy", "(I)V"⟩, 55)]
theorem lw_r5 : ∀ q ∈ lw_privs_5, lw_okq q := List.forall_mem_cons.mpr ⟨lw_p64, List.forall_mem_cons.mpr ⟨lw_p65, List.forall_mem_cons.mpr ⟨lw_p66, List.forall_mem_cons.mpr ⟨lw_p67, List.forall_mem_cons.mpr ⟨lw_p68, List.forall_mem_cons.mpr ⟨lw_p69, List.forall_mem_cons.mpr ⟨lw_p70, List.forall_mem_cons.mpr ⟨lw_p71, List.forall_mem_cons.mpr ⟨lw_p72, List.forall_mem_cons.mpr ⟨lw_p73, List.forall_mem_cons.mpr ⟨lw_p74, List.forall_mem_cons.mpr ⟨lw_p75, List.forall_mem_cons.mpr ⟨lw_p76, List.forall_mem_cons.mpr ⟨lw_p77, List.forall_mem_cons.mpr ⟨lw_p78, List.forall_mem_cons.mpr ⟨lw_p79, fun _ h => absurd h List.not_mem_nil⟩⟩⟩⟩⟩⟩⟩⟩⟩⟩⟩⟩⟩⟩⟩⟩
theorem lw_p80 : lw_okq (⟨"EvenlyPouredModel", "goesTo", "(II)I"⟩, 55) := ⟨⟨by decide +kernel, by decide +kernel⟩, List.mem_of_getElem? (i := 892) (by decide +kernel), List.mem_of_getElem? (i := 1304) (by decide +kernel), List.mem_of_getElem? (i := 1305) (by decide +kernel)⟩
theorem lw_p81 : lw_okq (⟨"EvenlyPouredModel", "digits", "(I)I"⟩, 55) := ⟨⟨by decide +kernel, by decide +kernel⟩, List.mem_of_getElem? (i := 892) (by decide +kernel), List.mem_of_getElem? (i := 1308) (by decide +kernel), List.mem_of_getElem? (i := 1309) (by decide +kernel)⟩
theorem lw_p82 : lw_okq (⟨"EvenlyPouredModel", "zigzag", "(I)I"⟩, 55) := ⟨⟨by decide +kernel, by decide +kernel⟩, List.mem_of_getElem? (i := 892) (by decide +kernel), List.mem_of_getElem? (i := 1312) (by decide +kernel), List.mem_of_getElem? (i := 1313) (by decide +kernel)⟩
theorem lw_p83 : lw_okq (⟨"EvenlyPouredModel", "tasteBad", "(I)I"⟩, 55) := ⟨⟨by decide +kernel, by decide +kernel⟩, List.mem_of_getElem? (i := 892) (by decide +kernel), List.mem_of_getElem? (i := 1335) (by decide +kernel), List.mem_of_getElem? (i := 1336) (by decide +kernel)⟩
theorem lw_p84 : lw_okq (⟨"EvenlyPouredModel", "draws", "(II)I"⟩, 55) := ⟨⟨by decide +kernel, by decide +kernel⟩, List.mem_of_getElem? (i := 892) (by decide +kernel), List.mem_of_getElem? (i := 1352) (by decide +kernel), List.mem_of_getElem? (i := 1353) (by decide +kernel)⟩
def lw_privs_6 : List (MethodName × Nat) := [(⟨"EvenlyPouredModel", "goesTo", "(II)I"⟩, 55), (⟨"EvenlyPouredModel", "digits", "(I)I"⟩, 55), (⟨"EvenlyPouredModel", "zigzag", "(I)I"⟩, 55), (⟨"EvenlyPouredModel", "tasteBad", "(I)I"⟩, 55), (⟨"EvenlyPouredModel", "draws", "(II)I"⟩, 55)]
theorem lw_r6 : ∀ q ∈ lw_privs_6, lw_okq q := List.forall_mem_cons.mpr ⟨lw_p80, List.forall_mem_cons.mpr ⟨lw_p81, List.forall_mem_cons.mpr ⟨lw_p82, List.forall_mem_cons.mpr ⟨lw_p83, List.forall_mem_cons.mpr ⟨lw_p84, fun _ h => absurd h List.not_mem_nil⟩⟩⟩⟩⟩
def lw_privs : List (MethodName × Nat) := lw_privs_1 ++ (lw_privs_2 ++ (lw_privs_3 ++ (lw_privs_4 ++ (lw_privs_5 ++ (lw_privs_6)))))
def lw_tbl : List Cond := k2_sels lw_privs ++ tables_1
theorem lw_privs_ok : ∀ q ∈ lw_privs, lw_okq q := by
  show ∀ q ∈ lw_privs_1 ++ (lw_privs_2 ++ (lw_privs_3 ++ (lw_privs_4 ++ (lw_privs_5 ++ (lw_privs_6))))), lw_okq q
  exact List.forall_mem_append.mpr ⟨lw_r1, List.forall_mem_append.mpr ⟨lw_r2, List.forall_mem_append.mpr ⟨lw_r3, List.forall_mem_append.mpr ⟨lw_r4, List.forall_mem_append.mpr ⟨lw_r5, lw_r6⟩⟩⟩⟩⟩
end
section
/-! THE ABSTRACT MACHINE, its steps. A memory: the shapes of its cells (kind, size), ints, references, longs. Kinds: 0..10 objects of the classes of 'am_cl'; 20 int rows, 21 boolean rows, 22..24 rows of Pourer, Text, Sheet; 25 a byte row, 26 a String. Cells 0..4 are not the law's own: 0 the script, 1 UNDER, 2 WORDS, 3 its bytes, 4 the formatter (which nobody uses). -/
abbrev am_M : Type := List (Nat × Nat) × (Nat → Nat → Int32) × (Nat → Nat → Option Nat) × (Nat → Nat → Int64)
abbrev am_L : Type := List (Option Value)
abbrev am_V : Type := Option Value × am_M
/-- an instruction: as decoded; its length, its sort (0 goes on, 1 jumps, 2 calls, 3 ends), x y z w; a number; a switch's table -/
abbrev am_P : Type := Instr × (Nat × Nat × Nat × Nat × Nat × Nat) × Int32 × List (Int32 × Nat)
abbrev am_K : Type := Bool → am_M → am_L → List Value → Option am_V
abbrev am_Q : Type := Option (Bool × am_M × am_L × List Value)
abbrev am_len (i : am_P) : Nat := i.2.1.1
abbrev am_srt (i : am_P) : Nat := i.2.1.2.1
abbrev am_x (i : am_P) : Nat := i.2.1.2.2.1
abbrev am_y (i : am_P) : Nat := i.2.1.2.2.2.1
abbrev am_z (i : am_P) : Nat := i.2.1.2.2.2.2.1
abbrev am_w (i : am_P) : Nat := i.2.1.2.2.2.2.2
abbrev am_im (i : am_P) : Int32 := i.2.2.1
abbrev am_tb (i : am_P) : List (Int32 × Nat) := i.2.2.2
noncomputable def am_u2 {α : Type} (f : Nat → Nat → α) (a k : Nat) (v : α) : Nat → Nat → α := fun x y => if x = a ∧ y = k then v else f x y
/-- a whole row anew -/
noncomputable def am_u1 {α : Type} (f : Nat → Nat → α) (a : Nat) (g : Nat → α) : Nat → Nat → α := fun x y => if x = a then g y else f x y
/-- the cell at a is of kind c -/
noncomputable def am_kd (M : am_M) (a c : Nat) : Bool := match M.1[a]? with
  | some q => Nat.beq q.1 c
  | none => false
noncomputable def am_ln (M : am_M) (a : Nat) : Nat := match M.1[a]? with
  | some q => q.2
  | none => 0
noncomputable def am_inb (j : Int32) (n : Nat) : Bool := decide (¬ (j < 0 ∨ n ≤ j.toNatClampNeg))
noncomputable def am_isb (x : Int32) : Bool := decide (x = 0 ∨ x = 1)
noncomputable def am_nz (x : Int32) : Bool := decide (¬ x = 0)
noncomputable def am_nzl (x : Int64) : Bool := decide (¬ x = 0)
noncomputable def am_isT (t : Nat) (v : Value) : Bool := match v with
  | .int _ => Nat.beq t 0
  | .long _ => Nat.beq t 2
  | .ref _ => Nat.beq t 1
  | .null => Nat.beq t 1
  | _ => false
noncomputable def am_ld (t x : Nat) (M : am_M) (L : am_L) (S : List Value) : am_Q := match L[x]? with
  | some (some v) => cond (am_isT t v) (some (true, M, L, v :: S)) none
  | _ => none
noncomputable def am_isl (o : Option (Option Value)) : Bool := match o with
  | some (some (.long _)) => true
  | _ => false
noncomputable def am_clr (L : am_L) (x : Nat) : am_L := match x with
  | 0 => L
  | y + 1 => cond (am_isl L[y]?) (L.set y none) L
noncomputable def am_set1 (L : am_L) (x : Nat) (v : Value) : am_L := (am_clr L x).set x (some v)
noncomputable def am_set2 (L : am_L) (x : Nat) (v : Value) : am_L := ((am_clr L x).set x (some v)).set (x + 1) none
noncomputable def am_so (t x : Nat) (M : am_M) (L : am_L) (S : List Value) : am_Q := match S with
  | v :: r => cond (am_isT t v && Nat.blt x L.length) (some (true, M, am_set1 L x v, r)) none
  | _ => none
noncomputable def am_so2 (x : Nat) (M : am_M) (L : am_L) (S : List Value) : am_Q := match S with
  | .long v :: r => cond (Nat.blt (x + 1) L.length) (some (true, M, am_set2 L x (.long v), r)) none
  | _ => none
noncomputable def am_inc (x : Nat) (n : Int32) (M : am_M) (L : am_L) (S : List Value) : am_Q := match L[x]? with
  | some (some (.int v)) => some (true, M, am_set1 L x (.int (v + n)), S)
  | _ => none
noncomputable def am_psh (v : Value) (M : am_M) (L : am_L) (S : List Value) : am_Q := some (true, M, L, v :: S)
noncomputable def am_b2 (g : Int32 → Int32 → Int32) (M : am_M) (L : am_L) (S : List Value) : am_Q := match S with
  | .int y :: .int x :: r => some (true, M, L, .int (g x y) :: r)
  | _ => none
noncomputable def am_d2 (g : Int32 → Int32 → Int32) (M : am_M) (L : am_L) (S : List Value) : am_Q := match S with
  | .int y :: .int x :: r => some (am_nz y, M, L, .int (g x y) :: r)
  | _ => none
noncomputable def am_b1 (g : Int32 → Int32) (M : am_M) (L : am_L) (S : List Value) : am_Q := match S with
  | .int x :: r => some (true, M, L, .int (g x) :: r)
  | _ => none
noncomputable def am_l2 (g : Int64 → Int64 → Int64) (M : am_M) (L : am_L) (S : List Value) : am_Q := match S with
  | .long y :: .long x :: r => some (true, M, L, .long (g x y) :: r)
  | _ => none
noncomputable def am_e2 (g : Int64 → Int64 → Int64) (M : am_M) (L : am_L) (S : List Value) : am_Q := match S with
  | .long y :: .long x :: r => some (am_nzl y, M, L, .long (g x y) :: r)
  | _ => none
noncomputable def am_cmp (M : am_M) (L : am_L) (S : List Value) : am_Q := match S with
  | .long y :: .long x :: r => some (true, M, L, .int (lg_cmp x y) :: r)
  | _ => none
noncomputable def am_i2l (M : am_M) (L : am_L) (S : List Value) : am_Q := match S with
  | .int x :: r => some (true, M, L, .long x.toInt64 :: r)
  | _ => none
noncomputable def am_l2i (M : am_M) (L : am_L) (S : List Value) : am_Q := match S with
  | .long x :: r => some (true, M, L, .int x.toInt32 :: r)
  | _ => none
noncomputable def am_c1 (v : Value) : Bool := am_isT 0 v || am_isT 1 v
noncomputable def am_dup (M : am_M) (L : am_L) (S : List Value) : am_Q := match S with
  | v :: r => cond (am_c1 v) (some (true, M, L, v :: v :: r)) none
  | _ => none
noncomputable def am_dp2 (M : am_M) (L : am_L) (S : List Value) : am_Q := match S with
  | v :: u :: r => cond (am_c1 v && am_c1 u) (some (true, M, L, v :: u :: v :: u :: r)) none
  | _ => none
noncomputable def am_pop1 (M : am_M) (L : am_L) (S : List Value) : am_Q := match S with
  | v :: r => cond (am_c1 v) (some (true, M, L, r)) none
  | _ => none
noncomputable def am_rd (w : Nat) (M : am_M) (a k : Nat) : Value := match w with
  | 1 => va_rf (M.2.2.1 a k)
  | 2 => .long (M.2.2.2 a k)
  | _ => .int (M.2.1 a k)
noncomputable def am_gf (c k w : Nat) (M : am_M) (L : am_L) (S : List Value) : am_Q := match S with
  | .ref a :: r => some (am_kd M a c, M, L, am_rd w M a k :: r)
  | _ => none
noncomputable def am_pf (c k w : Nat) (M : am_M) (L : am_L) (S : List Value) : am_Q := match S with
  | .int v :: .ref a :: r => cond (Nat.beq w 0) (some (am_kd M a c && Nat.ble 5 a, (M.1, am_u2 M.2.1 a k v, M.2.2.1, M.2.2.2), L, r)) (cond (Nat.beq w 3) (some (am_kd M a c && (Nat.ble 5 a && am_isb v), (M.1, am_u2 M.2.1 a k v, M.2.2.1, M.2.2.2), L, r)) none)
  | .long v :: .ref a :: r => cond (Nat.beq w 2) (some (am_kd M a c && Nat.ble 5 a, (M.1, M.2.1, M.2.2.1, am_u2 M.2.2.2 a k v), L, r)) none
  | .ref v :: .ref a :: r => cond (Nat.beq w 1) (some (am_kd M a c && (Nat.ble 5 a && Nat.ble 5 v), (M.1, M.2.1, am_u2 M.2.2.1 a k (some v), M.2.2.2), L, r)) none
  | _ => none
noncomputable def am_gs (x : Nat) : Value := match x with
  | 0 => .ref 1
  | 1 => .int 1
  | _ => .ref 4
noncomputable def am_ia (c : Nat) (M : am_M) (L : am_L) (S : List Value) : am_Q := match S with
  | .int j :: .ref a :: r => some (am_kd M a c && am_inb j (am_ln M a), M, L, .int (M.2.1 a j.toNatClampNeg) :: r)
  | _ => none
noncomputable def am_aa (c : Nat) (M : am_M) (L : am_L) (S : List Value) : am_Q := match S with
  | .int j :: .ref a :: r => some (am_kd M a c && (Nat.ble 5 a && am_inb j (am_ln M a)), M, L, va_rf (M.2.2.1 a j.toNatClampNeg) :: r)
  | _ => none
noncomputable def am_is (M : am_M) (L : am_L) (S : List Value) : am_Q := match S with
  | .int v :: .int j :: .ref a :: r => some (am_kd M a 20 && (Nat.ble 5 a && am_inb j (am_ln M a)), (M.1, am_u2 M.2.1 a j.toNatClampNeg v, M.2.2.1, M.2.2.2), L, r)
  | _ => none
noncomputable def am_bs (M : am_M) (L : am_L) (S : List Value) : am_Q := match S with
  | .int v :: .int j :: .ref a :: r => some (am_kd M a 21 && (Nat.ble 5 a && am_inb j (am_ln M a)), (M.1, am_u2 M.2.1 a j.toNatClampNeg (v &&& 1), M.2.2.1, M.2.2.2), L, r)
  | _ => none
noncomputable def am_as (c y : Nat) (M : am_M) (L : am_L) (S : List Value) : am_Q := match S with
  | .ref v :: .int j :: .ref a :: r => some (am_kd M a c && (Nat.ble 5 a && (am_kd M v y && (Nat.ble 5 v && am_inb j (am_ln M a)))), (M.1, M.2.1, am_u2 M.2.2.1 a j.toNatClampNeg (some v), M.2.2.2), L, r)
  | _ => none
noncomputable def am_al (M : am_M) (L : am_L) (S : List Value) : am_Q := match S with
  | .ref a :: r => some (am_kd M a 20 || am_kd M a 25, M, L, .int (nI (am_ln M a)) :: r)
  | _ => none
/-- a new cell, all 0 -/
noncomputable def am_nw (c n : Nat) (M : am_M) : am_M := (M.1 ++ [(c, n)], am_u1 M.2.1 M.1.length (fun _ => 0), am_u1 M.2.2.1 M.1.length (fun _ => none), am_u1 M.2.2.2 M.1.length (fun _ => 0))
noncomputable def am_na (c : Nat) (M : am_M) (L : am_L) (S : List Value) : am_Q := match S with
  | .int n :: r => some (decide (¬ n < 0) && Nat.ble n.toNatClampNeg 100000, am_nw c n.toNatClampNeg M, L, .ref M.1.length :: r)
  | _ => none
noncomputable def am_no (c n : Nat) (M : am_M) (L : am_L) (S : List Value) : am_Q := some (true, am_nw c n M, L, .ref M.1.length :: S)
/-- Object's constructor -/
noncomputable def am_oi (d : Nat) (M : am_M) (L : am_L) (S : List Value) : am_Q := match S with
  | [.ref a] => some (Nat.ble 1 d && Nat.ble 5 a, M, L, [])
  | _ => none
noncomputable def am_cat (S : List Value) : Nat := (S.map fun v => v.category).sum
/-- System.arraycopy, of int rows -/
noncomputable def am_cp (d : Nat) (M : am_M) (L : am_L) (S : List Value) : am_Q := match S with
  | .int n :: .int dp :: .ref a :: .int sp :: .ref a0 :: r => some (Nat.ble 1 d && (Nat.ble (am_cat r) 8 && (am_kd M a0 20 && (Nat.ble 5 a0 && (am_kd M a 20 && (Nat.ble 5 a && decide (¬ sp < 0 ∧ ¬ dp < 0 ∧ ¬ n < 0 ∧ sp.toNatClampNeg + n.toNatClampNeg ≤ am_ln M a0 ∧ dp.toNatClampNeg + n.toNatClampNeg ≤ am_ln M a)))))), (M.1, am_u1 M.2.1 a (va_cpy (M.2.1 a0) (M.2.1 a) sp.toNatClampNeg dp.toNatClampNeg n.toNatClampNeg), M.2.2.1, M.2.2.2), L, r)
  | _ => none
/-- Math.max, min, abs -/
noncomputable def am_ma (d w : Nat) (M : am_M) (L : am_L) (S : List Value) : am_Q := match w with
  | 1 => (match S with | .int y :: .int x :: r => some (Nat.ble 1 d && Nat.ble (am_cat r) 8, M, L, .int (if x < y then y else x) :: r) | _ => none)
  | 2 => (match S with | .int y :: .int x :: r => some (Nat.ble 1 d && Nat.ble (am_cat r) 8, M, L, .int (if y < x then y else x) :: r) | _ => none)
  | _ => (match S with | .int x :: r => some (Nat.ble 1 d && Nat.ble (am_cat r) 8, M, L, .int (if 0 ≤ x then x else 0 - x) :: r) | _ => none)
/-- the long numbers that the code names -/
noncomputable def am_kl (x : Nat) : Int64 := match x with
  | 0 => 0
  | 1 => 1
  | 2 => 2
  | 3 => 3
  | 4 => 4
  | 5 => 5
  | 7 => 7
  | 9 => 9
  | 10 => 10
  | 20 => 20
  | 24 => 24
  | 25 => 25
  | 43 => 43
  | 48 => 48
  | 57 => 57
  | 60 => 60
  | 97 => 97
  | 99 => 99
  | 122 => 122
  | 255 => 255
  | 99999 => 99999
  | 100001 => -1
  | _ => -4611686018427387904
noncomputable def am_s1 (d : Nat) (i : am_P) (M : am_M) (L : am_L) (S : List Value) : am_Q := match i.1 with
  | .aload_n _ => am_ld 1 (am_x i) M L S
  | .aload _ => am_ld 1 (am_x i) M L S
  | .iload_n _ => am_ld 0 (am_x i) M L S
  | .iload _ => am_ld 0 (am_x i) M L S
  | .lload_n _ => am_ld 2 (am_x i) M L S
  | .lload _ => am_ld 2 (am_x i) M L S
  | .astore_n _ => am_so 1 (am_x i) M L S
  | .astore _ => am_so 1 (am_x i) M L S
  | .istore_n _ => am_so 0 (am_x i) M L S
  | .istore _ => am_so 0 (am_x i) M L S
  | .lstore_n _ => am_so2 (am_x i) M L S
  | .lstore _ => am_so2 (am_x i) M L S
  | .iinc _ _ => am_inc (am_x i) (am_im i) M L S
  | .iconst _ => am_psh (.int (am_im i)) M L S
  | .bipush _ => am_psh (.int (am_im i)) M L S
  | .sipush _ => am_psh (.int (am_im i)) M L S
  | .ldc _ => am_psh (cond (Nat.beq (am_w i) 1) (.ref 2) (.int (am_im i))) M L S
  | .ldc_w _ => am_psh (.int (am_im i)) M L S
  | .lconst _ => am_psh (.long (am_kl (am_x i))) M L S
  | .ldc2_w _ => am_psh (.long (am_kl (am_x i))) M L S
  | .aconst_null => am_psh .null M L S
  | .iadd => am_b2 (fun a b => a + b) M L S
  | .isub => am_b2 (fun a b => a - b) M L S
  | .imul => am_b2 (fun a b => a * b) M L S
  | .iand => am_b2 (fun a b => a &&& b) M L S
  | .ior => am_b2 (fun a b => a ||| b) M L S
  | .ishl => am_b2 (fun a b => a <<< (b &&& 31)) M L S
  | .ishr => am_b2 (fun a b => a >>> (b &&& 31)) M L S
  | .iushr => am_b2 (fun a b => (a.toUInt32 >>> (b.toUInt32 &&& Int32.toUInt32 31)).toInt32) M L S
  | .idiv => am_d2 (fun a b => a / b) M L S
  | .irem => am_d2 (fun a b => a - a / b * b) M L S
  | .ineg => am_b1 (fun a => -a) M L S
  | .i2b => am_b1 (fun a => a.toInt8.toInt32) M L S
  | .i2s => am_b1 (fun a => a.toInt16.toInt32) M L S
  | .i2c => am_b1 (fun a => (a.toUInt32 % 65536).toInt32) M L S
  | .ladd => am_l2 (fun a b => a + b) M L S
  | .lsub => am_l2 (fun a b => a - b) M L S
  | .lmul => am_l2 (fun a b => a * b) M L S
  | .ldiv => am_e2 (fun a b => a / b) M L S
  | .lrem => am_e2 (fun a b => a - a / b * b) M L S
  | .lcmp => am_cmp M L S
  | .i2l => am_i2l M L S
  | .l2i => am_l2i M L S
  | .dup => am_dup M L S
  | .dup2 => am_dp2 M L S
  | .pop => am_pop1 M L S
  | .getfield _ => am_gf (am_x i) (am_y i) (am_w i) M L S
  | .putfield _ => am_pf (am_x i) (am_y i) (am_w i) M L S
  | .getstatic _ => am_psh (am_gs (am_x i)) M L S
  | .iaload => am_ia 20 M L S
  | .baload => am_ia (am_x i) M L S
  | .aaload => am_aa (am_x i) M L S
  | .iastore => am_is M L S
  | .bastore => am_bs M L S
  | .aastore => am_as (am_x i) (am_y i) M L S
  | .arraylength => am_al M L S
  | .newarray _ => am_na (am_x i) M L S
  | .anewarray _ => am_na (am_x i) M L S
  | .new _ => am_no (am_x i) (am_y i) M L S
  | .invokespecial _ => am_oi d M L S
  | .invokestatic _ => (match am_w i with | 0 => am_cp d M L S | w + 1 => am_ma d (w + 1) M L S)
  | _ => none
/-- a switch: the block of the first like number -/
noncomputable def am_swt (a : Int32) (dflt : Nat) (tb : List (Int32 × Nat)) : Nat := @List.rec (Int32 × Nat) (fun _ => Nat) dflt (fun q _ ih => if a = q.1 then q.2 else ih) tb
noncomputable def am_s2 (i : am_P) (S : List Value) : Option (Nat × List Value) := match i.1 with
  | .goto _ => some (am_x i, S)
  | .nop => some (am_x i, S)
  | .ifCond .eq _ => (match S with | .int a :: r => some (if a = 0 then am_x i else am_y i, r) | _ => none)
  | .ifCond .ne _ => (match S with | .int a :: r => some (if a = 0 then am_y i else am_x i, r) | _ => none)
  | .ifCond .lt _ => (match S with | .int a :: r => some (if a < 0 then am_x i else am_y i, r) | _ => none)
  | .ifCond .ge _ => (match S with | .int a :: r => some (if a < 0 then am_y i else am_x i, r) | _ => none)
  | .ifCond .gt _ => (match S with | .int a :: r => some (if 0 < a then am_x i else am_y i, r) | _ => none)
  | .ifCond .le _ => (match S with | .int a :: r => some (if 0 < a then am_y i else am_x i, r) | _ => none)
  | .if_icmp .eq _ => (match S with | .int b :: .int a :: r => some (if a = b then am_x i else am_y i, r) | _ => none)
  | .if_icmp .ne _ => (match S with | .int b :: .int a :: r => some (if a = b then am_y i else am_x i, r) | _ => none)
  | .if_icmp .lt _ => (match S with | .int b :: .int a :: r => some (if a < b then am_x i else am_y i, r) | _ => none)
  | .if_icmp .ge _ => (match S with | .int b :: .int a :: r => some (if a < b then am_y i else am_x i, r) | _ => none)
  | .if_icmp .gt _ => (match S with | .int b :: .int a :: r => some (if b < a then am_x i else am_y i, r) | _ => none)
  | .if_icmp .le _ => (match S with | .int b :: .int a :: r => some (if b < a then am_y i else am_x i, r) | _ => none)
  | .ifnonnull _ => (match S with | .null :: r => some (am_y i, r) | .ref a :: r => cond (Nat.ble 5 a) (some (am_x i, r)) none | _ => none)
  | .tableswitch _ _ _ _ => (match S with | .int a :: r => some (am_swt a (am_y i) (am_tb i), r) | _ => none)
  | .lookupswitch _ _ => (match S with | .int a :: r => some (am_swt a (am_y i) (am_tb i), r) | _ => none)
  | _ => none
/-- n off the stack, the deepest first, and what is left -/
noncomputable def am_tk (n : Nat) : List Value → List Value → Option (List Value × List Value) := @Nat.rec (fun _ => List Value → List Value → Option (List Value × List Value)) (fun acc S => some (acc, S)) (fun _ ih acc S => match S with | v :: r => ih (v :: acc) r | [] => none) n
noncomputable def am_rcv (M : am_M) (w : Nat) (as : List Value) : Bool := match w with
  | 0 => true
  | c + 1 => (match as with | .ref a :: _ => am_kd M a c && (Nat.ble 5 a || Nat.beq a 2) | _ => false)
/-- a call: of method x with z numbers, then block y; w: 1 more than the kind of what it is called on, or 0 -/
noncomputable def am_s3 (i : am_P) (M : am_M) (S : List Value) : Option (Bool × List Value × List Value) := match am_tk (am_z i) [] S with
  | some q => some (Nat.ble (am_cat q.2) 8 && am_rcv M (am_w i) q.1, q.1, q.2)
  | none => none
noncomputable def am_nar (w : Nat) (x : Int32) : Int32 := match w with
  | 0 => x
  | 1 => x &&& 1
  | 2 => x.toUInt32.toUInt16.toUInt32.toInt32
  | _ => x.toInt8.toInt32
noncomputable def am_s4 (i : am_P) (S : List Value) : Option (Option Value) := match i.1 with
  | .ireturn => (match S with | [.int x] => some (some (.int (am_nar (am_w i) x))) | _ => none)
  | .lreturn => (match S with | [.long x] => some (some (.long x)) | _ => none)
  | .areturn => (match S with | [.ref a] => some (some (.ref a)) | [.null] => some (some .null) | _ => none)
  | .return_ => (match S with | [] => some none | _ => none)
  | _ => none
noncomputable def am_sS (d : Nat) (J : Nat → am_M → am_L → List Value → Option am_V) (C : Nat → am_M → List Value → Option am_V) (i : am_P) (k : am_K) (f : Bool) (M : am_M) (L : am_L) (S : List Value) (s : Nat) : Option am_V := match s with
  | 0 => (am_s1 d i M L S).bind (fun q => k (q.1 && f) q.2.1 q.2.2.1 q.2.2.2)
  | 1 => (am_s2 i S).bind (fun q => cond f (J q.1 M L q.2) none)
  | 2 => (am_s3 i M S).bind (fun q => cond (q.1 && f) ((C (am_x i) M q.2.1).bind (fun r => J (am_y i) r.2 L (r.1.toList ++ q.2.2))) none)
  | _ => (am_s4 i S).bind (fun v => cond f (some (v, M)) none)
noncomputable def am_st (d : Nat) (J : Nat → am_M → am_L → List Value → Option am_V) (C : Nat → am_M → List Value → Option am_V) (i : am_P) (k : am_K) : am_K := fun f M L S => am_sS d J C i k f M L S (am_srt i)
noncomputable def am_ex (d : Nat) (J : Nat → am_M → am_L → List Value → Option am_V) (C : Nat → am_M → List Value → Option am_V) (is : List am_P) : am_K := @List.rec am_P (fun _ => am_K) (fun _ _ _ _ => none) (fun i _ ih => am_st d J C i ih) is
/-- the locals that a method of n slots begins with -/
noncomputable def am_sl (vs : List Value) : am_L := @List.rec Value (fun _ => am_L) [] (fun v _ ih => cond (am_isT 2 v) (some v :: none :: ih) (some v :: ih)) vs
noncomputable def am_in (n : Nat) (vs : List Value) : am_L := am_sl vs ++ List.replicate (n - (am_sl vs).length) none
end
section
abbrev k_Kept_init : Nat := 0
abbrev k_Pourer_init : Nat := 1
abbrev k_Pourer_isOf : Nat := 2
abbrev k_Pourer_goes : Nat := 3
abbrev k_Pourer_zigzag : Nat := 4
abbrev k_Pourer_digits : Nat := 5
abbrev k_Pourer_weakest : Nat := 6
abbrev k_Pouring_init : Nat := 7
abbrev k_Pouring_begin : Nat := 8
abbrev k_Pouring_drop : Nat := 9
abbrev k_Pouring_uneven : Nat := 10
abbrev k_Pouring_odd : Nat := 11
abbrev k_Pouring_wanted : Nat := 12
abbrev k_Reader_init : Nat := 13
abbrev k_Reader_read : Nat := 14
abbrev k_Reader_place : Nat := 15
abbrev k_Reader_token : Nat := 16
abbrev k_Reader_step : Nat := 17
abbrev k_Reader_clause : Nat := 18
abbrev k_Reader_demand : Nat := 19
abbrev k_Reader_part : Nat := 20
abbrev k_Reader_one : Nat := 21
abbrev k_Reader_inside : Nat := 22
abbrev k_Reader_put : Nat := 23
abbrev k_Reader_levelOf : Nat := 24
abbrev k_Search_init : Nat := 25
abbrev k_Search_ready : Nat := 26
abbrev k_Search_learnGains : Nat := 27
abbrev k_Search_gainPlace : Nat := 28
abbrev k_Search_gain : Nat := 29
abbrev k_Search_findEvenest : Nat := 30
abbrev k_Search_fewestChanges : Nat := 31
abbrev k_Search_empty : Nat := 32
abbrev k_Search_tryBalanced : Nat := 33
abbrev k_Search_hasRoom : Nat := 34
abbrev k_Search_judge : Nat := 35
abbrev k_Search_findTasted : Nat := 36
abbrev k_Search_tryTold : Nat := 37
abbrev k_Search_tellTasted : Nat := 38
abbrev k_Sheet_init : Nat := 39
abbrev k_Sheet_begin : Nat := 40
abbrev k_Sheet_isMissing : Nat := 41
abbrev k_Sheet_has : Nat := 42
abbrev k_Sheet_hasAll : Nat := 43
abbrev k_Sheet_write : Nat := 44
abbrev k_Tape_init : Nat := 45
abbrev k_Tape_splitUp : Nat := 46
abbrev k_Tape_endOf : Nat := 47
abbrev k_Tape_tokenOf : Nat := 48
abbrev k_Tape_numberOf : Nat := 49
abbrev k_Tape_wordOf : Nat := 50
abbrev k_Tape_isSpelled : Nat := 51
abbrev k_Tape_isLetter : Nat := 52
abbrev k_Tape_isDigit : Nat := 53
abbrev k_Tape_isSign : Nat := 54
abbrev k_Teller_init : Nat := 55
abbrev k_Teller_begin : Nat := 56
abbrev k_Teller_look : Nat := 57
abbrev k_Teller_strong : Nat := 58
abbrev k_Teller_drips : Nat := 59
abbrev k_Teller_liked : Nat := 60
abbrev k_Teller_within : Nat := 61
abbrev k_Teller_worth : Nat := 62
abbrev k_Teller_named : Nat := 63
abbrev k_Teller_joined : Nat := 64
abbrev k_Text_init : Nat := 65
abbrev k_E_init : Nat := 66
abbrev k_E_set : Nat := 67
abbrev k_E_changeCups : Nat := 68
abbrev k_E_changeDribs : Nat := 69
abbrev k_E_changeNumber : Nat := 70
abbrev k_E_changePrice : Nat := 71
abbrev k_E_told : Nat := 72
abbrev k_E_lay : Nat := 73
abbrev k_E_at : Nat := 74
abbrev k_E_pourer : Nat := 75
abbrev k_E_isCup : Nat := 76
abbrev k_E_isDrib : Nat := 77
abbrev k_E_isPourer : Nat := 78
abbrev k_E_isKind : Nat := 79
abbrev k_E_isThing : Nat := 80
abbrev k_E_feed : Nat := 81
abbrev k_E_text : Nat := 82
abbrev k_E_force : Nat := 83
abbrev k_E_cup : Nat := 84
abbrev k_E_all : Nat := 85
abbrev k_E_mean : Nat := 86
abbrev k_E_evenest : Nat := 87
abbrev k_E_become : Nat := 88
abbrev k_E_fewest : Nat := 89
abbrev k_E_next : Nat := 90
abbrev k_E_unevenWithOneMore : Nat := 91
abbrev k_E_pourRow : Nat := 92
abbrev k_E_pourAllBut : Nat := 93
abbrev k_E_greatestEvenPower : Nat := 94
abbrev k_E_isAsMuchInEachCup : Nat := 95
abbrev k_E_sumOfPowers : Nat := 96
abbrev k_E_waysAreFew : Nat := 97
abbrev k_E_findEvenest : Nat := 98
abbrev k_E_isPart : Nat := 99
abbrev k_E_inLowestTerms : Nat := 100
abbrev k_E_poured : Nat := 101
abbrev k_E_follow : Nat := 102
abbrev k_E_which : Nat := 103
abbrev k_E_pourBy : Nat := 104
abbrev k_E_captains : Nat := 105
abbrev k_E_dearestLeft : Nat := 106
abbrev k_E_mostLessLeast : Nat := 107
abbrev k_E_tastes : Nat := 108
abbrev k_E_whom : Nat := 109
abbrev k_E_forgotten : Nat := 110
abbrev k_E_notTasted : Nat := 111
abbrev k_E_tastesAsTold : Nat := 112
abbrev k_E_drawn : Nat := 113
abbrev k_E_chance : Nat := 114
abbrev k_E_isOff : Nat := 115
abbrev k_E_unevenByLot : Nat := 116
abbrev k_E_image : Nat := 117
abbrev k_E_back : Nat := 118
abbrev k_E_count : Nat := 119
abbrev k_E_sheet : Nat := 120
abbrev k_E_cell : Nat := 121
abbrev k_E_copy : Nat := 122
abbrev k_E_rows : Nat := 123
abbrev k_E_taken : Nat := 124
abbrev k_E_isSheet : Nat := 125
abbrev k_E_isSort : Nat := 126
abbrev k_M_in : Nat := 127
abbrev k_M_within : Nat := 128
abbrev k_M_init : Nat := 129
abbrev k_M_spell : Nat := 130
abbrev k_M_isCup : Nat := 131
abbrev k_M_isPourer : Nat := 132
abbrev k_M_set : Nat := 133
abbrev k_M_told : Nat := 134
abbrev k_M_lay : Nat := 135
abbrev k_M_at : Nat := 136
abbrev k_M_pourer : Nat := 137
abbrev k_M_feed : Nat := 138
abbrev k_M_byteAt : Nat := 139
abbrev k_M_nextToken : Nat := 140
abbrev k_M_fail : Nat := 141
abbrev k_M_isLetter : Nat := 142
abbrev k_M_isWord : Nat := 143
abbrev k_M_isSign : Nat := 144
abbrev k_M_opens : Nat := 145
abbrev k_M_name : Nat := 146
abbrev k_M_atom : Nat := 147
abbrev k_M_term : Nat := 148
abbrev k_M_added : Nat := 149
abbrev k_M_not : Nat := 150
abbrev k_M_both : Nat := 151
abbrev k_M_either : Nat := 152
abbrev k_M_part : Nat := 153
abbrev k_M_read : Nat := 154
abbrev k_M_text : Nat := 155
abbrev k_M_force : Nat := 156
abbrev k_M_says : Nat := 157
abbrev k_M_forgets : Nat := 158
abbrev k_M_noteOf : Nat := 159
abbrev k_M_strong : Nat := 160
abbrev k_M_drips : Nat := 161
abbrev k_M_begins : Nat := 162
abbrev k_M_pours : Nat := 163
abbrev k_M_uneven : Nat := 164
abbrev k_M_poursRow : Nat := 165
abbrev k_M_cup : Nat := 166
abbrev k_M_power : Nat := 167
abbrev k_M_sumOf : Nat := 168
abbrev k_M_all : Nat := 169
abbrev k_M_lowest : Nat := 170
abbrev k_M_mean : Nat := 171
abbrev k_M_areMany : Nat := 172
abbrev k_M_goes : Nat := 173
abbrev k_M_areBalanced : Nat := 174
abbrev k_M_ends : Nat := 175
abbrev k_M_keepsWay : Nat := 176
abbrev k_M_seeks : Nat := 177
abbrev k_M_evenest : Nat := 178
abbrev k_M_become : Nat := 179
abbrev k_M_fewest : Nat := 180
abbrev k_M_next : Nat := 181
abbrev k_M_zigzag : Nat := 182
abbrev k_M_digits : Nat := 183
abbrev k_M_goesTo : Nat := 184
abbrev k_M_poursBy : Nat := 185
abbrev k_M_poured : Nat := 186
abbrev k_M_follow : Nat := 187
abbrev k_M_which : Nat := 188
abbrev k_M_captains : Nat := 189
abbrev k_M_tasteBad : Nat := 190
abbrev k_M_tastes : Nat := 191
abbrev k_M_whom : Nat := 192
abbrev k_M_forgotten : Nat := 193
abbrev k_M_draws : Nat := 194
abbrev k_M_drawn : Nat := 195
abbrev k_M_chance : Nat := 196
abbrev k_M_image : Nat := 197
abbrev k_M_back : Nat := 198
abbrev k_M_count : Nat := 199
abbrev k_M_isSheet : Nat := 200
abbrev k_M_sheet : Nat := 201
abbrev k_M_cell : Nat := 202
abbrev k_M_copy : Nat := 203
abbrev k_M_rows : Nat := 204
abbrev k_M_over : Nat := 205
abbrev k_M_taken : Nat := 206
abbrev k_Law_law : Nat := 207
abbrev k_String_length : Nat := 208
abbrev k_String_charAt : Nat := 209
abbrev k_String_coder : Nat := 210
abbrev k_String_isLatin1 : Nat := 211
abbrev k_String_checkIndex : Nat := 212
abbrev k_StringLatin1_charAt : Nat := 213
abbrev k_Arrays_fill : Nat := 214
abbrev k_Arrays_copyOf : Nat := 215
abbrev k_Preconditions_checkIndex : Nat := 216
/-- EvenlyPoured$Kept.<init>()V -/
noncomputable def bk_0 : List (List am_P) := [[(.aload_n 0, (1, 0, 0, 0, 0, 0), 0, []), (.invokespecial 3, (3, 0, 0, 0, 1088, 0), 0, []), (.aload_n 0, (1, 0, 0, 0, 0, 0), 0, []), (.iconst 0, (1, 0, 0, 0, 0, 0), 0, []), (.putfield 9, (3, 0, 0, 0, 1089, 3), 0, []), (.aload_n 0, (1, 0, 0, 0, 0, 0), 0, []), (.bipush 24, (2, 0, 0, 0, 0, 0), 24, []), (.newarray .int, (2, 0, 20, 0, 0, 0), 0, []), (.putfield 15, (3, 0, 0, 5, 1095, 1), 0, []), (.aload_n 0, (1, 0, 0, 0, 0, 0), 0, []), (.bipush 8, (2, 0, 0, 0, 0, 0), 8, []), (.newarray .int, (2, 0, 20, 0, 0, 0), 0, []), (.putfield 19, (3, 0, 0, 6, 1097, 1), 0, []), (.aload_n 0, (1, 0, 0, 0, 0, 0), 0, []), (.bipush 6, (2, 0, 0, 0, 0, 0), 6, []), (.newarray .int, (2, 0, 20, 0, 0, 0), 0, []), (.putfield 22, (3, 0, 0, 7, 1099, 1), 0, []), (.return_, (1, 3, 0, 0, 0, 0), 0, [])]]
/-- EvenlyPoured$Pourer.<init>()V -/
noncomputable def bk_1 : List (List am_P) := [[(.aload_n 0, (1, 0, 0, 0, 0, 0), 0, []), (.invokespecial 3, (3, 0, 0, 0, 1141, 0), 0, []), (.aload_n 0, (1, 0, 0, 0, 0, 0), 0, []), (.iconst 0, (1, 0, 0, 0, 0, 0), 0, []), (.putfield 9, (3, 0, 1, 0, 1142, 0), 0, []), (.aload_n 0, (1, 0, 0, 0, 0, 0), 0, []), (.iconst 0, (1, 0, 0, 0, 0, 0), 0, []), (.putfield 15, (3, 0, 1, 1, 1144, 0), 0, []), (.return_, (1, 3, 0, 0, 0, 0), 0, [])]]
/-- EvenlyPoured$Pourer.isOf(I)Z -/
noncomputable def bk_2 : List (List am_P) := [[(.aload_n 0, (1, 0, 0, 0, 0, 0), 0, []), (.getfield 9, (3, 0, 1, 0, 1142, 0), 0, []), (.istore_n 2, (1, 0, 2, 0, 0, 0), 0, []), (.iconst 0, (1, 0, 0, 0, 0, 0), 0, []), (.istore_n 3, (1, 0, 3, 0, 0, 0), 0, []), (.nop, (0, 1, 1, 0, 0, 0), 0, [])],
  [(.iload_n 3, (1, 0, 3, 0, 0, 0), 0, []), (.bipush 6, (2, 0, 0, 0, 0, 0), 6, []), (.if_icmp .ge 29, (3, 1, 7, 2, 0, 0), 0, [])],
  [(.iload_n 2, (1, 0, 2, 0, 0, 0), 0, []), (.invokestatic 18, (3, 2, 79, 3, 1, 0), 4168, [])],
  [(.ifCond .eq 22, (3, 1, 7, 4, 0, 0), 0, [])],
  [(.iload_n 2, (1, 0, 2, 0, 0, 0), 0, []), (.iload_n 1, (1, 0, 1, 0, 0, 0), 0, []), (.if_icmp .ne 5, (3, 1, 6, 5, 0, 0), 0, [])],
  [(.iconst 1, (1, 0, 0, 0, 0, 0), 1, []), (.ireturn, (1, 3, 0, 0, 0, 1), 0, [])],
  [(.getstatic 22, (3, 0, 0, 0, 4169, 0), 0, []), (.iload_n 2, (1, 0, 2, 0, 0, 0), 0, []), (.iaload, (1, 0, 0, 0, 0, 0), 0, []), (.istore_n 2, (1, 0, 2, 0, 0, 0), 0, []), (.iinc 3 1, (3, 0, 3, 0, 0, 0), 1, []), (.goto (-29), (3, 1, 1, 0, 0, 0), 0, [])],
  [(.iconst 0, (1, 0, 0, 0, 0, 0), 0, []), (.ireturn, (1, 3, 0, 0, 0, 1), 0, [])]]
/-- EvenlyPoured$Pourer.goes(II[I)I -/
noncomputable def bk_3 : List (List am_P) := [[(.iload_n 2, (1, 0, 2, 0, 0, 0), 0, []), (.iconst 1, (1, 0, 0, 0, 0, 0), 1, []), (.if_icmp .lt 10, (3, 1, 2, 1, 0, 0), 0, [])],
  [(.aload_n 0, (1, 0, 0, 0, 0, 0), 0, []), (.getfield 15, (3, 0, 1, 1, 1144, 0), 0, []), (.ifCond .ge 5, (3, 1, 3, 2, 0, 0), 0, [])],
  [(.iconst 0, (1, 0, 0, 0, 0, 0), 0, []), (.ireturn, (1, 3, 0, 0, 0, 0), 0, [])],
  [(.aload_n 0, (1, 0, 0, 0, 0, 0), 0, []), (.getfield 9, (3, 0, 1, 0, 1142, 0), 0, []), (.tableswitch 85 0 4 #[34, 43, 49, 57, 70], (34, 1, 0, 13, 0, 0), 0, [(0, 4), (1, 5), (2, 7), (3, 9), (4, 11)])],
  [(.iload_n 1, (1, 0, 1, 0, 0, 0), 0, []), (.aload_n 0, (1, 0, 0, 0, 0, 0), 0, []), (.getfield 15, (3, 0, 1, 1, 1144, 0), 0, []), (.iadd, (1, 0, 0, 0, 0, 0), 0, []), (.iload_n 2, (1, 0, 2, 0, 0, 0), 0, []), (.irem, (1, 0, 0, 0, 0, 0), 0, []), (.ireturn, (1, 3, 0, 0, 0, 0), 0, [])],
  [(.iload_n 1, (1, 0, 1, 0, 0, 0), 0, []), (.iload_n 2, (1, 0, 2, 0, 0, 0), 0, []), (.invokestatic 26, (3, 2, 4, 6, 2, 0), 4030, [])],
  [(.ireturn, (1, 3, 0, 0, 0, 0), 0, [])],
  [(.iload_n 1, (1, 0, 1, 0, 0, 0), 0, []), (.iload_n 2, (1, 0, 2, 0, 0, 0), 0, []), (.invokestatic 30, (3, 2, 5, 8, 2, 0), 4033, [])],
  [(.iload_n 2, (1, 0, 2, 0, 0, 0), 0, []), (.irem, (1, 0, 0, 0, 0, 0), 0, []), (.ireturn, (1, 3, 0, 0, 0, 0), 0, [])],
  [(.iload_n 1, (1, 0, 1, 0, 0, 0), 0, []), (.aload_n 0, (1, 0, 0, 0, 0, 0), 0, []), (.getfield 15, (3, 0, 1, 1, 1144, 0), 0, []), (.iconst 1, (1, 0, 0, 0, 0, 0), 1, []), (.iadd, (1, 0, 0, 0, 0, 0), 0, []), (.idiv, (1, 0, 0, 0, 0, 0), 0, []), (.iload_n 2, (1, 0, 2, 0, 0, 0), 0, []), (.invokestatic 26, (3, 2, 4, 10, 2, 0), 4030, [])],
  [(.ireturn, (1, 3, 0, 0, 0, 0), 0, [])],
  [(.iload_n 1, (1, 0, 1, 0, 0, 0), 0, []), (.aload_n 0, (1, 0, 0, 0, 0, 0), 0, []), (.getfield 15, (3, 0, 1, 1, 1144, 0), 0, []), (.iadd, (1, 0, 0, 0, 0, 0), 0, []), (.iload_n 2, (1, 0, 2, 0, 0, 0), 0, []), (.invokestatic 30, (3, 2, 5, 12, 2, 0), 4033, [])],
  [(.iconst 1, (1, 0, 0, 0, 0, 0), 1, []), (.iadd, (1, 0, 0, 0, 0, 0), 0, []), (.iload_n 2, (1, 0, 2, 0, 0, 0), 0, []), (.irem, (1, 0, 0, 0, 0, 0), 0, []), (.ireturn, (1, 3, 0, 0, 0, 0), 0, [])],
  [(.iload_n 1, (1, 0, 1, 0, 0, 0), 0, []), (.aload_n 0, (1, 0, 0, 0, 0, 0), 0, []), (.getfield 15, (3, 0, 1, 1, 1144, 0), 0, []), (.if_icmp .ge 11, (3, 1, 16, 14, 0, 0), 0, [])],
  [(.iload_n 1, (1, 0, 1, 0, 0, 0), 0, []), (.iload_n 2, (1, 0, 2, 0, 0, 0), 0, []), (.invokestatic 26, (3, 2, 4, 15, 2, 0), 4030, [])],
  [(.goto 8, (3, 1, 17, 0, 0, 0), 0, [])],
  [(.iload_n 2, (1, 0, 2, 0, 0, 0), 0, []), (.aload_n 3, (1, 0, 3, 0, 0, 0), 0, []), (.invokestatic 33, (3, 2, 6, 17, 2, 0), 4037, [])],
  [(.ireturn, (1, 3, 0, 0, 0, 0), 0, [])]]
/-- EvenlyPoured$Pourer.zigzag(II)I -/
noncomputable def bk_4 : List (List am_P) := [[(.iload_n 0, (1, 0, 0, 0, 0, 0), 0, []), (.iload_n 1, (1, 0, 1, 0, 0, 0), 0, []), (.irem, (1, 0, 0, 0, 0, 0), 0, []), (.istore_n 2, (1, 0, 2, 0, 0, 0), 0, []), (.iload_n 0, (1, 0, 0, 0, 0, 0), 0, []), (.iload_n 1, (1, 0, 1, 0, 0, 0), 0, []), (.idiv, (1, 0, 0, 0, 0, 0), 0, []), (.iconst 2, (1, 0, 0, 0, 0, 0), 2, []), (.irem, (1, 0, 0, 0, 0, 0), 0, []), (.ifCond .ne 7, (3, 1, 2, 1, 0, 0), 0, [])],
  [(.iload_n 2, (1, 0, 2, 0, 0, 0), 0, []), (.goto 8, (3, 1, 3, 0, 0, 0), 0, [])],
  [(.iload_n 1, (1, 0, 1, 0, 0, 0), 0, []), (.iconst 1, (1, 0, 0, 0, 0, 0), 1, []), (.isub, (1, 0, 0, 0, 0, 0), 0, []), (.iload_n 2, (1, 0, 2, 0, 0, 0), 0, []), (.isub, (1, 0, 0, 0, 0, 0), 0, []), (.nop, (0, 1, 3, 0, 0, 0), 0, [])],
  [(.ireturn, (1, 3, 0, 0, 0, 0), 0, [])]]
/-- EvenlyPoured$Pourer.digits(II)I -/
noncomputable def bk_5 : List (List am_P) := [[(.iload_n 1, (1, 0, 1, 0, 0, 0), 0, []), (.iconst 2, (1, 0, 0, 0, 0, 0), 2, []), (.invokestatic 37, (3, 0, 0, 0, 4036, 1), 0, []), (.istore_n 2, (1, 0, 2, 0, 0, 0), 0, []), (.iload_n 0, (1, 0, 0, 0, 0, 0), 0, []), (.istore_n 3, (1, 0, 3, 0, 0, 0), 0, []), (.iconst 0, (1, 0, 0, 0, 0, 0), 0, []), (.istore 4, (2, 0, 4, 0, 0, 0), 0, []), (.iconst 0, (1, 0, 0, 0, 0, 0), 0, []), (.istore 5, (2, 0, 5, 0, 0, 0), 0, []), (.nop, (0, 1, 1, 0, 0, 0), 0, [])],
  [(.iload 5, (2, 0, 5, 0, 0, 0), 0, []), (.bipush 32, (2, 0, 0, 0, 0, 0), 32, []), (.if_icmp .ge 25, (3, 1, 4, 2, 0, 0), 0, [])],
  [(.iload_n 3, (1, 0, 3, 0, 0, 0), 0, []), (.ifCond .le 21, (3, 1, 4, 3, 0, 0), 0, [])],
  [(.iload 4, (2, 0, 4, 0, 0, 0), 0, []), (.iload_n 3, (1, 0, 3, 0, 0, 0), 0, []), (.iload_n 2, (1, 0, 2, 0, 0, 0), 0, []), (.irem, (1, 0, 0, 0, 0, 0), 0, []), (.iadd, (1, 0, 0, 0, 0, 0), 0, []), (.istore 4, (2, 0, 4, 0, 0, 0), 0, []), (.iload_n 3, (1, 0, 3, 0, 0, 0), 0, []), (.iload_n 2, (1, 0, 2, 0, 0, 0), 0, []), (.idiv, (1, 0, 0, 0, 0, 0), 0, []), (.istore_n 3, (1, 0, 3, 0, 0, 0), 0, []), (.iinc 5 1, (3, 0, 5, 0, 0, 0), 1, []), (.goto (-26), (3, 1, 1, 0, 0, 0), 0, [])],
  [(.iload 4, (2, 0, 4, 0, 0, 0), 0, []), (.ireturn, (1, 3, 0, 0, 0, 0), 0, [])]]
/-- EvenlyPoured$Pourer.weakest(I[I)I -/
noncomputable def bk_6 : List (List am_P) := [[(.iconst 0, (1, 0, 0, 0, 0, 0), 0, []), (.istore_n 2, (1, 0, 2, 0, 0, 0), 0, []), (.iconst 1, (1, 0, 0, 0, 0, 0), 1, []), (.istore_n 3, (1, 0, 3, 0, 0, 0), 0, []), (.nop, (0, 1, 1, 0, 0, 0), 0, [])],
  [(.iload_n 3, (1, 0, 3, 0, 0, 0), 0, []), (.iload_n 0, (1, 0, 0, 0, 0, 0), 0, []), (.if_icmp .ge 20, (3, 1, 5, 2, 0, 0), 0, [])],
  [(.aload_n 1, (1, 0, 1, 0, 0, 0), 0, []), (.iload_n 3, (1, 0, 3, 0, 0, 0), 0, []), (.iaload, (1, 0, 0, 0, 0, 0), 0, []), (.aload_n 1, (1, 0, 1, 0, 0, 0), 0, []), (.iload_n 2, (1, 0, 2, 0, 0, 0), 0, []), (.iaload, (1, 0, 0, 0, 0, 0), 0, []), (.if_icmp .ge 5, (3, 1, 4, 3, 0, 0), 0, [])],
  [(.iload_n 3, (1, 0, 3, 0, 0, 0), 0, []), (.istore_n 2, (1, 0, 2, 0, 0, 0), 0, []), (.nop, (0, 1, 4, 0, 0, 0), 0, [])],
  [(.iinc 3 1, (3, 0, 3, 0, 0, 0), 1, []), (.goto (-19), (3, 1, 1, 0, 0, 0), 0, [])],
  [(.iload_n 2, (1, 0, 2, 0, 0, 0), 0, []), (.ireturn, (1, 3, 0, 0, 0, 0), 0, [])]]
/-- EvenlyPoured$Pouring.<init>(LEvenlyPoured$Teller;)V -/
noncomputable def bk_7 : List (List am_P) := [[(.aload_n 0, (1, 0, 0, 0, 0, 0), 0, []), (.invokespecial 3, (3, 0, 0, 0, 1190, 0), 0, []), (.aload_n 0, (1, 0, 0, 0, 0, 0), 0, []), (.iconst 4, (1, 0, 0, 0, 0, 0), 4, []), (.newarray .int, (2, 0, 20, 0, 0, 0), 0, []), (.putfield 9, (3, 0, 2, 1, 1192, 1), 0, []), (.aload_n 0, (1, 0, 0, 0, 0, 0), 0, []), (.iconst 4, (1, 0, 0, 0, 0, 0), 4, []), (.newarray .int, (2, 0, 20, 0, 0, 0), 0, []), (.putfield 15, (3, 0, 2, 2, 1194, 1), 0, []), (.aload_n 0, (1, 0, 0, 0, 0, 0), 0, []), (.aload_n 1, (1, 0, 1, 0, 0, 0), 0, []), (.putfield 18, (3, 0, 2, 0, 1191, 1), 0, []), (.return_, (1, 3, 0, 0, 0, 0), 0, [])]]
/-- EvenlyPoured$Pouring.begin(LEvenlyPoured$Text;II)V -/
noncomputable def bk_8 : List (List am_P) := [[(.aload_n 0, (1, 0, 0, 0, 0, 0), 0, []), (.getfield 18, (3, 0, 2, 0, 1191, 1), 0, []), (.aload_n 1, (1, 0, 1, 0, 0, 0), 0, []), (.iload_n 2, (1, 0, 2, 0, 0, 0), 0, []), (.iload_n 3, (1, 0, 3, 0, 0, 0), 0, []), (.invokevirtual 22, (3, 2, 56, 1, 4, 8), 3088, [])],
  [(.aload_n 0, (1, 0, 0, 0, 0, 0), 0, []), (.iload_n 2, (1, 0, 2, 0, 0, 0), 0, []), (.putfield 28, (3, 0, 2, 3, 1196, 0), 0, []), (.aload_n 0, (1, 0, 0, 0, 0, 0), 0, []), (.iload_n 3, (1, 0, 3, 0, 0, 0), 0, []), (.putfield 32, (3, 0, 2, 4, 1197, 0), 0, []), (.aload_n 0, (1, 0, 0, 0, 0, 0), 0, []), (.iconst (-1), (1, 0, 0, 0, 0, 0), (-1), []), (.putfield 35, (3, 0, 2, 5, 1198, 0), 0, []), (.aload_n 0, (1, 0, 0, 0, 0, 0), 0, []), (.iconst 0, (1, 0, 0, 0, 0, 0), 0, []), (.putfield 38, (3, 0, 2, 6, 1199, 0), 0, []), (.aload_n 0, (1, 0, 0, 0, 0, 0), 0, []), (.iconst 0, (1, 0, 0, 0, 0, 0), 0, []), (.putfield 41, (3, 0, 2, 7, 1201, 0), 0, []), (.aload_n 0, (1, 0, 0, 0, 0, 0), 0, []), (.getfield 9, (3, 0, 2, 1, 1192, 1), 0, []), (.iconst 0, (1, 0, 0, 0, 0, 0), 0, []), (.invokestatic 44, (3, 2, 214, 2, 2, 0), 3092, [])],
  [(.aload_n 0, (1, 0, 0, 0, 0, 0), 0, []), (.getfield 15, (3, 0, 2, 2, 1194, 1), 0, []), (.iconst 0, (1, 0, 0, 0, 0, 0), 0, []), (.invokestatic 44, (3, 2, 214, 3, 2, 0), 3092, [])],
  [(.return_, (1, 3, 0, 0, 0, 0), 0, [])]]
/-- EvenlyPoured$Pouring.drop(III)V -/
noncomputable def bk_9 : List (List am_P) := [[(.aload_n 0, (1, 0, 0, 0, 0, 0), 0, []), (.getfield 35, (3, 0, 2, 5, 1198, 0), 0, []), (.iconst (-1), (1, 0, 0, 0, 0, 0), (-1), []), (.if_icmp .ne 7, (3, 1, 2, 1, 0, 0), 0, [])],
  [(.iload_n 2, (1, 0, 2, 0, 0, 0), 0, []), (.goto 7, (3, 1, 3, 0, 0, 0), 0, [])],
  [(.aload_n 0, (1, 0, 0, 0, 0, 0), 0, []), (.getfield 35, (3, 0, 2, 5, 1198, 0), 0, []), (.nop, (0, 1, 3, 0, 0, 0), 0, [])],
  [(.istore 4, (2, 0, 4, 0, 0, 0), 0, []), (.aload_n 0, (1, 0, 0, 0, 0, 0), 0, []), (.getfield 18, (3, 0, 2, 0, 1191, 1), 0, []), (.iload_n 1, (1, 0, 1, 0, 0, 0), 0, []), (.iload_n 2, (1, 0, 2, 0, 0, 0), 0, []), (.aload_n 0, (1, 0, 0, 0, 0, 0), 0, []), (.getfield 9, (3, 0, 2, 1, 1192, 1), 0, []), (.iload_n 2, (1, 0, 2, 0, 0, 0), 0, []), (.iaload, (1, 0, 0, 0, 0, 0), 0, []), (.iload 4, (2, 0, 4, 0, 0, 0), 0, []), (.invokevirtual 50, (3, 2, 57, 4, 5, 8), 3097, [])],
  [(.aload_n 0, (1, 0, 0, 0, 0, 0), 0, []), (.getfield 18, (3, 0, 2, 0, 1191, 1), 0, []), (.invokevirtual 54, (3, 2, 58, 5, 1, 8), 3101, [])],
  [(.iload_n 3, (1, 0, 3, 0, 0, 0), 0, []), (.iadd, (1, 0, 0, 0, 0, 0), 0, []), (.istore 5, (2, 0, 5, 0, 0, 0), 0, []), (.iload_n 2, (1, 0, 2, 0, 0, 0), 0, []), (.iload 4, (2, 0, 4, 0, 0, 0), 0, []), (.if_icmp .eq 42, (3, 1, 8, 6, 0, 0), 0, [])],
  [(.aload_n 0, (1, 0, 0, 0, 0, 0), 0, []), (.getfield 18, (3, 0, 2, 0, 1191, 1), 0, []), (.iload 5, (2, 0, 5, 0, 0, 0), 0, []), (.invokevirtual 58, (3, 2, 59, 7, 2, 8), 3123, [])],
  [(.istore 6, (2, 0, 6, 0, 0, 0), 0, []), (.iload 5, (2, 0, 5, 0, 0, 0), 0, []), (.iload 6, (2, 0, 6, 0, 0, 0), 0, []), (.isub, (1, 0, 0, 0, 0, 0), 0, []), (.istore 5, (2, 0, 5, 0, 0, 0), 0, []), (.aload_n 0, (1, 0, 0, 0, 0, 0), 0, []), (.dup, (1, 0, 0, 0, 0, 0), 0, []), (.getfield 41, (3, 0, 2, 7, 1201, 0), 0, []), (.iload 6, (2, 0, 6, 0, 0, 0), 0, []), (.iadd, (1, 0, 0, 0, 0, 0), 0, []), (.putfield 41, (3, 0, 2, 7, 1201, 0), 0, []), (.aload_n 0, (1, 0, 0, 0, 0, 0), 0, []), (.dup, (1, 0, 0, 0, 0, 0), 0, []), (.getfield 38, (3, 0, 2, 6, 1199, 0), 0, []), (.iconst 1, (1, 0, 0, 0, 0, 0), 1, []), (.iadd, (1, 0, 0, 0, 0, 0), 0, []), (.putfield 38, (3, 0, 2, 6, 1199, 0), 0, []), (.nop, (0, 1, 8, 0, 0, 0), 0, [])],
  [(.aload_n 0, (1, 0, 0, 0, 0, 0), 0, []), (.getfield 9, (3, 0, 2, 1, 1192, 1), 0, []), (.iload_n 2, (1, 0, 2, 0, 0, 0), 0, []), (.dup2, (1, 0, 0, 0, 0, 0), 0, []), (.iaload, (1, 0, 0, 0, 0, 0), 0, []), (.iconst 1, (1, 0, 0, 0, 0, 0), 1, []), (.iadd, (1, 0, 0, 0, 0, 0), 0, []), (.iastore, (1, 0, 0, 0, 0, 0), 0, []), (.aload_n 0, (1, 0, 0, 0, 0, 0), 0, []), (.getfield 15, (3, 0, 2, 2, 1194, 1), 0, []), (.iload_n 2, (1, 0, 2, 0, 0, 0), 0, []), (.dup2, (1, 0, 0, 0, 0, 0), 0, []), (.iaload, (1, 0, 0, 0, 0, 0), 0, []), (.iload 5, (2, 0, 5, 0, 0, 0), 0, []), (.iadd, (1, 0, 0, 0, 0, 0), 0, []), (.iastore, (1, 0, 0, 0, 0, 0), 0, []), (.aload_n 0, (1, 0, 0, 0, 0, 0), 0, []), (.iload_n 2, (1, 0, 2, 0, 0, 0), 0, []), (.putfield 35, (3, 0, 2, 5, 1198, 0), 0, []), (.return_, (1, 3, 0, 0, 0, 0), 0, [])]]
/-- EvenlyPoured$Pouring.uneven()I -/
noncomputable def bk_10 : List (List am_P) := [[(.aload_n 0, (1, 0, 0, 0, 0, 0), 0, []), (.getfield 15, (3, 0, 2, 2, 1194, 1), 0, []), (.aload_n 0, (1, 0, 0, 0, 0, 0), 0, []), (.getfield 28, (3, 0, 2, 3, 1196, 0), 0, []), (.invokestatic 62, (3, 2, 107, 1, 2, 0), 3143, [])],
  [(.ireturn, (1, 3, 0, 0, 0, 0), 0, [])]]
/-- EvenlyPoured$Pouring.odd()I -/
noncomputable def bk_11 : List (List am_P) := [[(.iconst 0, (1, 0, 0, 0, 0, 0), 0, []), (.istore_n 1, (1, 0, 1, 0, 0, 0), 0, []), (.iconst 0, (1, 0, 0, 0, 0, 0), 0, []), (.istore_n 2, (1, 0, 2, 0, 0, 0), 0, []), (.nop, (0, 1, 1, 0, 0, 0), 0, [])],
  [(.iload_n 2, (1, 0, 2, 0, 0, 0), 0, []), (.aload_n 0, (1, 0, 0, 0, 0, 0), 0, []), (.getfield 28, (3, 0, 2, 3, 1196, 0), 0, []), (.if_icmp .ge 27, (3, 1, 4, 2, 0, 0), 0, [])],
  [(.iload_n 1, (1, 0, 1, 0, 0, 0), 0, []), (.aload_n 0, (1, 0, 0, 0, 0, 0), 0, []), (.getfield 15, (3, 0, 2, 2, 1194, 1), 0, []), (.iload_n 2, (1, 0, 2, 0, 0, 0), 0, []), (.iaload, (1, 0, 0, 0, 0, 0), 0, []), (.aload_n 0, (1, 0, 0, 0, 0, 0), 0, []), (.iload_n 2, (1, 0, 2, 0, 0, 0), 0, []), (.invokevirtual 66, (3, 2, 12, 3, 2, 3), 3152, [])],
  [(.isub, (1, 0, 0, 0, 0, 0), 0, []), (.invokestatic 69, (3, 0, 0, 0, 3153, 3), 0, []), (.iadd, (1, 0, 0, 0, 0, 0), 0, []), (.istore_n 1, (1, 0, 1, 0, 0, 0), 0, []), (.iinc 2 1, (3, 0, 2, 0, 0, 0), 1, []), (.goto (-29), (3, 1, 1, 0, 0, 0), 0, [])],
  [(.iload_n 1, (1, 0, 1, 0, 0, 0), 0, []), (.ireturn, (1, 3, 0, 0, 0, 0), 0, [])]]
/-- EvenlyPoured$Pouring.wanted(I)I -/
noncomputable def bk_12 : List (List am_P) := [[(.aload_n 0, (1, 0, 0, 0, 0, 0), 0, []), (.getfield 18, (3, 0, 2, 0, 1191, 1), 0, []), (.aload_n 0, (1, 0, 0, 0, 0, 0), 0, []), (.getfield 32, (3, 0, 2, 4, 1197, 0), 0, []), (.iload_n 1, (1, 0, 1, 0, 0, 0), 0, []), (.aload_n 0, (1, 0, 0, 0, 0, 0), 0, []), (.getfield 9, (3, 0, 2, 1, 1192, 1), 0, []), (.iload_n 1, (1, 0, 1, 0, 0, 0), 0, []), (.iaload, (1, 0, 0, 0, 0, 0), 0, []), (.iload_n 1, (1, 0, 1, 0, 0, 0), 0, []), (.invokevirtual 50, (3, 2, 57, 1, 5, 8), 3097, [])],
  [(.aload_n 0, (1, 0, 0, 0, 0, 0), 0, []), (.getfield 18, (3, 0, 2, 0, 1191, 1), 0, []), (.invokevirtual 74, (3, 2, 60, 2, 1, 8), 3131, [])],
  [(.ireturn, (1, 3, 0, 0, 0, 0), 0, [])]]
/-- EvenlyPoured$Reader.<init>(LEvenlyPoured$Tape;)V -/
noncomputable def bk_13 : List (List am_P) := [[(.aload_n 0, (1, 0, 0, 0, 0, 0), 0, []), (.invokespecial 3, (3, 0, 0, 0, 1064, 0), 0, []), (.aload_n 0, (1, 0, 0, 0, 0, 0), 0, []), (.iconst 0, (1, 0, 0, 0, 0, 0), 0, []), (.putfield 9, (3, 0, 3, 1, 1066, 0), 0, []), (.aload_n 0, (1, 0, 0, 0, 0, 0), 0, []), (.iconst 0, (1, 0, 0, 0, 0, 0), 0, []), (.putfield 15, (3, 0, 3, 2, 1067, 3), 0, []), (.aload_n 0, (1, 0, 0, 0, 0, 0), 0, []), (.sipush 160, (3, 0, 0, 0, 0, 0), 160, []), (.newarray .int, (2, 0, 20, 0, 0, 0), 0, []), (.putfield 19, (3, 0, 3, 3, 1068, 1), 0, []), (.aload_n 0, (1, 0, 0, 0, 0, 0), 0, []), (.iconst 0, (1, 0, 0, 0, 0, 0), 0, []), (.putfield 23, (3, 0, 3, 4, 1069, 0), 0, []), (.aload_n 0, (1, 0, 0, 0, 0, 0), 0, []), (.aload_n 1, (1, 0, 1, 0, 0, 0), 0, []), (.putfield 26, (3, 0, 3, 0, 1065, 1), 0, []), (.return_, (1, 3, 0, 0, 0, 0), 0, [])]]
/-- EvenlyPoured$Reader.read()LEvenlyPoured$Text; -/
noncomputable def bk_14 : List (List am_P) := [[(.aload_n 0, (1, 0, 0, 0, 0, 0), 0, []), (.getfield 26, (3, 0, 3, 0, 1065, 1), 0, []), (.invokevirtual 30, (3, 2, 46, 1, 1, 7), 2168, [])],
  [(.aload_n 0, (1, 0, 0, 0, 0, 0), 0, []), (.iconst 0, (1, 0, 0, 0, 0, 0), 0, []), (.putfield 9, (3, 0, 3, 1, 1066, 0), 0, []), (.aload_n 0, (1, 0, 0, 0, 0, 0), 0, []), (.iconst 0, (1, 0, 0, 0, 0, 0), 0, []), (.putfield 15, (3, 0, 3, 2, 1067, 3), 0, []), (.aload_n 0, (1, 0, 0, 0, 0, 0), 0, []), (.bipush (-6), (2, 0, 0, 0, 0, 0), (-6), []), (.invokevirtual 35, (3, 2, 18, 2, 2, 4), 3010, [])],
  [(.astore_n 1, (1, 0, 1, 0, 0, 0), 0, []), (.aload_n 0, (1, 0, 0, 0, 0, 0), 0, []), (.bipush (-7), (2, 0, 0, 0, 0, 0), (-7), []), (.invokevirtual 35, (3, 2, 18, 3, 2, 4), 3010, [])],
  [(.astore_n 2, (1, 0, 2, 0, 0, 0), 0, []), (.aload_n 0, (1, 0, 0, 0, 0, 0), 0, []), (.bipush (-8), (2, 0, 0, 0, 0, 0), (-8), []), (.invokevirtual 35, (3, 2, 18, 4, 2, 4), 3010, [])],
  [(.astore_n 3, (1, 0, 3, 0, 0, 0), 0, []), (.aload_n 0, (1, 0, 0, 0, 0, 0), 0, []), (.invokevirtual 39, (3, 2, 16, 5, 1, 4), 3018, [])],
  [(.iconst (-1), (1, 0, 0, 0, 0, 0), (-1), []), (.if_icmp .eq 8, (3, 1, 7, 6, 0, 0), 0, [])],
  [(.aload_n 0, (1, 0, 0, 0, 0, 0), 0, []), (.iconst 1, (1, 0, 0, 0, 0, 0), 1, []), (.putfield 15, (3, 0, 3, 2, 1067, 3), 0, []), (.nop, (0, 1, 7, 0, 0, 0), 0, [])],
  [(.aload_n 0, (1, 0, 0, 0, 0, 0), 0, []), (.getfield 15, (3, 0, 3, 2, 1067, 3), 0, []), (.ifCond .eq 7, (3, 1, 9, 8, 0, 0), 0, [])],
  [(.aconst_null, (1, 0, 0, 0, 0, 0), 0, []), (.goto 13, (3, 1, 10, 0, 0, 0), 0, [])],
  [(.new 43, (3, 0, 8, 3, 3061, 0), 0, []), (.dup, (1, 0, 0, 0, 0, 0), 0, []), (.aload_n 1, (1, 0, 1, 0, 0, 0), 0, []), (.aload_n 2, (1, 0, 2, 0, 0, 0), 0, []), (.aload_n 3, (1, 0, 3, 0, 0, 0), 0, []), (.invokespecial 45, (3, 2, 65, 10, 4, 0), 3062, [])],
  [(.areturn, (1, 3, 0, 0, 0, 0), 0, [])]]
/-- EvenlyPoured$Reader.place()I -/
noncomputable def bk_15 : List (List am_P) := [[(.aload_n 0, (1, 0, 0, 0, 0, 0), 0, []), (.getfield 26, (3, 0, 3, 0, 1065, 1), 0, []), (.getfield 48, (3, 0, 6, 3, 1044, 1), 0, []), (.aload_n 0, (1, 0, 0, 0, 0, 0), 0, []), (.getfield 9, (3, 0, 3, 1, 1066, 0), 0, []), (.iaload, (1, 0, 0, 0, 0, 0), 0, []), (.ireturn, (1, 3, 0, 0, 0, 0), 0, [])]]
/-- EvenlyPoured$Reader.token()I -/
noncomputable def bk_16 : List (List am_P) := [[(.aload_n 0, (1, 0, 0, 0, 0, 0), 0, []), (.getfield 26, (3, 0, 3, 0, 1065, 1), 0, []), (.getfield 51, (3, 0, 6, 2, 1042, 1), 0, []), (.aload_n 0, (1, 0, 0, 0, 0, 0), 0, []), (.getfield 9, (3, 0, 3, 1, 1066, 0), 0, []), (.iaload, (1, 0, 0, 0, 0, 0), 0, []), (.ireturn, (1, 3, 0, 0, 0, 0), 0, [])]]
/-- EvenlyPoured$Reader.step()V -/
noncomputable def bk_17 : List (List am_P) := [[(.aload_n 0, (1, 0, 0, 0, 0, 0), 0, []), (.getfield 15, (3, 0, 3, 2, 1067, 3), 0, []), (.ifCond .ne 27, (3, 1, 3, 1, 0, 0), 0, [])],
  [(.aload_n 0, (1, 0, 0, 0, 0, 0), 0, []), (.getfield 9, (3, 0, 3, 1, 1066, 0), 0, []), (.aload_n 0, (1, 0, 0, 0, 0, 0), 0, []), (.getfield 26, (3, 0, 3, 0, 1065, 1), 0, []), (.getfield 54, (3, 0, 6, 4, 1046, 0), 0, []), (.if_icmp .ge 13, (3, 1, 3, 2, 0, 0), 0, [])],
  [(.aload_n 0, (1, 0, 0, 0, 0, 0), 0, []), (.dup, (1, 0, 0, 0, 0, 0), 0, []), (.getfield 9, (3, 0, 3, 1, 1066, 0), 0, []), (.iconst 1, (1, 0, 0, 0, 0, 0), 1, []), (.iadd, (1, 0, 0, 0, 0, 0), 0, []), (.putfield 9, (3, 0, 3, 1, 1066, 0), 0, []), (.nop, (0, 1, 3, 0, 0, 0), 0, [])],
  [(.return_, (1, 3, 0, 0, 0, 0), 0, [])]]
/-- EvenlyPoured$Reader.clause(I)[I -/
noncomputable def bk_18 : List (List am_P) := [[(.aload_n 0, (1, 0, 0, 0, 0, 0), 0, []), (.iconst 0, (1, 0, 0, 0, 0, 0), 0, []), (.putfield 23, (3, 0, 3, 4, 1069, 0), 0, []), (.aload_n 0, (1, 0, 0, 0, 0, 0), 0, []), (.iload_n 1, (1, 0, 1, 0, 0, 0), 0, []), (.invokevirtual 57, (3, 2, 19, 1, 2, 4), 3014, [])],
  [(.aload_n 0, (1, 0, 0, 0, 0, 0), 0, []), (.iconst 0, (1, 0, 0, 0, 0, 0), 0, []), (.iconst 0, (1, 0, 0, 0, 0, 0), 0, []), (.invokevirtual 61, (3, 2, 20, 2, 3, 4), 3026, [])],
  [(.aload_n 0, (1, 0, 0, 0, 0, 0), 0, []), (.bipush (-59), (2, 0, 0, 0, 0, 0), (-59), []), (.invokevirtual 57, (3, 2, 19, 3, 2, 4), 3014, [])],
  [(.aload_n 0, (1, 0, 0, 0, 0, 0), 0, []), (.getfield 19, (3, 0, 3, 3, 1068, 1), 0, []), (.aload_n 0, (1, 0, 0, 0, 0, 0), 0, []), (.getfield 23, (3, 0, 3, 4, 1069, 0), 0, []), (.invokestatic 65, (3, 2, 215, 4, 2, 0), 3045, [])],
  [(.areturn, (1, 3, 0, 0, 0, 0), 0, [])]]
/-- EvenlyPoured$Reader.demand(I)V -/
noncomputable def bk_19 : List (List am_P) := [[(.aload_n 0, (1, 0, 0, 0, 0, 0), 0, []), (.invokevirtual 39, (3, 2, 16, 1, 1, 4), 3018, [])],
  [(.iload_n 1, (1, 0, 1, 0, 0, 0), 0, []), (.if_icmp .eq 8, (3, 1, 3, 2, 0, 0), 0, [])],
  [(.aload_n 0, (1, 0, 0, 0, 0, 0), 0, []), (.iconst 1, (1, 0, 0, 0, 0, 0), 1, []), (.putfield 15, (3, 0, 3, 2, 1067, 3), 0, []), (.nop, (0, 1, 3, 0, 0, 0), 0, [])],
  [(.aload_n 0, (1, 0, 0, 0, 0, 0), 0, []), (.invokevirtual 71, (3, 2, 17, 4, 1, 4), 3022, [])],
  [(.return_, (1, 3, 0, 0, 0, 0), 0, [])]]
/-- EvenlyPoured$Reader.part(II)V -/
noncomputable def bk_20 : List (List am_P) := [[(.aload_n 0, (1, 0, 0, 0, 0, 0), 0, []), (.getfield 15, (3, 0, 3, 2, 1067, 3), 0, []), (.ifCond .eq 4, (3, 1, 2, 1, 0, 0), 0, [])],
  [(.return_, (1, 3, 0, 0, 0, 0), 0, [])],
  [(.iload_n 1, (1, 0, 1, 0, 0, 0), 0, []), (.iconst 5, (1, 0, 0, 0, 0, 0), 5, []), (.if_icmp .lt 9, (3, 1, 5, 3, 0, 0), 0, [])],
  [(.aload_n 0, (1, 0, 0, 0, 0, 0), 0, []), (.iload_n 2, (1, 0, 2, 0, 0, 0), 0, []), (.invokevirtual 74, (3, 2, 21, 4, 2, 4), 3030, [])],
  [(.return_, (1, 3, 0, 0, 0, 0), 0, [])],
  [(.iload_n 1, (1, 0, 1, 0, 0, 0), 0, []), (.iconst 2, (1, 0, 0, 0, 0, 0), 2, []), (.if_icmp .ne 25, (3, 1, 11, 6, 0, 0), 0, [])],
  [(.aload_n 0, (1, 0, 0, 0, 0, 0), 0, []), (.invokevirtual 39, (3, 2, 16, 7, 1, 4), 3018, [])],
  [(.bipush (-11), (2, 0, 0, 0, 0, 0), (-11), []), (.if_icmp .ne 16, (3, 1, 11, 8, 0, 0), 0, [])],
  [(.aload_n 0, (1, 0, 0, 0, 0, 0), 0, []), (.iconst 2, (1, 0, 0, 0, 0, 0), 2, []), (.iload_n 2, (1, 0, 2, 0, 0, 0), 0, []), (.invokevirtual 77, (3, 2, 22, 9, 3, 4), 3038, [])],
  [(.aload_n 0, (1, 0, 0, 0, 0, 0), 0, []), (.bipush (-11), (2, 0, 0, 0, 0, 0), (-11), []), (.invokevirtual 80, (3, 2, 23, 10, 2, 4), 3034, [])],
  [(.return_, (1, 3, 0, 0, 0, 0), 0, [])],
  [(.aload_n 0, (1, 0, 0, 0, 0, 0), 0, []), (.iload_n 1, (1, 0, 1, 0, 0, 0), 0, []), (.iconst 1, (1, 0, 0, 0, 0, 0), 1, []), (.iadd, (1, 0, 0, 0, 0, 0), 0, []), (.iload_n 2, (1, 0, 2, 0, 0, 0), 0, []), (.invokevirtual 61, (3, 2, 20, 12, 3, 4), 3026, [])],
  [(.iload_n 1, (1, 0, 1, 0, 0, 0), 0, []), (.iconst 2, (1, 0, 0, 0, 0, 0), 2, []), (.if_icmp .ne 7, (3, 1, 14, 13, 0, 0), 0, [])],
  [(.iconst 1, (1, 0, 0, 0, 0, 0), 1, []), (.goto 6, (3, 1, 15, 0, 0, 0), 0, [])],
  [(.sipush 160, (3, 0, 0, 0, 0, 0), 160, []), (.nop, (0, 1, 15, 0, 0, 0), 0, [])],
  [(.istore_n 3, (1, 0, 3, 0, 0, 0), 0, []), (.iconst 0, (1, 0, 0, 0, 0, 0), 0, []), (.istore 4, (2, 0, 4, 0, 0, 0), 0, []), (.nop, (0, 1, 16, 0, 0, 0), 0, [])],
  [(.iload 4, (2, 0, 4, 0, 0, 0), 0, []), (.iload_n 3, (1, 0, 3, 0, 0, 0), 0, []), (.if_icmp .ge 51, (3, 1, 26, 17, 0, 0), 0, [])],
  [(.aload_n 0, (1, 0, 0, 0, 0, 0), 0, []), (.getfield 15, (3, 0, 3, 2, 1067, 3), 0, []), (.ifCond .ne 44, (3, 1, 26, 18, 0, 0), 0, [])],
  [(.aload_n 0, (1, 0, 0, 0, 0, 0), 0, []), (.invokevirtual 39, (3, 2, 16, 19, 1, 4), 3018, [])],
  [(.invokestatic 83, (3, 2, 24, 20, 1, 0), 3042, [])],
  [(.iload_n 1, (1, 0, 1, 0, 0, 0), 0, []), (.if_icmp .ne 33, (3, 1, 26, 21, 0, 0), 0, [])],
  [(.aload_n 0, (1, 0, 0, 0, 0, 0), 0, []), (.invokevirtual 39, (3, 2, 16, 22, 1, 4), 3018, [])],
  [(.istore 5, (2, 0, 5, 0, 0, 0), 0, []), (.aload_n 0, (1, 0, 0, 0, 0, 0), 0, []), (.invokevirtual 71, (3, 2, 17, 23, 1, 4), 3022, [])],
  [(.aload_n 0, (1, 0, 0, 0, 0, 0), 0, []), (.iload_n 1, (1, 0, 1, 0, 0, 0), 0, []), (.iconst 1, (1, 0, 0, 0, 0, 0), 1, []), (.iadd, (1, 0, 0, 0, 0, 0), 0, []), (.iload_n 2, (1, 0, 2, 0, 0, 0), 0, []), (.invokevirtual 61, (3, 2, 20, 24, 3, 4), 3026, [])],
  [(.aload_n 0, (1, 0, 0, 0, 0, 0), 0, []), (.iload 5, (2, 0, 5, 0, 0, 0), 0, []), (.invokevirtual 80, (3, 2, 23, 25, 2, 4), 3034, [])],
  [(.iinc 4 1, (3, 0, 4, 0, 0, 0), 1, []), (.goto (-51), (3, 1, 16, 0, 0, 0), 0, [])],
  [(.return_, (1, 3, 0, 0, 0, 0), 0, [])]]
/-- EvenlyPoured$Reader.one(I)V -/
noncomputable def bk_21 : List (List am_P) := [[(.aload_n 0, (1, 0, 0, 0, 0, 0), 0, []), (.invokevirtual 39, (3, 2, 16, 1, 1, 4), 3018, [])],
  [(.istore_n 2, (1, 0, 2, 0, 0, 0), 0, []), (.iload_n 2, (1, 0, 2, 0, 0, 0), 0, []), (.ifCond .lt 15, (3, 1, 5, 2, 0, 0), 0, [])],
  [(.aload_n 0, (1, 0, 0, 0, 0, 0), 0, []), (.iload_n 2, (1, 0, 2, 0, 0, 0), 0, []), (.invokevirtual 80, (3, 2, 23, 3, 2, 4), 3034, [])],
  [(.aload_n 0, (1, 0, 0, 0, 0, 0), 0, []), (.invokevirtual 71, (3, 2, 17, 4, 1, 4), 3022, [])],
  [(.goto 50, (3, 1, 14, 0, 0, 0), 0, [])],
  [(.iload_n 2, (1, 0, 2, 0, 0, 0), 0, []), (.bipush (-45), (2, 0, 0, 0, 0, 0), (-45), []), (.if_icmp .ne 18, (3, 1, 9, 6, 0, 0), 0, [])],
  [(.aload_n 0, (1, 0, 0, 0, 0, 0), 0, []), (.iconst 5, (1, 0, 0, 0, 0, 0), 5, []), (.iload_n 1, (1, 0, 1, 0, 0, 0), 0, []), (.invokevirtual 77, (3, 2, 22, 7, 3, 4), 3038, [])],
  [(.aload_n 0, (1, 0, 0, 0, 0, 0), 0, []), (.bipush (-3), (2, 0, 0, 0, 0, 0), (-3), []), (.invokevirtual 80, (3, 2, 23, 8, 2, 4), 3034, [])],
  [(.goto 29, (3, 1, 14, 0, 0, 0), 0, [])],
  [(.iload_n 2, (1, 0, 2, 0, 0, 0), 0, []), (.bipush (-40), (2, 0, 0, 0, 0, 0), (-40), []), (.if_icmp .ne 18, (3, 1, 13, 10, 0, 0), 0, [])],
  [(.aload_n 0, (1, 0, 0, 0, 0, 0), 0, []), (.iconst 0, (1, 0, 0, 0, 0, 0), 0, []), (.iload_n 1, (1, 0, 1, 0, 0, 0), 0, []), (.invokevirtual 77, (3, 2, 22, 11, 3, 4), 3038, [])],
  [(.aload_n 0, (1, 0, 0, 0, 0, 0), 0, []), (.bipush (-41), (2, 0, 0, 0, 0, 0), (-41), []), (.invokevirtual 57, (3, 2, 19, 12, 2, 4), 3014, [])],
  [(.goto 8, (3, 1, 14, 0, 0, 0), 0, [])],
  [(.aload_n 0, (1, 0, 0, 0, 0, 0), 0, []), (.iconst 1, (1, 0, 0, 0, 0, 0), 1, []), (.putfield 15, (3, 0, 3, 2, 1067, 3), 0, []), (.nop, (0, 1, 14, 0, 0, 0), 0, [])],
  [(.return_, (1, 3, 0, 0, 0, 0), 0, [])]]
/-- EvenlyPoured$Reader.inside(II)V -/
noncomputable def bk_22 : List (List am_P) := [[(.iload_n 2, (1, 0, 2, 0, 0, 0), 0, []), (.iconst 5, (1, 0, 0, 0, 0, 0), 5, []), (.if_icmp .lt 9, (3, 1, 2, 1, 0, 0), 0, [])],
  [(.aload_n 0, (1, 0, 0, 0, 0, 0), 0, []), (.iconst 1, (1, 0, 0, 0, 0, 0), 1, []), (.putfield 15, (3, 0, 3, 2, 1067, 3), 0, []), (.return_, (1, 3, 0, 0, 0, 0), 0, [])],
  [(.aload_n 0, (1, 0, 0, 0, 0, 0), 0, []), (.invokevirtual 71, (3, 2, 17, 3, 1, 4), 3022, [])],
  [(.aload_n 0, (1, 0, 0, 0, 0, 0), 0, []), (.iload_n 1, (1, 0, 1, 0, 0, 0), 0, []), (.iload_n 2, (1, 0, 2, 0, 0, 0), 0, []), (.iconst 1, (1, 0, 0, 0, 0, 0), 1, []), (.iadd, (1, 0, 0, 0, 0, 0), 0, []), (.invokevirtual 61, (3, 2, 20, 4, 3, 4), 3026, [])],
  [(.return_, (1, 3, 0, 0, 0, 0), 0, [])]]
/-- EvenlyPoured$Reader.put(I)V -/
noncomputable def bk_23 : List (List am_P) := [[(.aload_n 0, (1, 0, 0, 0, 0, 0), 0, []), (.getfield 23, (3, 0, 3, 4, 1069, 0), 0, []), (.sipush 160, (3, 0, 0, 0, 0, 0), 160, []), (.if_icmp .ge 23, (3, 1, 2, 1, 0, 0), 0, [])],
  [(.aload_n 0, (1, 0, 0, 0, 0, 0), 0, []), (.getfield 19, (3, 0, 3, 3, 1068, 1), 0, []), (.aload_n 0, (1, 0, 0, 0, 0, 0), 0, []), (.getfield 23, (3, 0, 3, 4, 1069, 0), 0, []), (.iload_n 1, (1, 0, 1, 0, 0, 0), 0, []), (.iastore, (1, 0, 0, 0, 0, 0), 0, []), (.aload_n 0, (1, 0, 0, 0, 0, 0), 0, []), (.dup, (1, 0, 0, 0, 0, 0), 0, []), (.getfield 23, (3, 0, 3, 4, 1069, 0), 0, []), (.iconst 1, (1, 0, 0, 0, 0, 0), 1, []), (.iadd, (1, 0, 0, 0, 0, 0), 0, []), (.putfield 23, (3, 0, 3, 4, 1069, 0), 0, []), (.nop, (0, 1, 2, 0, 0, 0), 0, [])],
  [(.return_, (1, 3, 0, 0, 0, 0), 0, [])]]
/-- EvenlyPoured$Reader.levelOf(I)I -/
noncomputable def bk_24 : List (List am_P) := [[(.iload_n 0, (1, 0, 0, 0, 0, 0), 0, []), (.lookupswitch 77 #[(-61, 71), (-60, 71), (-45, 73), (-43, 73), (-42, 75), (-10, 69), (-9, 67)], (67, 1, 0, 6, 0, 0), 0, [(-61, 3), (-60, 3), (-45, 4), (-43, 4), (-42, 5), (-10, 2), (-9, 1)])],
  [(.iconst 0, (1, 0, 0, 0, 0, 0), 0, []), (.ireturn, (1, 3, 0, 0, 0, 0), 0, [])],
  [(.iconst 1, (1, 0, 0, 0, 0, 0), 1, []), (.ireturn, (1, 3, 0, 0, 0, 0), 0, [])],
  [(.iconst 2, (1, 0, 0, 0, 0, 0), 2, []), (.ireturn, (1, 3, 0, 0, 0, 0), 0, [])],
  [(.iconst 3, (1, 0, 0, 0, 0, 0), 3, []), (.ireturn, (1, 3, 0, 0, 0, 0), 0, [])],
  [(.iconst 4, (1, 0, 0, 0, 0, 0), 4, []), (.ireturn, (1, 3, 0, 0, 0, 0), 0, [])],
  [(.iconst (-1), (1, 0, 0, 0, 0, 0), (-1), []), (.ireturn, (1, 3, 0, 0, 0, 0), 0, [])]]
/-- EvenlyPoured$Search.<init>(LEvenlyPoured$Teller;)V -/
noncomputable def bk_25 : List (List am_P) := [[(.aload_n 0, (1, 0, 0, 0, 0, 0), 0, []), (.invokespecial 3, (3, 0, 0, 0, 1225, 0), 0, []), (.aload_n 0, (1, 0, 0, 0, 0, 0), 0, []), (.sipush 1152, (3, 0, 0, 0, 0, 0), 1152, []), (.newarray .int, (2, 0, 20, 0, 0, 0), 0, []), (.putfield 9, (3, 0, 4, 1, 1228, 1), 0, []), (.aload_n 0, (1, 0, 0, 0, 0, 0), 0, []), (.iconst 4, (1, 0, 0, 0, 0, 0), 4, []), (.newarray .int, (2, 0, 20, 0, 0, 0), 0, []), (.putfield 15, (3, 0, 4, 2, 1229, 1), 0, []), (.aload_n 0, (1, 0, 0, 0, 0, 0), 0, []), (.iconst 4, (1, 0, 0, 0, 0, 0), 4, []), (.newarray .int, (2, 0, 20, 0, 0, 0), 0, []), (.putfield 18, (3, 0, 4, 3, 1230, 1), 0, []), (.aload_n 0, (1, 0, 0, 0, 0, 0), 0, []), (.bipush 24, (2, 0, 0, 0, 0, 0), 24, []), (.newarray .int, (2, 0, 20, 0, 0, 0), 0, []), (.putfield 21, (3, 0, 4, 4, 1231, 1), 0, []), (.aload_n 0, (1, 0, 0, 0, 0, 0), 0, []), (.iconst (-1), (1, 0, 0, 0, 0, 0), (-1), []), (.putfield 24, (3, 0, 4, 5, 1232, 0), 0, []), (.aload_n 0, (1, 0, 0, 0, 0, 0), 0, []), (.iconst 1, (1, 0, 0, 0, 0, 0), 1, []), (.putfield 28, (3, 0, 4, 6, 1233, 0), 0, []), (.aload_n 0, (1, 0, 0, 0, 0, 0), 0, []), (.iconst 0, (1, 0, 0, 0, 0, 0), 0, []), (.putfield 31, (3, 0, 4, 7, 1234, 0), 0, []), (.aload_n 0, (1, 0, 0, 0, 0, 0), 0, []), (.iconst 0, (1, 0, 0, 0, 0, 0), 0, []), (.putfield 34, (3, 0, 4, 8, 1235, 0), 0, []), (.aload_n 0, (1, 0, 0, 0, 0, 0), 0, []), (.iconst 0, (1, 0, 0, 0, 0, 0), 0, []), (.putfield 37, (3, 0, 4, 9, 1236, 0), 0, []), (.aload_n 0, (1, 0, 0, 0, 0, 0), 0, []), (.iconst 0, (1, 0, 0, 0, 0, 0), 0, []), (.putfield 40, (3, 0, 4, 10, 1237, 3), 0, []), (.aload_n 0, (1, 0, 0, 0, 0, 0), 0, []), (.bipush 24, (2, 0, 0, 0, 0, 0), 24, []), (.newarray .int, (2, 0, 20, 0, 0, 0), 0, []), (.putfield 44, (3, 0, 4, 11, 1238, 1), 0, []), (.aload_n 0, (1, 0, 0, 0, 0, 0), 0, []), (.ldc 47, (2, 0, 0, 0, 1226, 0), 2147483647, []), (.putfield 48, (3, 0, 4, 12, 2000, 0), 0, []), (.aload_n 0, (1, 0, 0, 0, 0, 0), 0, []), (.ldc 47, (2, 0, 0, 0, 1226, 0), 2147483647, []), (.putfield 51, (3, 0, 4, 13, 2002, 0), 0, []), (.aload_n 0, (1, 0, 0, 0, 0, 0), 0, []), (.bipush 25, (2, 0, 0, 0, 0, 0), 25, []), (.newarray .int, (2, 0, 20, 0, 0, 0), 0, []), (.putfield 54, (3, 0, 4, 14, 2004, 1), 0, []), (.aload_n 0, (1, 0, 0, 0, 0, 0), 0, []), (.iconst 0, (1, 0, 0, 0, 0, 0), 0, []), (.putfield 57, (3, 0, 4, 15, 2005, 0), 0, []), (.aload_n 0, (1, 0, 0, 0, 0, 0), 0, []), (.iconst (-1), (1, 0, 0, 0, 0, 0), (-1), []), (.putfield 60, (3, 0, 4, 16, 2007, 0), 0, []), (.aload_n 0, (1, 0, 0, 0, 0, 0), 0, []), (.aload_n 1, (1, 0, 1, 0, 0, 0), 0, []), (.putfield 63, (3, 0, 4, 0, 1227, 1), 0, []), (.return_, (1, 3, 0, 0, 0, 0), 0, [])]]
/-- EvenlyPoured$Search.ready(ILEvenlyPoured$Text;II)V -/
noncomputable def bk_26 : List (List am_P) := [[(.iload_n 3, (1, 0, 3, 0, 0, 0), 0, []), (.iconst 1, (1, 0, 0, 0, 0, 0), 1, []), (.if_icmp .lt 28, (3, 1, 4, 1, 0, 0), 0, [])],
  [(.aload_n 0, (1, 0, 0, 0, 0, 0), 0, []), (.getfield 24, (3, 0, 4, 5, 1232, 0), 0, []), (.iload_n 1, (1, 0, 1, 0, 0, 0), 0, []), (.if_icmp .ne 21, (3, 1, 5, 2, 0, 0), 0, [])],
  [(.aload_n 0, (1, 0, 0, 0, 0, 0), 0, []), (.getfield 28, (3, 0, 4, 6, 1233, 0), 0, []), (.iload_n 3, (1, 0, 3, 0, 0, 0), 0, []), (.if_icmp .ne 13, (3, 1, 5, 3, 0, 0), 0, [])],
  [(.aload_n 0, (1, 0, 0, 0, 0, 0), 0, []), (.getfield 31, (3, 0, 4, 7, 1234, 0), 0, []), (.iload 4, (2, 0, 4, 0, 0, 0), 0, []), (.if_icmp .ne 4, (3, 1, 5, 4, 0, 0), 0, [])],
  [(.return_, (1, 3, 0, 0, 0, 0), 0, [])],
  [(.aload_n 0, (1, 0, 0, 0, 0, 0), 0, []), (.iload_n 1, (1, 0, 1, 0, 0, 0), 0, []), (.putfield 24, (3, 0, 4, 5, 1232, 0), 0, []), (.aload_n 0, (1, 0, 0, 0, 0, 0), 0, []), (.iload_n 3, (1, 0, 3, 0, 0, 0), 0, []), (.putfield 28, (3, 0, 4, 6, 1233, 0), 0, []), (.aload_n 0, (1, 0, 0, 0, 0, 0), 0, []), (.iload 4, (2, 0, 4, 0, 0, 0), 0, []), (.putfield 31, (3, 0, 4, 7, 1234, 0), 0, []), (.aload_n 0, (1, 0, 0, 0, 0, 0), 0, []), (.iload 4, (2, 0, 4, 0, 0, 0), 0, []), (.iload_n 3, (1, 0, 3, 0, 0, 0), 0, []), (.idiv, (1, 0, 0, 0, 0, 0), 0, []), (.putfield 34, (3, 0, 4, 8, 1235, 0), 0, []), (.aload_n 0, (1, 0, 0, 0, 0, 0), 0, []), (.iload 4, (2, 0, 4, 0, 0, 0), 0, []), (.iload_n 3, (1, 0, 3, 0, 0, 0), 0, []), (.irem, (1, 0, 0, 0, 0, 0), 0, []), (.putfield 37, (3, 0, 4, 9, 1236, 0), 0, []), (.aload_n 0, (1, 0, 0, 0, 0, 0), 0, []), (.iconst 0, (1, 0, 0, 0, 0, 0), 0, []), (.putfield 40, (3, 0, 4, 10, 1237, 3), 0, []), (.aload_n 0, (1, 0, 0, 0, 0, 0), 0, []), (.getfield 63, (3, 0, 4, 0, 1227, 1), 0, []), (.aload_n 2, (1, 0, 2, 0, 0, 0), 0, []), (.aload_n 0, (1, 0, 0, 0, 0, 0), 0, []), (.getfield 28, (3, 0, 4, 6, 1233, 0), 0, []), (.aload_n 0, (1, 0, 0, 0, 0, 0), 0, []), (.getfield 31, (3, 0, 4, 7, 1234, 0), 0, []), (.invokevirtual 67, (3, 2, 56, 6, 4, 8), 3196, [])],
  [(.iconst 0, (1, 0, 0, 0, 0, 0), 0, []), (.istore 5, (2, 0, 5, 0, 0, 0), 0, []), (.nop, (0, 1, 7, 0, 0, 0), 0, [])],
  [(.iload 5, (2, 0, 5, 0, 0, 0), 0, []), (.aload_n 0, (1, 0, 0, 0, 0, 0), 0, []), (.getfield 31, (3, 0, 4, 7, 1234, 0), 0, []), (.if_icmp .ge 35, (3, 1, 13, 8, 0, 0), 0, [])],
  [(.iconst 0, (1, 0, 0, 0, 0, 0), 0, []), (.istore 6, (2, 0, 6, 0, 0, 0), 0, []), (.nop, (0, 1, 9, 0, 0, 0), 0, [])],
  [(.iload 6, (2, 0, 6, 0, 0, 0), 0, []), (.aload_n 0, (1, 0, 0, 0, 0, 0), 0, []), (.getfield 28, (3, 0, 4, 6, 1233, 0), 0, []), (.if_icmp .ge 17, (3, 1, 12, 10, 0, 0), 0, [])],
  [(.aload_n 0, (1, 0, 0, 0, 0, 0), 0, []), (.iload 5, (2, 0, 5, 0, 0, 0), 0, []), (.iload 6, (2, 0, 6, 0, 0, 0), 0, []), (.invokevirtual 73, (3, 2, 27, 11, 3, 5), 3197, [])],
  [(.iinc 6 1, (3, 0, 6, 0, 0, 0), 1, []), (.goto (-20), (3, 1, 9, 0, 0, 0), 0, [])],
  [(.iinc 5 1, (3, 0, 5, 0, 0, 0), 1, []), (.goto (-38), (3, 1, 7, 0, 0, 0), 0, [])],
  [(.return_, (1, 3, 0, 0, 0, 0), 0, [])]]
/-- EvenlyPoured$Search.learnGains(II)V -/
noncomputable def bk_27 : List (List am_P) := [[(.iconst 0, (1, 0, 0, 0, 0, 0), 0, []), (.istore_n 3, (1, 0, 3, 0, 0, 0), 0, []), (.nop, (0, 1, 1, 0, 0, 0), 0, [])],
  [(.iload_n 3, (1, 0, 3, 0, 0, 0), 0, []), (.iload_n 1, (1, 0, 1, 0, 0, 0), 0, []), (.if_icmp .gt 96, (3, 1, 14, 2, 0, 0), 0, [])],
  [(.iconst 0, (1, 0, 0, 0, 0, 0), 0, []), (.istore 4, (2, 0, 4, 0, 0, 0), 0, []), (.nop, (0, 1, 3, 0, 0, 0), 0, [])],
  [(.iload 4, (2, 0, 4, 0, 0, 0), 0, []), (.aload_n 0, (1, 0, 0, 0, 0, 0), 0, []), (.getfield 28, (3, 0, 4, 6, 1233, 0), 0, []), (.if_icmp .ge 78, (3, 1, 13, 4, 0, 0), 0, [])],
  [(.aload_n 0, (1, 0, 0, 0, 0, 0), 0, []), (.getfield 63, (3, 0, 4, 0, 1227, 1), 0, []), (.iload_n 1, (1, 0, 1, 0, 0, 0), 0, []), (.iload_n 2, (1, 0, 2, 0, 0, 0), 0, []), (.iload_n 3, (1, 0, 3, 0, 0, 0), 0, []), (.iload 4, (2, 0, 4, 0, 0, 0), 0, []), (.invokevirtual 77, (3, 2, 57, 5, 5, 8), 3201, [])],
  [(.aload_n 0, (1, 0, 0, 0, 0, 0), 0, []), (.getfield 63, (3, 0, 4, 0, 1227, 1), 0, []), (.invokevirtual 81, (3, 2, 58, 6, 1, 8), 3202, [])],
  [(.istore 5, (2, 0, 5, 0, 0, 0), 0, []), (.iload_n 2, (1, 0, 2, 0, 0, 0), 0, []), (.iload 4, (2, 0, 4, 0, 0, 0), 0, []), (.if_icmp .eq 17, (3, 1, 9, 7, 0, 0), 0, [])],
  [(.iload 5, (2, 0, 5, 0, 0, 0), 0, []), (.aload_n 0, (1, 0, 0, 0, 0, 0), 0, []), (.getfield 63, (3, 0, 4, 0, 1227, 1), 0, []), (.iload 5, (2, 0, 5, 0, 0, 0), 0, []), (.invokevirtual 85, (3, 2, 59, 8, 2, 8), 3203, [])],
  [(.isub, (1, 0, 0, 0, 0, 0), 0, []), (.istore 5, (2, 0, 5, 0, 0, 0), 0, []), (.nop, (0, 1, 9, 0, 0, 0), 0, [])],
  [(.aload_n 0, (1, 0, 0, 0, 0, 0), 0, []), (.iload_n 1, (1, 0, 1, 0, 0, 0), 0, []), (.iload_n 2, (1, 0, 2, 0, 0, 0), 0, []), (.iload_n 3, (1, 0, 3, 0, 0, 0), 0, []), (.iload 4, (2, 0, 4, 0, 0, 0), 0, []), (.invokevirtual 89, (3, 2, 28, 10, 5, 5), 3204, [])],
  [(.istore 6, (2, 0, 6, 0, 0, 0), 0, []), (.iload 6, (2, 0, 6, 0, 0, 0), 0, []), (.sipush 1152, (3, 0, 0, 0, 0, 0), 1152, []), (.if_icmp .ge 12, (3, 1, 12, 11, 0, 0), 0, [])],
  [(.aload_n 0, (1, 0, 0, 0, 0, 0), 0, []), (.getfield 9, (3, 0, 4, 1, 1228, 1), 0, []), (.iload 6, (2, 0, 6, 0, 0, 0), 0, []), (.iload 5, (2, 0, 5, 0, 0, 0), 0, []), (.iastore, (1, 0, 0, 0, 0, 0), 0, []), (.nop, (0, 1, 12, 0, 0, 0), 0, [])],
  [(.iinc 4 1, (3, 0, 4, 0, 0, 0), 1, []), (.goto (-81), (3, 1, 3, 0, 0, 0), 0, [])],
  [(.iinc 3 1, (3, 0, 3, 0, 0, 0), 1, []), (.goto (-95), (3, 1, 1, 0, 0, 0), 0, [])],
  [(.return_, (1, 3, 0, 0, 0, 0), 0, [])]]
/-- EvenlyPoured$Search.gainPlace(IIII)I -/
noncomputable def bk_28 : List (List am_P) := [[(.iload_n 1, (1, 0, 1, 0, 0, 0), 0, []), (.aload_n 0, (1, 0, 0, 0, 0, 0), 0, []), (.getfield 28, (3, 0, 4, 6, 1233, 0), 0, []), (.imul, (1, 0, 0, 0, 0, 0), 0, []), (.iload_n 2, (1, 0, 2, 0, 0, 0), 0, []), (.iadd, (1, 0, 0, 0, 0, 0), 0, []), (.aload_n 0, (1, 0, 0, 0, 0, 0), 0, []), (.getfield 31, (3, 0, 4, 7, 1234, 0), 0, []), (.iconst 1, (1, 0, 0, 0, 0, 0), 1, []), (.iadd, (1, 0, 0, 0, 0, 0), 0, []), (.imul, (1, 0, 0, 0, 0, 0), 0, []), (.iload_n 3, (1, 0, 3, 0, 0, 0), 0, []), (.iadd, (1, 0, 0, 0, 0, 0), 0, []), (.aload_n 0, (1, 0, 0, 0, 0, 0), 0, []), (.getfield 28, (3, 0, 4, 6, 1233, 0), 0, []), (.imul, (1, 0, 0, 0, 0, 0), 0, []), (.iload 4, (2, 0, 4, 0, 0, 0), 0, []), (.iadd, (1, 0, 0, 0, 0, 0), 0, []), (.ireturn, (1, 3, 0, 0, 0, 0), 0, [])]]
/-- EvenlyPoured$Search.gain(III)I -/
noncomputable def bk_29 : List (List am_P) := [[(.aload_n 0, (1, 0, 0, 0, 0, 0), 0, []), (.iload_n 1, (1, 0, 1, 0, 0, 0), 0, []), (.iload_n 2, (1, 0, 2, 0, 0, 0), 0, []), (.aload_n 0, (1, 0, 0, 0, 0, 0), 0, []), (.getfield 15, (3, 0, 4, 2, 1229, 1), 0, []), (.iload_n 2, (1, 0, 2, 0, 0, 0), 0, []), (.iaload, (1, 0, 0, 0, 0, 0), 0, []), (.iload_n 1, (1, 0, 1, 0, 0, 0), 0, []), (.ifCond .ne 7, (3, 1, 2, 1, 0, 0), 0, [])],
  [(.iload_n 2, (1, 0, 2, 0, 0, 0), 0, []), (.goto 4, (3, 1, 3, 0, 0, 0), 0, [])],
  [(.iload_n 3, (1, 0, 3, 0, 0, 0), 0, []), (.nop, (0, 1, 3, 0, 0, 0), 0, [])],
  [(.invokevirtual 89, (3, 2, 28, 4, 5, 5), 3204, [])],
  [(.istore 4, (2, 0, 4, 0, 0, 0), 0, []), (.iload 4, (2, 0, 4, 0, 0, 0), 0, []), (.sipush 1152, (3, 0, 0, 0, 0, 0), 1152, []), (.if_icmp .ge 13, (3, 1, 6, 5, 0, 0), 0, [])],
  [(.aload_n 0, (1, 0, 0, 0, 0, 0), 0, []), (.getfield 9, (3, 0, 4, 1, 1228, 1), 0, []), (.iload 4, (2, 0, 4, 0, 0, 0), 0, []), (.iaload, (1, 0, 0, 0, 0, 0), 0, []), (.goto 4, (3, 1, 7, 0, 0, 0), 0, [])],
  [(.iconst 0, (1, 0, 0, 0, 0, 0), 0, []), (.nop, (0, 1, 7, 0, 0, 0), 0, [])],
  [(.ireturn, (1, 3, 0, 0, 0, 0), 0, [])]]
/-- EvenlyPoured$Search.findEvenest()V -/
noncomputable def bk_30 : List (List am_P) := [[(.aload_n 0, (1, 0, 0, 0, 0, 0), 0, []), (.getfield 40, (3, 0, 4, 10, 1237, 3), 0, []), (.ifCond .eq 4, (3, 1, 2, 1, 0, 0), 0, [])],
  [(.return_, (1, 3, 0, 0, 0, 0), 0, [])],
  [(.aload_n 0, (1, 0, 0, 0, 0, 0), 0, []), (.iconst 1, (1, 0, 0, 0, 0, 0), 1, []), (.putfield 40, (3, 0, 4, 10, 1237, 3), 0, []), (.aload_n 0, (1, 0, 0, 0, 0, 0), 0, []), (.ldc 47, (2, 0, 0, 0, 1226, 0), 2147483647, []), (.putfield 48, (3, 0, 4, 12, 2000, 0), 0, []), (.aload_n 0, (1, 0, 0, 0, 0, 0), 0, []), (.ldc 47, (2, 0, 0, 0, 1226, 0), 2147483647, []), (.putfield 51, (3, 0, 4, 13, 2002, 0), 0, []), (.aload_n 0, (1, 0, 0, 0, 0, 0), 0, []), (.getfield 54, (3, 0, 4, 14, 2004, 1), 0, []), (.ldc 47, (2, 0, 0, 0, 1226, 0), 2147483647, []), (.invokestatic 93, (3, 2, 214, 3, 2, 0), 3212, [])],
  [(.aload_n 0, (1, 0, 0, 0, 0, 0), 0, []), (.invokevirtual 99, (3, 2, 32, 4, 1, 5), 3213, [])],
  [(.aload_n 0, (1, 0, 0, 0, 0, 0), 0, []), (.iconst 0, (1, 0, 0, 0, 0, 0), 0, []), (.iconst 0, (1, 0, 0, 0, 0, 0), 0, []), (.iconst 0, (1, 0, 0, 0, 0, 0), 0, []), (.invokevirtual 102, (3, 2, 33, 5, 4, 5), 3217, [])],
  [(.return_, (1, 3, 0, 0, 0, 0), 0, [])]]
/-- EvenlyPoured$Search.fewestChanges(I)I -/
noncomputable def bk_31 : List (List am_P) := [[(.iconst 0, (1, 0, 0, 0, 0, 0), 0, []), (.istore_n 2, (1, 0, 2, 0, 0, 0), 0, []), (.nop, (0, 1, 1, 0, 0, 0), 0, [])],
  [(.iload_n 2, (1, 0, 2, 0, 0, 0), 0, []), (.bipush 24, (2, 0, 0, 0, 0, 0), 24, []), (.if_icmp .gt 21, (3, 1, 5, 2, 0, 0), 0, [])],
  [(.aload_n 0, (1, 0, 0, 0, 0, 0), 0, []), (.getfield 54, (3, 0, 4, 14, 2004, 1), 0, []), (.iload_n 2, (1, 0, 2, 0, 0, 0), 0, []), (.iaload, (1, 0, 0, 0, 0, 0), 0, []), (.iload_n 1, (1, 0, 1, 0, 0, 0), 0, []), (.if_icmp .gt 5, (3, 1, 4, 3, 0, 0), 0, [])],
  [(.iload_n 2, (1, 0, 2, 0, 0, 0), 0, []), (.ireturn, (1, 3, 0, 0, 0, 0), 0, [])],
  [(.iinc 2 1, (3, 0, 2, 0, 0, 0), 1, []), (.goto (-21), (3, 1, 1, 0, 0, 0), 0, [])],
  [(.iconst (-1), (1, 0, 0, 0, 0, 0), (-1), []), (.ireturn, (1, 3, 0, 0, 0, 0), 0, [])]]
/-- EvenlyPoured$Search.empty()V -/
noncomputable def bk_32 : List (List am_P) := [[(.aload_n 0, (1, 0, 0, 0, 0, 0), 0, []), (.getfield 15, (3, 0, 4, 2, 1229, 1), 0, []), (.iconst 0, (1, 0, 0, 0, 0, 0), 0, []), (.invokestatic 93, (3, 2, 214, 1, 2, 0), 3212, [])],
  [(.aload_n 0, (1, 0, 0, 0, 0, 0), 0, []), (.getfield 18, (3, 0, 4, 3, 1230, 1), 0, []), (.iconst 0, (1, 0, 0, 0, 0, 0), 0, []), (.invokestatic 93, (3, 2, 214, 2, 2, 0), 3212, [])],
  [(.return_, (1, 3, 0, 0, 0, 0), 0, [])]]
/-- EvenlyPoured$Search.tryBalanced(III)V -/
noncomputable def bk_33 : List (List am_P) := [[(.iload_n 1, (1, 0, 1, 0, 0, 0), 0, []), (.aload_n 0, (1, 0, 0, 0, 0, 0), 0, []), (.getfield 31, (3, 0, 4, 7, 1234, 0), 0, []), (.if_icmp .lt 9, (3, 1, 3, 1, 0, 0), 0, [])],
  [(.aload_n 0, (1, 0, 0, 0, 0, 0), 0, []), (.iload_n 3, (1, 0, 3, 0, 0, 0), 0, []), (.invokevirtual 106, (3, 2, 35, 2, 2, 5), 3221, [])],
  [(.return_, (1, 3, 0, 0, 0, 0), 0, [])],
  [(.iconst 0, (1, 0, 0, 0, 0, 0), 0, []), (.istore 4, (2, 0, 4, 0, 0, 0), 0, []), (.nop, (0, 1, 4, 0, 0, 0), 0, [])],
  [(.iload 4, (2, 0, 4, 0, 0, 0), 0, []), (.aload_n 0, (1, 0, 0, 0, 0, 0), 0, []), (.getfield 28, (3, 0, 4, 6, 1233, 0), 0, []), (.if_icmp .ge 108, (3, 1, 15, 5, 0, 0), 0, [])],
  [(.aload_n 0, (1, 0, 0, 0, 0, 0), 0, []), (.iload 4, (2, 0, 4, 0, 0, 0), 0, []), (.invokevirtual 110, (3, 2, 34, 6, 2, 5), 3228, [])],
  [(.ifCond .eq 93, (3, 1, 14, 7, 0, 0), 0, [])],
  [(.aload_n 0, (1, 0, 0, 0, 0, 0), 0, []), (.iload_n 1, (1, 0, 1, 0, 0, 0), 0, []), (.iload 4, (2, 0, 4, 0, 0, 0), 0, []), (.iload_n 2, (1, 0, 2, 0, 0, 0), 0, []), (.invokevirtual 114, (3, 2, 29, 8, 4, 5), 3232, [])],
  [(.istore 5, (2, 0, 5, 0, 0, 0), 0, []), (.aload_n 0, (1, 0, 0, 0, 0, 0), 0, []), (.getfield 21, (3, 0, 4, 4, 1231, 1), 0, []), (.iload_n 1, (1, 0, 1, 0, 0, 0), 0, []), (.iload 4, (2, 0, 4, 0, 0, 0), 0, []), (.iastore, (1, 0, 0, 0, 0, 0), 0, []), (.aload_n 0, (1, 0, 0, 0, 0, 0), 0, []), (.getfield 15, (3, 0, 4, 2, 1229, 1), 0, []), (.iload 4, (2, 0, 4, 0, 0, 0), 0, []), (.dup2, (1, 0, 0, 0, 0, 0), 0, []), (.iaload, (1, 0, 0, 0, 0, 0), 0, []), (.iconst 1, (1, 0, 0, 0, 0, 0), 1, []), (.iadd, (1, 0, 0, 0, 0, 0), 0, []), (.iastore, (1, 0, 0, 0, 0, 0), 0, []), (.aload_n 0, (1, 0, 0, 0, 0, 0), 0, []), (.getfield 18, (3, 0, 4, 3, 1230, 1), 0, []), (.iload 4, (2, 0, 4, 0, 0, 0), 0, []), (.dup2, (1, 0, 0, 0, 0, 0), 0, []), (.iaload, (1, 0, 0, 0, 0, 0), 0, []), (.iload 5, (2, 0, 5, 0, 0, 0), 0, []), (.iadd, (1, 0, 0, 0, 0, 0), 0, []), (.iastore, (1, 0, 0, 0, 0, 0), 0, []), (.aload_n 0, (1, 0, 0, 0, 0, 0), 0, []), (.iload_n 1, (1, 0, 1, 0, 0, 0), 0, []), (.iconst 1, (1, 0, 0, 0, 0, 0), 1, []), (.iadd, (1, 0, 0, 0, 0, 0), 0, []), (.iload 4, (2, 0, 4, 0, 0, 0), 0, []), (.iload_n 1, (1, 0, 1, 0, 0, 0), 0, []), (.ifCond .le 15, (3, 1, 11, 9, 0, 0), 0, [])],
  [(.iload 4, (2, 0, 4, 0, 0, 0), 0, []), (.iload_n 2, (1, 0, 2, 0, 0, 0), 0, []), (.if_icmp .eq 9, (3, 1, 11, 10, 0, 0), 0, [])],
  [(.iload_n 3, (1, 0, 3, 0, 0, 0), 0, []), (.iconst 1, (1, 0, 0, 0, 0, 0), 1, []), (.iadd, (1, 0, 0, 0, 0, 0), 0, []), (.goto 4, (3, 1, 12, 0, 0, 0), 0, [])],
  [(.iload_n 3, (1, 0, 3, 0, 0, 0), 0, []), (.nop, (0, 1, 12, 0, 0, 0), 0, [])],
  [(.invokevirtual 102, (3, 2, 33, 13, 4, 5), 3217, [])],
  [(.aload_n 0, (1, 0, 0, 0, 0, 0), 0, []), (.getfield 15, (3, 0, 4, 2, 1229, 1), 0, []), (.iload 4, (2, 0, 4, 0, 0, 0), 0, []), (.dup2, (1, 0, 0, 0, 0, 0), 0, []), (.iaload, (1, 0, 0, 0, 0, 0), 0, []), (.iconst 1, (1, 0, 0, 0, 0, 0), 1, []), (.isub, (1, 0, 0, 0, 0, 0), 0, []), (.iastore, (1, 0, 0, 0, 0, 0), 0, []), (.aload_n 0, (1, 0, 0, 0, 0, 0), 0, []), (.getfield 18, (3, 0, 4, 3, 1230, 1), 0, []), (.iload 4, (2, 0, 4, 0, 0, 0), 0, []), (.dup2, (1, 0, 0, 0, 0, 0), 0, []), (.iaload, (1, 0, 0, 0, 0, 0), 0, []), (.iload 5, (2, 0, 5, 0, 0, 0), 0, []), (.isub, (1, 0, 0, 0, 0, 0), 0, []), (.iastore, (1, 0, 0, 0, 0, 0), 0, []), (.nop, (0, 1, 14, 0, 0, 0), 0, [])],
  [(.iinc 4 1, (3, 0, 4, 0, 0, 0), 1, []), (.goto (-111), (3, 1, 4, 0, 0, 0), 0, [])],
  [(.return_, (1, 3, 0, 0, 0, 0), 0, [])]]
/-- EvenlyPoured$Search.hasRoom(I)Z -/
noncomputable def bk_34 : List (List am_P) := [[(.aload_n 0, (1, 0, 0, 0, 0, 0), 0, []), (.getfield 15, (3, 0, 4, 2, 1229, 1), 0, []), (.iload_n 1, (1, 0, 1, 0, 0, 0), 0, []), (.iaload, (1, 0, 0, 0, 0, 0), 0, []), (.aload_n 0, (1, 0, 0, 0, 0, 0), 0, []), (.getfield 34, (3, 0, 4, 8, 1235, 0), 0, []), (.if_icmp .eq 22, (3, 1, 5, 1, 0, 0), 0, [])],
  [(.aload_n 0, (1, 0, 0, 0, 0, 0), 0, []), (.getfield 15, (3, 0, 4, 2, 1229, 1), 0, []), (.iload_n 1, (1, 0, 1, 0, 0, 0), 0, []), (.iaload, (1, 0, 0, 0, 0, 0), 0, []), (.aload_n 0, (1, 0, 0, 0, 0, 0), 0, []), (.getfield 34, (3, 0, 4, 8, 1235, 0), 0, []), (.if_icmp .ge 7, (3, 1, 3, 2, 0, 0), 0, [])],
  [(.iconst 1, (1, 0, 0, 0, 0, 0), 1, []), (.goto 4, (3, 1, 4, 0, 0, 0), 0, [])],
  [(.iconst 0, (1, 0, 0, 0, 0, 0), 0, []), (.nop, (0, 1, 4, 0, 0, 0), 0, [])],
  [(.ireturn, (1, 3, 0, 0, 0, 1), 0, [])],
  [(.iconst 1, (1, 0, 0, 0, 0, 0), 1, []), (.istore_n 2, (1, 0, 2, 0, 0, 0), 0, []), (.iconst 0, (1, 0, 0, 0, 0, 0), 0, []), (.istore_n 3, (1, 0, 3, 0, 0, 0), 0, []), (.nop, (0, 1, 6, 0, 0, 0), 0, [])],
  [(.iload_n 3, (1, 0, 3, 0, 0, 0), 0, []), (.aload_n 0, (1, 0, 0, 0, 0, 0), 0, []), (.getfield 28, (3, 0, 4, 6, 1233, 0), 0, []), (.if_icmp .ge 25, (3, 1, 10, 7, 0, 0), 0, [])],
  [(.aload_n 0, (1, 0, 0, 0, 0, 0), 0, []), (.getfield 15, (3, 0, 4, 2, 1229, 1), 0, []), (.iload_n 3, (1, 0, 3, 0, 0, 0), 0, []), (.iaload, (1, 0, 0, 0, 0, 0), 0, []), (.aload_n 0, (1, 0, 0, 0, 0, 0), 0, []), (.getfield 34, (3, 0, 4, 8, 1235, 0), 0, []), (.if_icmp .le 6, (3, 1, 9, 8, 0, 0), 0, [])],
  [(.iinc 2 1, (3, 0, 2, 0, 0, 0), 1, []), (.nop, (0, 1, 9, 0, 0, 0), 0, [])],
  [(.iinc 3 1, (3, 0, 3, 0, 0, 0), 1, []), (.goto (-27), (3, 1, 6, 0, 0, 0), 0, [])],
  [(.iload_n 2, (1, 0, 2, 0, 0, 0), 0, []), (.aload_n 0, (1, 0, 0, 0, 0, 0), 0, []), (.getfield 37, (3, 0, 4, 9, 1236, 0), 0, []), (.if_icmp .gt 7, (3, 1, 12, 11, 0, 0), 0, [])],
  [(.iconst 1, (1, 0, 0, 0, 0, 0), 1, []), (.goto 4, (3, 1, 13, 0, 0, 0), 0, [])],
  [(.iconst 0, (1, 0, 0, 0, 0, 0), 0, []), (.nop, (0, 1, 13, 0, 0, 0), 0, [])],
  [(.ireturn, (1, 3, 0, 0, 0, 1), 0, [])]]
/-- EvenlyPoured$Search.judge(I)V -/
noncomputable def bk_35 : List (List am_P) := [[(.aload_n 0, (1, 0, 0, 0, 0, 0), 0, []), (.getfield 18, (3, 0, 4, 3, 1230, 1), 0, []), (.aload_n 0, (1, 0, 0, 0, 0, 0), 0, []), (.getfield 28, (3, 0, 4, 6, 1233, 0), 0, []), (.invokestatic 118, (3, 2, 107, 1, 2, 0), 3225, [])],
  [(.istore_n 2, (1, 0, 2, 0, 0, 0), 0, []), (.aload_n 0, (1, 0, 0, 0, 0, 0), 0, []), (.getfield 54, (3, 0, 4, 14, 2004, 1), 0, []), (.iload_n 1, (1, 0, 1, 0, 0, 0), 0, []), (.aload_n 0, (1, 0, 0, 0, 0, 0), 0, []), (.getfield 54, (3, 0, 4, 14, 2004, 1), 0, []), (.iload_n 1, (1, 0, 1, 0, 0, 0), 0, []), (.iaload, (1, 0, 0, 0, 0, 0), 0, []), (.iload_n 2, (1, 0, 2, 0, 0, 0), 0, []), (.invokestatic 122, (3, 0, 0, 0, 3226, 2), 0, []), (.iastore, (1, 0, 0, 0, 0, 0), 0, []), (.iload_n 2, (1, 0, 2, 0, 0, 0), 0, []), (.aload_n 0, (1, 0, 0, 0, 0, 0), 0, []), (.getfield 48, (3, 0, 4, 12, 2000, 0), 0, []), (.if_icmp .lt 19, (3, 1, 4, 2, 0, 0), 0, [])],
  [(.iload_n 2, (1, 0, 2, 0, 0, 0), 0, []), (.aload_n 0, (1, 0, 0, 0, 0, 0), 0, []), (.getfield 48, (3, 0, 4, 12, 2000, 0), 0, []), (.if_icmp .ne 38, (3, 1, 5, 3, 0, 0), 0, [])],
  [(.iload_n 1, (1, 0, 1, 0, 0, 0), 0, []), (.aload_n 0, (1, 0, 0, 0, 0, 0), 0, []), (.getfield 51, (3, 0, 4, 13, 2002, 0), 0, []), (.if_icmp .ge 30, (3, 1, 5, 4, 0, 0), 0, [])],
  [(.aload_n 0, (1, 0, 0, 0, 0, 0), 0, []), (.iload_n 2, (1, 0, 2, 0, 0, 0), 0, []), (.putfield 48, (3, 0, 4, 12, 2000, 0), 0, []), (.aload_n 0, (1, 0, 0, 0, 0, 0), 0, []), (.iload_n 1, (1, 0, 1, 0, 0, 0), 0, []), (.putfield 51, (3, 0, 4, 13, 2002, 0), 0, []), (.aload_n 0, (1, 0, 0, 0, 0, 0), 0, []), (.getfield 21, (3, 0, 4, 4, 1231, 1), 0, []), (.iconst 0, (1, 0, 0, 0, 0, 0), 0, []), (.aload_n 0, (1, 0, 0, 0, 0, 0), 0, []), (.getfield 44, (3, 0, 4, 11, 1238, 1), 0, []), (.iconst 0, (1, 0, 0, 0, 0, 0), 0, []), (.aload_n 0, (1, 0, 0, 0, 0, 0), 0, []), (.getfield 31, (3, 0, 4, 7, 1234, 0), 0, []), (.invokestatic 128, (3, 0, 0, 0, 3227, 0), 0, []), (.nop, (0, 1, 5, 0, 0, 0), 0, [])],
  [(.return_, (1, 3, 0, 0, 0, 0), 0, [])]]
/-- EvenlyPoured$Search.findTasted([I)V -/
noncomputable def bk_36 : List (List am_P) := [[(.aload_n 0, (1, 0, 0, 0, 0, 0), 0, []), (.iconst 0, (1, 0, 0, 0, 0, 0), 0, []), (.putfield 57, (3, 0, 4, 15, 2005, 0), 0, []), (.aload_n 0, (1, 0, 0, 0, 0, 0), 0, []), (.iconst (-1), (1, 0, 0, 0, 0, 0), (-1), []), (.putfield 60, (3, 0, 4, 16, 2007, 0), 0, []), (.aload_n 0, (1, 0, 0, 0, 0, 0), 0, []), (.invokevirtual 99, (3, 2, 32, 1, 1, 5), 3213, [])],
  [(.aload_n 0, (1, 0, 0, 0, 0, 0), 0, []), (.iconst 0, (1, 0, 0, 0, 0, 0), 0, []), (.iconst 0, (1, 0, 0, 0, 0, 0), 0, []), (.iconst 0, (1, 0, 0, 0, 0, 0), 0, []), (.aload_n 1, (1, 0, 1, 0, 0, 0), 0, []), (.invokevirtual 134, (3, 2, 37, 2, 5, 5), 4076, [])],
  [(.return_, (1, 3, 0, 0, 0, 0), 0, [])]]
/-- EvenlyPoured$Search.tryTold(III[I)V -/
noncomputable def bk_37 : List (List am_P) := [[(.iload_n 1, (1, 0, 1, 0, 0, 0), 0, []), (.aload_n 0, (1, 0, 0, 0, 0, 0), 0, []), (.getfield 31, (3, 0, 4, 7, 1234, 0), 0, []), (.if_icmp .lt 11, (3, 1, 3, 1, 0, 0), 0, [])],
  [(.aload_n 0, (1, 0, 0, 0, 0, 0), 0, []), (.iload_n 3, (1, 0, 3, 0, 0, 0), 0, []), (.aload 4, (2, 0, 4, 0, 0, 0), 0, []), (.invokevirtual 138, (3, 2, 38, 2, 3, 5), 4080, [])],
  [(.return_, (1, 3, 0, 0, 0, 0), 0, [])],
  [(.iconst 0, (1, 0, 0, 0, 0, 0), 0, []), (.istore 5, (2, 0, 5, 0, 0, 0), 0, []), (.nop, (0, 1, 4, 0, 0, 0), 0, [])],
  [(.iload 5, (2, 0, 5, 0, 0, 0), 0, []), (.aload_n 0, (1, 0, 0, 0, 0, 0), 0, []), (.getfield 28, (3, 0, 4, 6, 1233, 0), 0, []), (.if_icmp .ge 101, (3, 1, 10, 5, 0, 0), 0, [])],
  [(.aload_n 0, (1, 0, 0, 0, 0, 0), 0, []), (.iload_n 1, (1, 0, 1, 0, 0, 0), 0, []), (.iload 5, (2, 0, 5, 0, 0, 0), 0, []), (.iload_n 2, (1, 0, 2, 0, 0, 0), 0, []), (.invokevirtual 114, (3, 2, 29, 6, 4, 5), 3232, [])],
  [(.istore 6, (2, 0, 6, 0, 0, 0), 0, []), (.aload_n 0, (1, 0, 0, 0, 0, 0), 0, []), (.getfield 18, (3, 0, 4, 3, 1230, 1), 0, []), (.iload 5, (2, 0, 5, 0, 0, 0), 0, []), (.iaload, (1, 0, 0, 0, 0, 0), 0, []), (.iload 6, (2, 0, 6, 0, 0, 0), 0, []), (.iadd, (1, 0, 0, 0, 0, 0), 0, []), (.aload 4, (2, 0, 4, 0, 0, 0), 0, []), (.iload 5, (2, 0, 5, 0, 0, 0), 0, []), (.iaload, (1, 0, 0, 0, 0, 0), 0, []), (.if_icmp .gt 67, (3, 1, 9, 7, 0, 0), 0, [])],
  [(.aload_n 0, (1, 0, 0, 0, 0, 0), 0, []), (.getfield 15, (3, 0, 4, 2, 1229, 1), 0, []), (.iload 5, (2, 0, 5, 0, 0, 0), 0, []), (.dup2, (1, 0, 0, 0, 0, 0), 0, []), (.iaload, (1, 0, 0, 0, 0, 0), 0, []), (.iconst 1, (1, 0, 0, 0, 0, 0), 1, []), (.iadd, (1, 0, 0, 0, 0, 0), 0, []), (.iastore, (1, 0, 0, 0, 0, 0), 0, []), (.aload_n 0, (1, 0, 0, 0, 0, 0), 0, []), (.getfield 18, (3, 0, 4, 3, 1230, 1), 0, []), (.iload 5, (2, 0, 5, 0, 0, 0), 0, []), (.dup2, (1, 0, 0, 0, 0, 0), 0, []), (.iaload, (1, 0, 0, 0, 0, 0), 0, []), (.iload 6, (2, 0, 6, 0, 0, 0), 0, []), (.iadd, (1, 0, 0, 0, 0, 0), 0, []), (.iastore, (1, 0, 0, 0, 0, 0), 0, []), (.aload_n 0, (1, 0, 0, 0, 0, 0), 0, []), (.iload_n 1, (1, 0, 1, 0, 0, 0), 0, []), (.iconst 1, (1, 0, 0, 0, 0, 0), 1, []), (.iadd, (1, 0, 0, 0, 0, 0), 0, []), (.iload 5, (2, 0, 5, 0, 0, 0), 0, []), (.iload_n 3, (1, 0, 3, 0, 0, 0), 0, []), (.bipush 10, (2, 0, 0, 0, 0, 0), 10, []), (.imul, (1, 0, 0, 0, 0, 0), 0, []), (.iload 5, (2, 0, 5, 0, 0, 0), 0, []), (.iadd, (1, 0, 0, 0, 0, 0), 0, []), (.aload 4, (2, 0, 4, 0, 0, 0), 0, []), (.invokevirtual 134, (3, 2, 37, 8, 5, 5), 4076, [])],
  [(.aload_n 0, (1, 0, 0, 0, 0, 0), 0, []), (.getfield 15, (3, 0, 4, 2, 1229, 1), 0, []), (.iload 5, (2, 0, 5, 0, 0, 0), 0, []), (.dup2, (1, 0, 0, 0, 0, 0), 0, []), (.iaload, (1, 0, 0, 0, 0, 0), 0, []), (.iconst 1, (1, 0, 0, 0, 0, 0), 1, []), (.isub, (1, 0, 0, 0, 0, 0), 0, []), (.iastore, (1, 0, 0, 0, 0, 0), 0, []), (.aload_n 0, (1, 0, 0, 0, 0, 0), 0, []), (.getfield 18, (3, 0, 4, 3, 1230, 1), 0, []), (.iload 5, (2, 0, 5, 0, 0, 0), 0, []), (.dup2, (1, 0, 0, 0, 0, 0), 0, []), (.iaload, (1, 0, 0, 0, 0, 0), 0, []), (.iload 6, (2, 0, 6, 0, 0, 0), 0, []), (.isub, (1, 0, 0, 0, 0, 0), 0, []), (.iastore, (1, 0, 0, 0, 0, 0), 0, []), (.nop, (0, 1, 9, 0, 0, 0), 0, [])],
  [(.iinc 5 1, (3, 0, 5, 0, 0, 0), 1, []), (.goto (-104), (3, 1, 4, 0, 0, 0), 0, [])],
  [(.return_, (1, 3, 0, 0, 0, 0), 0, [])]]
/-- EvenlyPoured$Search.tellTasted(I[I)V -/
noncomputable def bk_38 : List (List am_P) := [[(.iconst 0, (1, 0, 0, 0, 0, 0), 0, []), (.istore_n 3, (1, 0, 3, 0, 0, 0), 0, []), (.nop, (0, 1, 1, 0, 0, 0), 0, [])],
  [(.iload_n 3, (1, 0, 3, 0, 0, 0), 0, []), (.aload_n 0, (1, 0, 0, 0, 0, 0), 0, []), (.getfield 28, (3, 0, 4, 6, 1233, 0), 0, []), (.if_icmp .ge 22, (3, 1, 5, 2, 0, 0), 0, [])],
  [(.aload_n 0, (1, 0, 0, 0, 0, 0), 0, []), (.getfield 18, (3, 0, 4, 3, 1230, 1), 0, []), (.iload_n 3, (1, 0, 3, 0, 0, 0), 0, []), (.iaload, (1, 0, 0, 0, 0, 0), 0, []), (.aload_n 2, (1, 0, 2, 0, 0, 0), 0, []), (.iload_n 3, (1, 0, 3, 0, 0, 0), 0, []), (.iaload, (1, 0, 0, 0, 0, 0), 0, []), (.if_icmp .eq 4, (3, 1, 4, 3, 0, 0), 0, [])],
  [(.return_, (1, 3, 0, 0, 0, 0), 0, [])],
  [(.iinc 3 1, (3, 0, 3, 0, 0, 0), 1, []), (.goto (-24), (3, 1, 1, 0, 0, 0), 0, [])],
  [(.aload_n 0, (1, 0, 0, 0, 0, 0), 0, []), (.getfield 57, (3, 0, 4, 15, 2005, 0), 0, []), (.ifCond .ne 8, (3, 1, 7, 6, 0, 0), 0, [])],
  [(.aload_n 0, (1, 0, 0, 0, 0, 0), 0, []), (.iload_n 1, (1, 0, 1, 0, 0, 0), 0, []), (.putfield 60, (3, 0, 4, 16, 2007, 0), 0, []), (.nop, (0, 1, 7, 0, 0, 0), 0, [])],
  [(.aload_n 0, (1, 0, 0, 0, 0, 0), 0, []), (.dup, (1, 0, 0, 0, 0, 0), 0, []), (.getfield 57, (3, 0, 4, 15, 2005, 0), 0, []), (.iconst 1, (1, 0, 0, 0, 0, 0), 1, []), (.iadd, (1, 0, 0, 0, 0, 0), 0, []), (.putfield 57, (3, 0, 4, 15, 2005, 0), 0, []), (.return_, (1, 3, 0, 0, 0, 0), 0, [])]]
/-- EvenlyPoured$Sheet.<init>()V -/
noncomputable def bk_39 : List (List am_P) := [[(.aload_n 0, (1, 0, 0, 0, 0, 0), 0, []), (.invokespecial 3, (3, 0, 0, 0, 1155, 0), 0, []), (.aload_n 0, (1, 0, 0, 0, 0, 0), 0, []), (.iconst (-1), (1, 0, 0, 0, 0, 0), (-1), []), (.putfield 9, (3, 0, 5, 0, 1156, 0), 0, []), (.aload_n 0, (1, 0, 0, 0, 0, 0), 0, []), (.iconst 0, (1, 0, 0, 0, 0, 0), 0, []), (.putfield 15, (3, 0, 5, 1, 1158, 0), 0, []), (.aload_n 0, (1, 0, 0, 0, 0, 0), 0, []), (.bipush 40, (2, 0, 0, 0, 0, 0), 40, []), (.newarray .int, (2, 0, 20, 0, 0, 0), 0, []), (.putfield 18, (3, 0, 5, 2, 1160, 1), 0, []), (.return_, (1, 3, 0, 0, 0, 0), 0, [])]]
/-- EvenlyPoured$Sheet.begin(II)V -/
noncomputable def bk_40 : List (List am_P) := [[(.aload_n 0, (1, 0, 0, 0, 0, 0), 0, []), (.iload_n 1, (1, 0, 1, 0, 0, 0), 0, []), (.putfield 9, (3, 0, 5, 0, 1156, 0), 0, []), (.aload_n 0, (1, 0, 0, 0, 0, 0), 0, []), (.iload_n 2, (1, 0, 2, 0, 0, 0), 0, []), (.putfield 15, (3, 0, 5, 1, 1158, 0), 0, []), (.aload_n 0, (1, 0, 0, 0, 0, 0), 0, []), (.getfield 18, (3, 0, 5, 2, 1160, 1), 0, []), (.nop, (0, 1, 1, 0, 0, 0), 0, [])],
  [(.iconst 0, (1, 0, 0, 0, 0, 0), 0, []), (.invokestatic 22, (3, 2, 214, 2, 2, 0), 4135, [])],
  [(.return_, (1, 3, 0, 0, 0, 0), 0, [])]]
/-- EvenlyPoured$Sheet.isMissing()Z -/
noncomputable def bk_41 : List (List am_P) := [[(.aload_n 0, (1, 0, 0, 0, 0, 0), 0, []), (.getfield 9, (3, 0, 5, 0, 1156, 0), 0, []), (.iconst (-1), (1, 0, 0, 0, 0, 0), (-1), []), (.if_icmp .ne 7, (3, 1, 2, 1, 0, 0), 0, [])],
  [(.iconst 1, (1, 0, 0, 0, 0, 0), 1, []), (.goto 4, (3, 1, 3, 0, 0, 0), 0, [])],
  [(.iconst 0, (1, 0, 0, 0, 0, 0), 0, []), (.nop, (0, 1, 3, 0, 0, 0), 0, [])],
  [(.ireturn, (1, 3, 0, 0, 0, 1), 0, [])]]
/-- EvenlyPoured$Sheet.has(I)Z -/
noncomputable def bk_42 : List (List am_P) := [[(.iload_n 1, (1, 0, 1, 0, 0, 0), 0, []), (.ifCond .lt 15, (3, 1, 3, 1, 0, 0), 0, [])],
  [(.iload_n 1, (1, 0, 1, 0, 0, 0), 0, []), (.aload_n 0, (1, 0, 0, 0, 0, 0), 0, []), (.getfield 15, (3, 0, 5, 1, 1158, 0), 0, []), (.if_icmp .ge 7, (3, 1, 3, 2, 0, 0), 0, [])],
  [(.iconst 1, (1, 0, 0, 0, 0, 0), 1, []), (.goto 4, (3, 1, 4, 0, 0, 0), 0, [])],
  [(.iconst 0, (1, 0, 0, 0, 0, 0), 0, []), (.nop, (0, 1, 4, 0, 0, 0), 0, [])],
  [(.ireturn, (1, 3, 0, 0, 0, 1), 0, [])]]
/-- EvenlyPoured$Sheet.hasAll(II)Z -/
noncomputable def bk_43 : List (List am_P) := [[(.iload_n 1, (1, 0, 1, 0, 0, 0), 0, []), (.ifCond .lt 29, (3, 1, 5, 1, 0, 0), 0, [])],
  [(.iload_n 2, (1, 0, 2, 0, 0, 0), 0, []), (.ifCond .lt 25, (3, 1, 5, 2, 0, 0), 0, [])],
  [(.iload_n 1, (1, 0, 1, 0, 0, 0), 0, []), (.aload_n 0, (1, 0, 0, 0, 0, 0), 0, []), (.getfield 15, (3, 0, 5, 1, 1158, 0), 0, []), (.if_icmp .gt 17, (3, 1, 5, 3, 0, 0), 0, [])],
  [(.iload_n 2, (1, 0, 2, 0, 0, 0), 0, []), (.aload_n 0, (1, 0, 0, 0, 0, 0), 0, []), (.getfield 15, (3, 0, 5, 1, 1158, 0), 0, []), (.iload_n 1, (1, 0, 1, 0, 0, 0), 0, []), (.isub, (1, 0, 0, 0, 0, 0), 0, []), (.if_icmp .gt 7, (3, 1, 5, 4, 0, 0), 0, [])],
  [(.iconst 1, (1, 0, 0, 0, 0, 0), 1, []), (.goto 4, (3, 1, 6, 0, 0, 0), 0, [])],
  [(.iconst 0, (1, 0, 0, 0, 0, 0), 0, []), (.nop, (0, 1, 6, 0, 0, 0), 0, [])],
  [(.ireturn, (1, 3, 0, 0, 0, 1), 0, [])]]
/-- EvenlyPoured$Sheet.write(II)V -/
noncomputable def bk_44 : List (List am_P) := [[(.aload_n 0, (1, 0, 0, 0, 0, 0), 0, []), (.getfield 9, (3, 0, 5, 0, 1156, 0), 0, []), (.lookupswitch 50 #[(0, 28), (1, 39)], (28, 1, 0, 5, 0, 0), 0, [(0, 1), (1, 3)])],
  [(.aload_n 0, (1, 0, 0, 0, 0, 0), 0, []), (.getfield 18, (3, 0, 5, 2, 1160, 1), 0, []), (.nop, (0, 1, 2, 0, 0, 0), 0, [])],
  [(.iload_n 1, (1, 0, 1, 0, 0, 0), 0, []), (.iload_n 2, (1, 0, 2, 0, 0, 0), 0, []), (.i2b, (1, 0, 0, 0, 0, 0), 0, []), (.iastore, (1, 0, 0, 0, 0, 0), 0, []), (.goto 21, (3, 1, 7, 0, 0, 0), 0, [])],
  [(.aload_n 0, (1, 0, 0, 0, 0, 0), 0, []), (.getfield 18, (3, 0, 5, 2, 1160, 1), 0, []), (.nop, (0, 1, 4, 0, 0, 0), 0, [])],
  [(.iload_n 1, (1, 0, 1, 0, 0, 0), 0, []), (.iload_n 2, (1, 0, 2, 0, 0, 0), 0, []), (.i2s, (1, 0, 0, 0, 0, 0), 0, []), (.iastore, (1, 0, 0, 0, 0, 0), 0, []), (.goto 10, (3, 1, 7, 0, 0, 0), 0, [])],
  [(.aload_n 0, (1, 0, 0, 0, 0, 0), 0, []), (.getfield 18, (3, 0, 5, 2, 1160, 1), 0, []), (.nop, (0, 1, 6, 0, 0, 0), 0, [])],
  [(.iload_n 1, (1, 0, 1, 0, 0, 0), 0, []), (.iload_n 2, (1, 0, 2, 0, 0, 0), 0, []), (.iastore, (1, 0, 0, 0, 0, 0), 0, []), (.nop, (0, 1, 7, 0, 0, 0), 0, [])],
  [(.return_, (1, 3, 0, 0, 0, 0), 0, [])]]
/-- EvenlyPoured$Tape.<init>()V -/
noncomputable def bk_45 : List (List am_P) := [[(.aload_n 0, (1, 0, 0, 0, 0, 0), 0, []), (.invokespecial 3, (3, 0, 0, 0, 1036, 0), 0, []), (.aload_n 0, (1, 0, 0, 0, 0, 0), 0, []), (.sipush 160, (3, 0, 0, 0, 0, 0), 160, []), (.newarray .int, (2, 0, 20, 0, 0, 0), 0, []), (.putfield 9, (3, 0, 6, 0, 1037, 1), 0, []), (.aload_n 0, (1, 0, 0, 0, 0, 0), 0, []), (.iconst 0, (1, 0, 0, 0, 0, 0), 0, []), (.putfield 15, (3, 0, 6, 1, 1039, 0), 0, []), (.aload_n 0, (1, 0, 0, 0, 0, 0), 0, []), (.sipush 161, (3, 0, 0, 0, 0, 0), 161, []), (.newarray .int, (2, 0, 20, 0, 0, 0), 0, []), (.putfield 19, (3, 0, 6, 2, 1041, 1), 0, []), (.aload_n 0, (1, 0, 0, 0, 0, 0), 0, []), (.sipush 161, (3, 0, 0, 0, 0, 0), 161, []), (.newarray .int, (2, 0, 20, 0, 0, 0), 0, []), (.putfield 22, (3, 0, 6, 3, 1043, 1), 0, []), (.aload_n 0, (1, 0, 0, 0, 0, 0), 0, []), (.iconst 0, (1, 0, 0, 0, 0, 0), 0, []), (.putfield 25, (3, 0, 6, 4, 1045, 0), 0, []), (.return_, (1, 3, 0, 0, 0, 0), 0, [])]]
/-- EvenlyPoured$Tape.splitUp()V -/
noncomputable def bk_46 : List (List am_P) := [[(.aload_n 0, (1, 0, 0, 0, 0, 0), 0, []), (.iconst 0, (1, 0, 0, 0, 0, 0), 0, []), (.putfield 25, (3, 0, 6, 4, 1045, 0), 0, []), (.iconst 0, (1, 0, 0, 0, 0, 0), 0, []), (.istore_n 1, (1, 0, 1, 0, 0, 0), 0, []), (.iconst 0, (1, 0, 0, 0, 0, 0), 0, []), (.istore_n 2, (1, 0, 2, 0, 0, 0), 0, []), (.nop, (0, 1, 1, 0, 0, 0), 0, [])],
  [(.iload_n 2, (1, 0, 2, 0, 0, 0), 0, []), (.sipush 160, (3, 0, 0, 0, 0, 0), 160, []), (.if_icmp .ge 82, (3, 1, 9, 2, 0, 0), 0, [])],
  [(.iload_n 1, (1, 0, 1, 0, 0, 0), 0, []), (.aload_n 0, (1, 0, 0, 0, 0, 0), 0, []), (.getfield 15, (3, 0, 6, 1, 1039, 0), 0, []), (.if_icmp .ge 74, (3, 1, 9, 3, 0, 0), 0, [])],
  [(.aload_n 0, (1, 0, 0, 0, 0, 0), 0, []), (.iload_n 1, (1, 0, 1, 0, 0, 0), 0, []), (.invokevirtual 28, (3, 2, 47, 4, 2, 7), 2172, [])],
  [(.istore_n 3, (1, 0, 3, 0, 0, 0), 0, []), (.aload_n 0, (1, 0, 0, 0, 0, 0), 0, []), (.getfield 9, (3, 0, 6, 0, 1037, 1), 0, []), (.iload_n 1, (1, 0, 1, 0, 0, 0), 0, []), (.iaload, (1, 0, 0, 0, 0, 0), 0, []), (.bipush 32, (2, 0, 0, 0, 0, 0), 32, []), (.if_icmp .eq 49, (3, 1, 8, 5, 0, 0), 0, [])],
  [(.aload_n 0, (1, 0, 0, 0, 0, 0), 0, []), (.getfield 9, (3, 0, 6, 0, 1037, 1), 0, []), (.iload_n 1, (1, 0, 1, 0, 0, 0), 0, []), (.iaload, (1, 0, 0, 0, 0, 0), 0, []), (.bipush 10, (2, 0, 0, 0, 0, 0), 10, []), (.if_icmp .eq 38, (3, 1, 8, 6, 0, 0), 0, [])],
  [(.aload_n 0, (1, 0, 0, 0, 0, 0), 0, []), (.getfield 19, (3, 0, 6, 2, 1041, 1), 0, []), (.aload_n 0, (1, 0, 0, 0, 0, 0), 0, []), (.getfield 25, (3, 0, 6, 4, 1045, 0), 0, []), (.aload_n 0, (1, 0, 0, 0, 0, 0), 0, []), (.iload_n 1, (1, 0, 1, 0, 0, 0), 0, []), (.iload_n 3, (1, 0, 3, 0, 0, 0), 0, []), (.invokevirtual 32, (3, 2, 48, 7, 3, 7), 2182, [])],
  [(.iastore, (1, 0, 0, 0, 0, 0), 0, []), (.aload_n 0, (1, 0, 0, 0, 0, 0), 0, []), (.getfield 22, (3, 0, 6, 3, 1043, 1), 0, []), (.aload_n 0, (1, 0, 0, 0, 0, 0), 0, []), (.getfield 25, (3, 0, 6, 4, 1045, 0), 0, []), (.iload_n 1, (1, 0, 1, 0, 0, 0), 0, []), (.iastore, (1, 0, 0, 0, 0, 0), 0, []), (.aload_n 0, (1, 0, 0, 0, 0, 0), 0, []), (.dup, (1, 0, 0, 0, 0, 0), 0, []), (.getfield 25, (3, 0, 6, 4, 1045, 0), 0, []), (.iconst 1, (1, 0, 0, 0, 0, 0), 1, []), (.iadd, (1, 0, 0, 0, 0, 0), 0, []), (.putfield 25, (3, 0, 6, 4, 1045, 0), 0, []), (.nop, (0, 1, 8, 0, 0, 0), 0, [])],
  [(.iload_n 3, (1, 0, 3, 0, 0, 0), 0, []), (.istore_n 1, (1, 0, 1, 0, 0, 0), 0, []), (.iinc 2 1, (3, 0, 2, 0, 0, 0), 1, []), (.goto (-83), (3, 1, 1, 0, 0, 0), 0, [])],
  [(.aload_n 0, (1, 0, 0, 0, 0, 0), 0, []), (.getfield 19, (3, 0, 6, 2, 1041, 1), 0, []), (.aload_n 0, (1, 0, 0, 0, 0, 0), 0, []), (.getfield 25, (3, 0, 6, 4, 1045, 0), 0, []), (.iconst (-1), (1, 0, 0, 0, 0, 0), (-1), []), (.iastore, (1, 0, 0, 0, 0, 0), 0, []), (.aload_n 0, (1, 0, 0, 0, 0, 0), 0, []), (.getfield 22, (3, 0, 6, 3, 1043, 1), 0, []), (.aload_n 0, (1, 0, 0, 0, 0, 0), 0, []), (.getfield 25, (3, 0, 6, 4, 1045, 0), 0, []), (.aload_n 0, (1, 0, 0, 0, 0, 0), 0, []), (.getfield 15, (3, 0, 6, 1, 1039, 0), 0, []), (.iastore, (1, 0, 0, 0, 0, 0), 0, []), (.return_, (1, 3, 0, 0, 0, 0), 0, [])]]
/-- EvenlyPoured$Tape.endOf(I)I -/
noncomputable def bk_47 : List (List am_P) := [[(.iload_n 1, (1, 0, 1, 0, 0, 0), 0, []), (.iconst 1, (1, 0, 0, 0, 0, 0), 1, []), (.iadd, (1, 0, 0, 0, 0, 0), 0, []), (.istore_n 2, (1, 0, 2, 0, 0, 0), 0, []), (.aload_n 0, (1, 0, 0, 0, 0, 0), 0, []), (.getfield 9, (3, 0, 6, 0, 1037, 1), 0, []), (.iload_n 1, (1, 0, 1, 0, 0, 0), 0, []), (.iaload, (1, 0, 0, 0, 0, 0), 0, []), (.invokestatic 36, (3, 2, 52, 1, 1, 0), 2176, [])],
  [(.ifCond .eq 29, (3, 1, 6, 2, 0, 0), 0, [])],
  [(.iload_n 2, (1, 0, 2, 0, 0, 0), 0, []), (.aload_n 0, (1, 0, 0, 0, 0, 0), 0, []), (.getfield 15, (3, 0, 6, 1, 1039, 0), 0, []), (.if_icmp .ge 59, (3, 1, 12, 3, 0, 0), 0, [])],
  [(.aload_n 0, (1, 0, 0, 0, 0, 0), 0, []), (.getfield 9, (3, 0, 6, 0, 1037, 1), 0, []), (.iload_n 2, (1, 0, 2, 0, 0, 0), 0, []), (.iaload, (1, 0, 0, 0, 0, 0), 0, []), (.invokestatic 36, (3, 2, 52, 4, 1, 0), 2176, [])],
  [(.ifCond .eq 47, (3, 1, 12, 5, 0, 0), 0, [])],
  [(.iinc 2 1, (3, 0, 2, 0, 0, 0), 1, []), (.goto (-23), (3, 1, 2, 0, 0, 0), 0, [])],
  [(.aload_n 0, (1, 0, 0, 0, 0, 0), 0, []), (.getfield 9, (3, 0, 6, 0, 1037, 1), 0, []), (.iload_n 1, (1, 0, 1, 0, 0, 0), 0, []), (.iaload, (1, 0, 0, 0, 0, 0), 0, []), (.invokestatic 40, (3, 2, 53, 7, 1, 0), 2179, [])],
  [(.ifCond .eq 29, (3, 1, 12, 8, 0, 0), 0, [])],
  [(.iload_n 2, (1, 0, 2, 0, 0, 0), 0, []), (.aload_n 0, (1, 0, 0, 0, 0, 0), 0, []), (.getfield 15, (3, 0, 6, 1, 1039, 0), 0, []), (.if_icmp .ge 21, (3, 1, 12, 9, 0, 0), 0, [])],
  [(.aload_n 0, (1, 0, 0, 0, 0, 0), 0, []), (.getfield 9, (3, 0, 6, 0, 1037, 1), 0, []), (.iload_n 2, (1, 0, 2, 0, 0, 0), 0, []), (.iaload, (1, 0, 0, 0, 0, 0), 0, []), (.invokestatic 40, (3, 2, 53, 10, 1, 0), 2179, [])],
  [(.ifCond .eq 9, (3, 1, 12, 11, 0, 0), 0, [])],
  [(.iinc 2 1, (3, 0, 2, 0, 0, 0), 1, []), (.goto (-23), (3, 1, 8, 0, 0, 0), 0, [])],
  [(.iload_n 2, (1, 0, 2, 0, 0, 0), 0, []), (.ireturn, (1, 3, 0, 0, 0, 0), 0, [])]]
/-- EvenlyPoured$Tape.tokenOf(II)I -/
noncomputable def bk_48 : List (List am_P) := [[(.aload_n 0, (1, 0, 0, 0, 0, 0), 0, []), (.getfield 9, (3, 0, 6, 0, 1037, 1), 0, []), (.iload_n 1, (1, 0, 1, 0, 0, 0), 0, []), (.iaload, (1, 0, 0, 0, 0, 0), 0, []), (.istore_n 3, (1, 0, 3, 0, 0, 0), 0, []), (.iload_n 3, (1, 0, 3, 0, 0, 0), 0, []), (.invokestatic 36, (3, 2, 52, 1, 1, 0), 2176, [])],
  [(.ifCond .eq 10, (3, 1, 4, 2, 0, 0), 0, [])],
  [(.aload_n 0, (1, 0, 0, 0, 0, 0), 0, []), (.iload_n 1, (1, 0, 1, 0, 0, 0), 0, []), (.iload_n 2, (1, 0, 2, 0, 0, 0), 0, []), (.invokevirtual 43, (3, 2, 50, 3, 3, 7), 2186, [])],
  [(.ireturn, (1, 3, 0, 0, 0, 0), 0, [])],
  [(.iload_n 3, (1, 0, 3, 0, 0, 0), 0, []), (.invokestatic 40, (3, 2, 53, 5, 1, 0), 2179, [])],
  [(.ifCond .eq 22, (3, 1, 10, 6, 0, 0), 0, [])],
  [(.iload_n 2, (1, 0, 2, 0, 0, 0), 0, []), (.iload_n 1, (1, 0, 1, 0, 0, 0), 0, []), (.isub, (1, 0, 0, 0, 0, 0), 0, []), (.iconst 4, (1, 0, 0, 0, 0, 0), 4, []), (.if_icmp .le 8, (3, 1, 8, 7, 0, 0), 0, [])],
  [(.bipush (-2), (2, 0, 0, 0, 0, 0), (-2), []), (.goto 9, (3, 1, 9, 0, 0, 0), 0, [])],
  [(.aload_n 0, (1, 0, 0, 0, 0, 0), 0, []), (.iload_n 1, (1, 0, 1, 0, 0, 0), 0, []), (.iload_n 2, (1, 0, 2, 0, 0, 0), 0, []), (.invokevirtual 46, (3, 2, 49, 9, 3, 7), 3003, [])],
  [(.ireturn, (1, 3, 0, 0, 0, 0), 0, [])],
  [(.iload_n 3, (1, 0, 3, 0, 0, 0), 0, []), (.invokestatic 49, (3, 2, 54, 11, 1, 0), 3007, [])],
  [(.ifCond .eq 8, (3, 1, 13, 12, 0, 0), 0, [])],
  [(.iload_n 3, (1, 0, 3, 0, 0, 0), 0, []), (.ineg, (1, 0, 0, 0, 0, 0), 0, []), (.goto 5, (3, 1, 14, 0, 0, 0), 0, [])],
  [(.bipush (-2), (2, 0, 0, 0, 0, 0), (-2), []), (.nop, (0, 1, 14, 0, 0, 0), 0, [])],
  [(.ireturn, (1, 3, 0, 0, 0, 0), 0, [])]]
/-- EvenlyPoured$Tape.numberOf(II)I -/
noncomputable def bk_49 : List (List am_P) := [[(.iconst 0, (1, 0, 0, 0, 0, 0), 0, []), (.istore_n 3, (1, 0, 3, 0, 0, 0), 0, []), (.iload_n 1, (1, 0, 1, 0, 0, 0), 0, []), (.istore 4, (2, 0, 4, 0, 0, 0), 0, []), (.nop, (0, 1, 1, 0, 0, 0), 0, [])],
  [(.iload 4, (2, 0, 4, 0, 0, 0), 0, []), (.iload_n 2, (1, 0, 2, 0, 0, 0), 0, []), (.if_icmp .ge 25, (3, 1, 3, 2, 0, 0), 0, [])],
  [(.iload_n 3, (1, 0, 3, 0, 0, 0), 0, []), (.bipush 10, (2, 0, 0, 0, 0, 0), 10, []), (.imul, (1, 0, 0, 0, 0, 0), 0, []), (.aload_n 0, (1, 0, 0, 0, 0, 0), 0, []), (.getfield 9, (3, 0, 6, 0, 1037, 1), 0, []), (.iload 4, (2, 0, 4, 0, 0, 0), 0, []), (.iaload, (1, 0, 0, 0, 0, 0), 0, []), (.iadd, (1, 0, 0, 0, 0, 0), 0, []), (.bipush 48, (2, 0, 0, 0, 0, 0), 48, []), (.isub, (1, 0, 0, 0, 0, 0), 0, []), (.istore_n 3, (1, 0, 3, 0, 0, 0), 0, []), (.iinc 4 1, (3, 0, 4, 0, 0, 0), 1, []), (.goto (-25), (3, 1, 1, 0, 0, 0), 0, [])],
  [(.iload_n 3, (1, 0, 3, 0, 0, 0), 0, []), (.ireturn, (1, 3, 0, 0, 0, 0), 0, [])]]
/-- EvenlyPoured$Tape.wordOf(II)I -/
noncomputable def bk_50 : List (List am_P) := [[(.iconst 0, (1, 0, 0, 0, 0, 0), 0, []), (.istore_n 3, (1, 0, 3, 0, 0, 0), 0, []), (.iconst 0, (1, 0, 0, 0, 0, 0), 0, []), (.istore 4, (2, 0, 4, 0, 0, 0), 0, []), (.iconst 0, (1, 0, 0, 0, 0, 0), 0, []), (.istore 5, (2, 0, 5, 0, 0, 0), 0, []), (.nop, (0, 1, 1, 0, 0, 0), 0, [])],
  [(.iload 5, (2, 0, 5, 0, 0, 0), 0, []), (.ldc 52, (2, 0, 0, 0, 2190, 1), 0, []), (.invokevirtual 54, (3, 2, 208, 2, 1, 27), 2191, [])],
  [(.if_icmp .ge 70, (3, 1, 14, 3, 0, 0), 0, [])],
  [(.ldc 52, (2, 0, 0, 0, 2190, 1), 0, []), (.iload 5, (2, 0, 5, 0, 0, 0), 0, []), (.invokevirtual 60, (3, 2, 209, 4, 2, 27), 2201, [])],
  [(.bipush 32, (2, 0, 0, 0, 0, 0), 32, []), (.if_icmp .ne 52, (3, 1, 13, 5, 0, 0), 0, [])],
  [(.iload 5, (2, 0, 5, 0, 0, 0), 0, []), (.iload 4, (2, 0, 4, 0, 0, 0), 0, []), (.isub, (1, 0, 0, 0, 0, 0), 0, []), (.iload_n 2, (1, 0, 2, 0, 0, 0), 0, []), (.iload_n 1, (1, 0, 1, 0, 0, 0), 0, []), (.isub, (1, 0, 0, 0, 0, 0), 0, []), (.if_icmp .ne 32, (3, 1, 12, 6, 0, 0), 0, [])],
  [(.aload_n 0, (1, 0, 0, 0, 0, 0), 0, []), (.iload_n 1, (1, 0, 1, 0, 0, 0), 0, []), (.iload 4, (2, 0, 4, 0, 0, 0), 0, []), (.iload 5, (2, 0, 5, 0, 0, 0), 0, []), (.invokevirtual 64, (3, 2, 51, 7, 4, 7), 2239, [])],
  [(.ifCond .eq 20, (3, 1, 12, 8, 0, 0), 0, [])],
  [(.iload_n 3, (1, 0, 3, 0, 0, 0), 0, []), (.bipush 6, (2, 0, 0, 0, 0, 0), 6, []), (.if_icmp .ge 11, (3, 1, 10, 9, 0, 0), 0, [])],
  [(.sipush 10000, (3, 0, 0, 0, 0, 0), 10000, []), (.iload_n 3, (1, 0, 3, 0, 0, 0), 0, []), (.iadd, (1, 0, 0, 0, 0, 0), 0, []), (.goto 5, (3, 1, 11, 0, 0, 0), 0, [])],
  [(.iload_n 3, (1, 0, 3, 0, 0, 0), 0, []), (.ineg, (1, 0, 0, 0, 0, 0), 0, []), (.nop, (0, 1, 11, 0, 0, 0), 0, [])],
  [(.ireturn, (1, 3, 0, 0, 0, 0), 0, [])],
  [(.iinc 3 1, (3, 0, 3, 0, 0, 0), 1, []), (.iload 5, (2, 0, 5, 0, 0, 0), 0, []), (.iconst 1, (1, 0, 0, 0, 0, 0), 1, []), (.iadd, (1, 0, 0, 0, 0, 0), 0, []), (.istore 4, (2, 0, 4, 0, 0, 0), 0, []), (.nop, (0, 1, 13, 0, 0, 0), 0, [])],
  [(.iinc 5 1, (3, 0, 5, 0, 0, 0), 1, []), (.goto (-74), (3, 1, 1, 0, 0, 0), 0, [])],
  [(.bipush (-2), (2, 0, 0, 0, 0, 0), (-2), []), (.ireturn, (1, 3, 0, 0, 0, 0), 0, [])]]
/-- EvenlyPoured$Tape.isSpelled(III)Z -/
noncomputable def bk_51 : List (List am_P) := [[(.iload_n 2, (1, 0, 2, 0, 0, 0), 0, []), (.istore 4, (2, 0, 4, 0, 0, 0), 0, []), (.nop, (0, 1, 1, 0, 0, 0), 0, [])],
  [(.iload 4, (2, 0, 4, 0, 0, 0), 0, []), (.iload_n 3, (1, 0, 3, 0, 0, 0), 0, []), (.if_icmp .ge 32, (3, 1, 6, 2, 0, 0), 0, [])],
  [(.ldc 52, (2, 0, 0, 0, 2190, 1), 0, []), (.iload 4, (2, 0, 4, 0, 0, 0), 0, []), (.invokevirtual 60, (3, 2, 209, 3, 2, 27), 2201, [])],
  [(.aload_n 0, (1, 0, 0, 0, 0, 0), 0, []), (.getfield 9, (3, 0, 6, 0, 1037, 1), 0, []), (.iload_n 1, (1, 0, 1, 0, 0, 0), 0, []), (.iload 4, (2, 0, 4, 0, 0, 0), 0, []), (.iadd, (1, 0, 0, 0, 0, 0), 0, []), (.iload_n 2, (1, 0, 2, 0, 0, 0), 0, []), (.isub, (1, 0, 0, 0, 0, 0), 0, []), (.iaload, (1, 0, 0, 0, 0, 0), 0, []), (.if_icmp .eq 5, (3, 1, 5, 4, 0, 0), 0, [])],
  [(.iconst 0, (1, 0, 0, 0, 0, 0), 0, []), (.ireturn, (1, 3, 0, 0, 0, 1), 0, [])],
  [(.iinc 4 1, (3, 0, 4, 0, 0, 0), 1, []), (.goto (-32), (3, 1, 1, 0, 0, 0), 0, [])],
  [(.iconst 1, (1, 0, 0, 0, 0, 0), 1, []), (.ireturn, (1, 3, 0, 0, 0, 1), 0, [])]]
/-- EvenlyPoured$Tape.isLetter(I)Z -/
noncomputable def bk_52 : List (List am_P) := [[(.iload_n 0, (1, 0, 0, 0, 0, 0), 0, []), (.bipush 97, (2, 0, 0, 0, 0, 0), 97, []), (.if_icmp .lt 13, (3, 1, 3, 1, 0, 0), 0, [])],
  [(.iload_n 0, (1, 0, 0, 0, 0, 0), 0, []), (.bipush 122, (2, 0, 0, 0, 0, 0), 122, []), (.if_icmp .gt 7, (3, 1, 3, 2, 0, 0), 0, [])],
  [(.iconst 1, (1, 0, 0, 0, 0, 0), 1, []), (.goto 4, (3, 1, 4, 0, 0, 0), 0, [])],
  [(.iconst 0, (1, 0, 0, 0, 0, 0), 0, []), (.nop, (0, 1, 4, 0, 0, 0), 0, [])],
  [(.ireturn, (1, 3, 0, 0, 0, 1), 0, [])]]
/-- EvenlyPoured$Tape.isDigit(I)Z -/
noncomputable def bk_53 : List (List am_P) := [[(.iload_n 0, (1, 0, 0, 0, 0, 0), 0, []), (.bipush 48, (2, 0, 0, 0, 0, 0), 48, []), (.if_icmp .lt 13, (3, 1, 3, 1, 0, 0), 0, [])],
  [(.iload_n 0, (1, 0, 0, 0, 0, 0), 0, []), (.bipush 57, (2, 0, 0, 0, 0, 0), 57, []), (.if_icmp .gt 7, (3, 1, 3, 2, 0, 0), 0, [])],
  [(.iconst 1, (1, 0, 0, 0, 0, 0), 1, []), (.goto 4, (3, 1, 4, 0, 0, 0), 0, [])],
  [(.iconst 0, (1, 0, 0, 0, 0, 0), 0, []), (.nop, (0, 1, 4, 0, 0, 0), 0, [])],
  [(.ireturn, (1, 3, 0, 0, 0, 1), 0, [])]]
/-- EvenlyPoured$Tape.isSign(I)Z -/
noncomputable def bk_54 : List (List am_P) := [[(.iload_n 0, (1, 0, 0, 0, 0, 0), 0, []), (.tableswitch 105 40 61 #[103, 103, 103, 103, 105, 103, 105, 105, 105, 105, 105, 105, 105, 105, 105, 105, 105, 105, 105, 103, 103, 103], (103, 1, 0, 2, 0, 0), 0, [(40, 1), (41, 1), (42, 1), (43, 1), (44, 2), (45, 1), (46, 2), (47, 2), (48, 2), (49, 2), (50, 2), (51, 2), (52, 2), (53, 2), (54, 2), (55, 2), (56, 2), (57, 2), (58, 2), (59, 1), (60, 1), (61, 1)])],
  [(.iconst 1, (1, 0, 0, 0, 0, 0), 1, []), (.ireturn, (1, 3, 0, 0, 0, 1), 0, [])],
  [(.iconst 0, (1, 0, 0, 0, 0, 0), 0, []), (.ireturn, (1, 3, 0, 0, 0, 1), 0, [])]]
/-- EvenlyPoured$Teller.<init>(LEvenlyPoured$Text;)V -/
noncomputable def bk_55 : List (List am_P) := [[(.aload_n 0, (1, 0, 0, 0, 0, 0), 0, []), (.invokespecial 3, (3, 0, 0, 0, 1174, 0), 0, []), (.aload_n 0, (1, 0, 0, 0, 0, 0), 0, []), (.bipush 6, (2, 0, 0, 0, 0, 0), 6, []), (.newarray .int, (2, 0, 20, 0, 0, 0), 0, []), (.putfield 9, (3, 0, 7, 0, 1175, 1), 0, []), (.aload_n 0, (1, 0, 0, 0, 0, 0), 0, []), (.bipush 40, (2, 0, 0, 0, 0, 0), 40, []), (.newarray .int, (2, 0, 20, 0, 0, 0), 0, []), (.putfield 15, (3, 0, 7, 1, 1176, 1), 0, []), (.aload_n 0, (1, 0, 0, 0, 0, 0), 0, []), (.aload_n 1, (1, 0, 1, 0, 0, 0), 0, []), (.putfield 18, (3, 0, 7, 2, 1177, 1), 0, []), (.return_, (1, 3, 0, 0, 0, 0), 0, [])]]
/-- EvenlyPoured$Teller.begin(LEvenlyPoured$Text;II)V -/
noncomputable def bk_56 : List (List am_P) := [[(.aload_n 0, (1, 0, 0, 0, 0, 0), 0, []), (.aload_n 1, (1, 0, 1, 0, 0, 0), 0, []), (.putfield 18, (3, 0, 7, 2, 1177, 1), 0, []), (.aload_n 0, (1, 0, 0, 0, 0, 0), 0, []), (.getfield 9, (3, 0, 7, 0, 1175, 1), 0, []), (.iconst 2, (1, 0, 0, 0, 0, 0), 2, []), (.iload_n 2, (1, 0, 2, 0, 0, 0), 0, []), (.iastore, (1, 0, 0, 0, 0, 0), 0, []), (.aload_n 0, (1, 0, 0, 0, 0, 0), 0, []), (.getfield 9, (3, 0, 7, 0, 1175, 1), 0, []), (.iconst 1, (1, 0, 0, 0, 0, 0), 1, []), (.iload_n 3, (1, 0, 3, 0, 0, 0), 0, []), (.iastore, (1, 0, 0, 0, 0, 0), 0, []), (.return_, (1, 3, 0, 0, 0, 0), 0, [])]]
/-- EvenlyPoured$Teller.look(IIII)V -/
noncomputable def bk_57 : List (List am_P) := [[(.aload_n 0, (1, 0, 0, 0, 0, 0), 0, []), (.getfield 9, (3, 0, 7, 0, 1175, 1), 0, []), (.iconst 0, (1, 0, 0, 0, 0, 0), 0, []), (.iload_n 1, (1, 0, 1, 0, 0, 0), 0, []), (.iastore, (1, 0, 0, 0, 0, 0), 0, []), (.aload_n 0, (1, 0, 0, 0, 0, 0), 0, []), (.getfield 9, (3, 0, 7, 0, 1175, 1), 0, []), (.iconst 3, (1, 0, 0, 0, 0, 0), 3, []), (.iload_n 2, (1, 0, 2, 0, 0, 0), 0, []), (.iastore, (1, 0, 0, 0, 0, 0), 0, []), (.aload_n 0, (1, 0, 0, 0, 0, 0), 0, []), (.getfield 9, (3, 0, 7, 0, 1175, 1), 0, []), (.iconst 4, (1, 0, 0, 0, 0, 0), 4, []), (.iload_n 3, (1, 0, 3, 0, 0, 0), 0, []), (.iastore, (1, 0, 0, 0, 0, 0), 0, []), (.aload_n 0, (1, 0, 0, 0, 0, 0), 0, []), (.getfield 9, (3, 0, 7, 0, 1175, 1), 0, []), (.iconst 5, (1, 0, 0, 0, 0, 0), 5, []), (.iload 4, (2, 0, 4, 0, 0, 0), 0, []), (.iastore, (1, 0, 0, 0, 0, 0), 0, []), (.return_, (1, 3, 0, 0, 0, 0), 0, [])]]
/-- EvenlyPoured$Teller.strong()I -/
noncomputable def bk_58 : List (List am_P) := [[(.aload_n 0, (1, 0, 0, 0, 0, 0), 0, []), (.aload_n 0, (1, 0, 0, 0, 0, 0), 0, []), (.getfield 18, (3, 0, 7, 2, 1177, 1), 0, []), (.getfield 22, (3, 0, 8, 0, 1124, 1), 0, []), (.nop, (0, 1, 1, 0, 0, 0), 0, [])],
  [(.invokevirtual 27, (3, 2, 62, 2, 2, 8), 3105, [])],
  [(.sipush 999, (3, 0, 0, 0, 0, 0), 999, []), (.invokestatic 31, (3, 2, 61, 3, 2, 0), 3116, [])],
  [(.ireturn, (1, 3, 0, 0, 0, 0), 0, [])]]
/-- EvenlyPoured$Teller.drips(I)I -/
noncomputable def bk_59 : List (List am_P) := [[(.aload_n 0, (1, 0, 0, 0, 0, 0), 0, []), (.aload_n 0, (1, 0, 0, 0, 0, 0), 0, []), (.getfield 18, (3, 0, 7, 2, 1177, 1), 0, []), (.getfield 35, (3, 0, 8, 1, 1126, 1), 0, []), (.nop, (0, 1, 1, 0, 0, 0), 0, [])],
  [(.invokevirtual 27, (3, 2, 62, 2, 2, 8), 3105, [])],
  [(.sipush 999, (3, 0, 0, 0, 0, 0), 999, []), (.invokestatic 31, (3, 2, 61, 3, 2, 0), 3116, [])],
  [(.iload_n 1, (1, 0, 1, 0, 0, 0), 0, []), (.invokestatic 38, (3, 0, 0, 0, 3119, 2), 0, []), (.ireturn, (1, 3, 0, 0, 0, 0), 0, [])]]
/-- EvenlyPoured$Teller.liked()I -/
noncomputable def bk_60 : List (List am_P) := [[(.aload_n 0, (1, 0, 0, 0, 0, 0), 0, []), (.aload_n 0, (1, 0, 0, 0, 0, 0), 0, []), (.getfield 18, (3, 0, 7, 2, 1177, 1), 0, []), (.getfield 43, (3, 0, 8, 2, 1128, 1), 0, []), (.nop, (0, 1, 1, 0, 0, 0), 0, [])],
  [(.invokevirtual 27, (3, 2, 62, 2, 2, 8), 3105, [])],
  [(.sipush 9999, (3, 0, 0, 0, 0, 0), 9999, []), (.invokestatic 31, (3, 2, 61, 3, 2, 0), 3116, [])],
  [(.ireturn, (1, 3, 0, 0, 0, 0), 0, [])]]
/-- EvenlyPoured$Teller.within(II)I -/
noncomputable def bk_61 : List (List am_P) := [[(.iconst 0, (1, 0, 0, 0, 0, 0), 0, []), (.iload_n 0, (1, 0, 0, 0, 0, 0), 0, []), (.iload_n 1, (1, 0, 1, 0, 0, 0), 0, []), (.invokestatic 38, (3, 0, 0, 0, 3119, 2), 0, []), (.invokestatic 46, (3, 0, 0, 0, 3120, 1), 0, []), (.ireturn, (1, 3, 0, 0, 0, 0), 0, [])]]
/-- EvenlyPoured$Teller.worth([I)I -/
noncomputable def bk_62 : List (List am_P) := [[(.iconst 0, (1, 0, 0, 0, 0, 0), 0, []), (.istore_n 2, (1, 0, 2, 0, 0, 0), 0, []), (.iconst 0, (1, 0, 0, 0, 0, 0), 0, []), (.istore_n 3, (1, 0, 3, 0, 0, 0), 0, []), (.nop, (0, 1, 1, 0, 0, 0), 0, [])],
  [(.iload_n 3, (1, 0, 3, 0, 0, 0), 0, []), (.aload_n 1, (1, 0, 1, 0, 0, 0), 0, []), (.arraylength, (1, 0, 0, 0, 0, 0), 0, []), (.if_icmp .ge 164, (3, 1, 25, 2, 0, 0), 0, [])],
  [(.aload_n 1, (1, 0, 1, 0, 0, 0), 0, []), (.iload_n 3, (1, 0, 3, 0, 0, 0), 0, []), (.iaload, (1, 0, 0, 0, 0, 0), 0, []), (.istore 4, (2, 0, 4, 0, 0, 0), 0, []), (.iload 4, (2, 0, 4, 0, 0, 0), 0, []), (.ifCond .lt 46, (3, 1, 9, 3, 0, 0), 0, [])],
  [(.iload_n 2, (1, 0, 2, 0, 0, 0), 0, []), (.bipush 40, (2, 0, 0, 0, 0, 0), 40, []), (.if_icmp .lt 5, (3, 1, 5, 4, 0, 0), 0, [])],
  [(.iconst 0, (1, 0, 0, 0, 0, 0), 0, []), (.ireturn, (1, 3, 0, 0, 0, 0), 0, [])],
  [(.aload_n 0, (1, 0, 0, 0, 0, 0), 0, []), (.getfield 15, (3, 0, 7, 1, 1176, 1), 0, []), (.iload_n 2, (1, 0, 2, 0, 0, 0), 0, []), (.iload 4, (2, 0, 4, 0, 0, 0), 0, []), (.sipush 10000, (3, 0, 0, 0, 0, 0), 10000, []), (.if_icmp .ge 8, (3, 1, 7, 6, 0, 0), 0, [])],
  [(.iload 4, (2, 0, 4, 0, 0, 0), 0, []), (.goto 13, (3, 1, 8, 0, 0, 0), 0, [])],
  [(.aload_n 0, (1, 0, 0, 0, 0, 0), 0, []), (.iload 4, (2, 0, 4, 0, 0, 0), 0, []), (.sipush 10000, (3, 0, 0, 0, 0, 0), 10000, []), (.isub, (1, 0, 0, 0, 0, 0), 0, []), (.invokevirtual 49, (3, 2, 63, 8, 2, 8), 3109, [])],
  [(.iastore, (1, 0, 0, 0, 0, 0), 0, []), (.iinc 2 1, (3, 0, 2, 0, 0, 0), 1, []), (.goto 105, (3, 1, 24, 0, 0, 0), 0, [])],
  [(.iload 4, (2, 0, 4, 0, 0, 0), 0, []), (.bipush (-11), (2, 0, 0, 0, 0, 0), (-11), []), (.if_icmp .eq 10, (3, 1, 11, 10, 0, 0), 0, [])],
  [(.iload 4, (2, 0, 4, 0, 0, 0), 0, []), (.bipush (-3), (2, 0, 0, 0, 0, 0), (-3), []), (.if_icmp .ne 54, (3, 1, 19, 11, 0, 0), 0, [])],
  [(.iload_n 2, (1, 0, 2, 0, 0, 0), 0, []), (.iconst 1, (1, 0, 0, 0, 0, 0), 1, []), (.if_icmp .ge 5, (3, 1, 13, 12, 0, 0), 0, [])],
  [(.iconst 0, (1, 0, 0, 0, 0, 0), 0, []), (.ireturn, (1, 3, 0, 0, 0, 0), 0, [])],
  [(.aload_n 0, (1, 0, 0, 0, 0, 0), 0, []), (.getfield 15, (3, 0, 7, 1, 1176, 1), 0, []), (.iload_n 2, (1, 0, 2, 0, 0, 0), 0, []), (.iconst 1, (1, 0, 0, 0, 0, 0), 1, []), (.isub, (1, 0, 0, 0, 0, 0), 0, []), (.iaload, (1, 0, 0, 0, 0, 0), 0, []), (.istore 5, (2, 0, 5, 0, 0, 0), 0, []), (.aload_n 0, (1, 0, 0, 0, 0, 0), 0, []), (.getfield 15, (3, 0, 7, 1, 1176, 1), 0, []), (.iload_n 2, (1, 0, 2, 0, 0, 0), 0, []), (.iconst 1, (1, 0, 0, 0, 0, 0), 1, []), (.isub, (1, 0, 0, 0, 0, 0), 0, []), (.iload 4, (2, 0, 4, 0, 0, 0), 0, []), (.bipush (-3), (2, 0, 0, 0, 0, 0), (-3), []), (.if_icmp .ne 9, (3, 1, 15, 14, 0, 0), 0, [])],
  [(.iload 5, (2, 0, 5, 0, 0, 0), 0, []), (.ineg, (1, 0, 0, 0, 0, 0), 0, []), (.goto 13, (3, 1, 18, 0, 0, 0), 0, [])],
  [(.iload 5, (2, 0, 5, 0, 0, 0), 0, []), (.ifCond .ne 7, (3, 1, 17, 16, 0, 0), 0, [])],
  [(.iconst 1, (1, 0, 0, 0, 0, 0), 1, []), (.goto 4, (3, 1, 18, 0, 0, 0), 0, [])],
  [(.iconst 0, (1, 0, 0, 0, 0, 0), 0, []), (.nop, (0, 1, 18, 0, 0, 0), 0, [])],
  [(.iastore, (1, 0, 0, 0, 0, 0), 0, []), (.goto 40, (3, 1, 24, 0, 0, 0), 0, [])],
  [(.iload_n 2, (1, 0, 2, 0, 0, 0), 0, []), (.iconst 2, (1, 0, 0, 0, 0, 0), 2, []), (.if_icmp .ge 5, (3, 1, 21, 20, 0, 0), 0, [])],
  [(.iconst 0, (1, 0, 0, 0, 0, 0), 0, []), (.ireturn, (1, 3, 0, 0, 0, 0), 0, [])],
  [(.iinc 2 (-1), (3, 0, 2, 0, 0, 0), (-1), []), (.nop, (0, 1, 22, 0, 0, 0), 0, [])],
  [(.aload_n 0, (1, 0, 0, 0, 0, 0), 0, []), (.getfield 15, (3, 0, 7, 1, 1176, 1), 0, []), (.iload_n 2, (1, 0, 2, 0, 0, 0), 0, []), (.iconst 1, (1, 0, 0, 0, 0, 0), 1, []), (.isub, (1, 0, 0, 0, 0, 0), 0, []), (.iload 4, (2, 0, 4, 0, 0, 0), 0, []), (.aload_n 0, (1, 0, 0, 0, 0, 0), 0, []), (.getfield 15, (3, 0, 7, 1, 1176, 1), 0, []), (.iload_n 2, (1, 0, 2, 0, 0, 0), 0, []), (.iconst 1, (1, 0, 0, 0, 0, 0), 1, []), (.isub, (1, 0, 0, 0, 0, 0), 0, []), (.iaload, (1, 0, 0, 0, 0, 0), 0, []), (.aload_n 0, (1, 0, 0, 0, 0, 0), 0, []), (.getfield 15, (3, 0, 7, 1, 1176, 1), 0, []), (.iload_n 2, (1, 0, 2, 0, 0, 0), 0, []), (.iaload, (1, 0, 0, 0, 0, 0), 0, []), (.invokestatic 53, (3, 2, 64, 23, 3, 0), 3113, [])],
  [(.iastore, (1, 0, 0, 0, 0, 0), 0, []), (.nop, (0, 1, 24, 0, 0, 0), 0, [])],
  [(.iinc 3 1, (3, 0, 3, 0, 0, 0), 1, []), (.goto (-164), (3, 1, 1, 0, 0, 0), 0, [])],
  [(.iload_n 2, (1, 0, 2, 0, 0, 0), 0, []), (.iconst 1, (1, 0, 0, 0, 0, 0), 1, []), (.if_icmp .ne 12, (3, 1, 27, 26, 0, 0), 0, [])],
  [(.aload_n 0, (1, 0, 0, 0, 0, 0), 0, []), (.getfield 15, (3, 0, 7, 1, 1176, 1), 0, []), (.iconst 0, (1, 0, 0, 0, 0, 0), 0, []), (.iaload, (1, 0, 0, 0, 0, 0), 0, []), (.goto 4, (3, 1, 28, 0, 0, 0), 0, [])],
  [(.iconst 0, (1, 0, 0, 0, 0, 0), 0, []), (.nop, (0, 1, 28, 0, 0, 0), 0, [])],
  [(.ireturn, (1, 3, 0, 0, 0, 0), 0, [])]]
/-- EvenlyPoured$Teller.named(I)I -/
noncomputable def bk_63 : List (List am_P) := [[(.iload_n 1, (1, 0, 1, 0, 0, 0), 0, []), (.bipush 6, (2, 0, 0, 0, 0, 0), 6, []), (.if_icmp .ge 12, (3, 1, 2, 1, 0, 0), 0, [])],
  [(.aload_n 0, (1, 0, 0, 0, 0, 0), 0, []), (.getfield 9, (3, 0, 7, 0, 1175, 1), 0, []), (.iload_n 1, (1, 0, 1, 0, 0, 0), 0, []), (.iaload, (1, 0, 0, 0, 0, 0), 0, []), (.goto 4, (3, 1, 3, 0, 0, 0), 0, [])],
  [(.iconst 0, (1, 0, 0, 0, 0, 0), 0, []), (.nop, (0, 1, 3, 0, 0, 0), 0, [])],
  [(.ireturn, (1, 3, 0, 0, 0, 0), 0, [])]]
/-- EvenlyPoured$Teller.joined(III)I -/
noncomputable def bk_64 : List (List am_P) := [[(.iload_n 0, (1, 0, 0, 0, 0, 0), 0, []), (.lookupswitch 117 #[(-61, 98), (-60, 87), (-45, 113), (-43, 109), (-10, 73), (-9, 59)], (59, 1, 0, 21, 0, 0), 0, [(-61, 15), (-60, 11), (-45, 20), (-43, 19), (-10, 6), (-9, 1)])],
  [(.iload_n 1, (1, 0, 1, 0, 0, 0), 0, []), (.ifCond .ne 7, (3, 1, 3, 2, 0, 0), 0, [])],
  [(.iload_n 2, (1, 0, 2, 0, 0, 0), 0, []), (.ifCond .eq 7, (3, 1, 4, 3, 0, 0), 0, [])],
  [(.iconst 1, (1, 0, 0, 0, 0, 0), 1, []), (.goto 4, (3, 1, 5, 0, 0, 0), 0, [])],
  [(.iconst 0, (1, 0, 0, 0, 0, 0), 0, []), (.nop, (0, 1, 5, 0, 0, 0), 0, [])],
  [(.ireturn, (1, 3, 0, 0, 0, 0), 0, [])],
  [(.iload_n 1, (1, 0, 1, 0, 0, 0), 0, []), (.ifCond .eq 11, (3, 1, 9, 7, 0, 0), 0, [])],
  [(.iload_n 2, (1, 0, 2, 0, 0, 0), 0, []), (.ifCond .eq 7, (3, 1, 9, 8, 0, 0), 0, [])],
  [(.iconst 1, (1, 0, 0, 0, 0, 0), 1, []), (.goto 4, (3, 1, 10, 0, 0, 0), 0, [])],
  [(.iconst 0, (1, 0, 0, 0, 0, 0), 0, []), (.nop, (0, 1, 10, 0, 0, 0), 0, [])],
  [(.ireturn, (1, 3, 0, 0, 0, 0), 0, [])],
  [(.iload_n 1, (1, 0, 1, 0, 0, 0), 0, []), (.iload_n 2, (1, 0, 2, 0, 0, 0), 0, []), (.if_icmp .ge 7, (3, 1, 13, 12, 0, 0), 0, [])],
  [(.iconst 1, (1, 0, 0, 0, 0, 0), 1, []), (.goto 4, (3, 1, 14, 0, 0, 0), 0, [])],
  [(.iconst 0, (1, 0, 0, 0, 0, 0), 0, []), (.nop, (0, 1, 14, 0, 0, 0), 0, [])],
  [(.ireturn, (1, 3, 0, 0, 0, 0), 0, [])],
  [(.iload_n 1, (1, 0, 1, 0, 0, 0), 0, []), (.iload_n 2, (1, 0, 2, 0, 0, 0), 0, []), (.if_icmp .ne 7, (3, 1, 17, 16, 0, 0), 0, [])],
  [(.iconst 1, (1, 0, 0, 0, 0, 0), 1, []), (.goto 4, (3, 1, 18, 0, 0, 0), 0, [])],
  [(.iconst 0, (1, 0, 0, 0, 0, 0), 0, []), (.nop, (0, 1, 18, 0, 0, 0), 0, [])],
  [(.ireturn, (1, 3, 0, 0, 0, 0), 0, [])],
  [(.iload_n 1, (1, 0, 1, 0, 0, 0), 0, []), (.iload_n 2, (1, 0, 2, 0, 0, 0), 0, []), (.iadd, (1, 0, 0, 0, 0, 0), 0, []), (.ireturn, (1, 3, 0, 0, 0, 0), 0, [])],
  [(.iload_n 1, (1, 0, 1, 0, 0, 0), 0, []), (.iload_n 2, (1, 0, 2, 0, 0, 0), 0, []), (.isub, (1, 0, 0, 0, 0, 0), 0, []), (.ireturn, (1, 3, 0, 0, 0, 0), 0, [])],
  [(.iload_n 1, (1, 0, 1, 0, 0, 0), 0, []), (.iload_n 2, (1, 0, 2, 0, 0, 0), 0, []), (.imul, (1, 0, 0, 0, 0, 0), 0, []), (.ireturn, (1, 3, 0, 0, 0, 0), 0, [])]]
/-- EvenlyPoured$Text.<init>([I[I[I)V -/
noncomputable def bk_65 : List (List am_P) := [[(.aload_n 0, (1, 0, 0, 0, 0, 0), 0, []), (.invokespecial 1, (3, 0, 0, 0, 1122, 0), 0, []), (.aload_n 0, (1, 0, 0, 0, 0, 0), 0, []), (.aload_n 1, (1, 0, 1, 0, 0, 0), 0, []), (.putfield 7, (3, 0, 8, 0, 1123, 1), 0, []), (.aload_n 0, (1, 0, 0, 0, 0, 0), 0, []), (.aload_n 2, (1, 0, 2, 0, 0, 0), 0, []), (.putfield 13, (3, 0, 8, 1, 1125, 1), 0, []), (.aload_n 0, (1, 0, 0, 0, 0, 0), 0, []), (.aload_n 3, (1, 0, 3, 0, 0, 0), 0, []), (.putfield 16, (3, 0, 8, 2, 1127, 1), 0, []), (.return_, (1, 3, 0, 0, 0, 0), 0, [])]]
/-- EvenlyPoured.<init>()V -/
noncomputable def bk_66 : List (List am_P) := [[(.aload_n 0, (1, 0, 0, 0, 0, 0), 0, []), (.invokespecial 1, (3, 0, 0, 0, 1024, 0), 0, []), (.aload_n 0, (1, 0, 0, 0, 0, 0), 0, []), (.iconst 2, (1, 0, 0, 0, 0, 0), 2, []), (.putfield 7, (3, 0, 9, 0, 2044, 0), 0, []), (.aload_n 0, (1, 0, 0, 0, 0, 0), 0, []), (.bipush 8, (2, 0, 0, 0, 0, 0), 8, []), (.putfield 13, (3, 0, 9, 1, 2045, 0), 0, []), (.aload_n 0, (1, 0, 0, 0, 0, 0), 0, []), (.bipush 24, (2, 0, 0, 0, 0, 0), 24, []), (.newarray .int, (2, 0, 20, 0, 0, 0), 0, []), (.putfield 16, (3, 0, 9, 2, 2046, 1), 0, []), (.aload_n 0, (1, 0, 0, 0, 0, 0), 0, []), (.bipush 8, (2, 0, 0, 0, 0, 0), 8, []), (.newarray .int, (2, 0, 20, 0, 0, 0), 0, []), (.putfield 20, (3, 0, 9, 3, 2047, 1), 0, []), (.aload_n 0, (1, 0, 0, 0, 0, 0), 0, []), (.bipush 6, (2, 0, 0, 0, 0, 0), 6, []), (.anewarray 23, (3, 0, 22, 0, 1027, 0), 0, []), (.putfield 25, (3, 0, 9, 4, 2048, 1), 0, []), (.aload_n 0, (1, 0, 0, 0, 0, 0), 0, []), (.iconst 0, (1, 0, 0, 0, 0, 0), 0, []), (.putfield 29, (3, 0, 9, 5, 2049, 0), 0, []), (.aload_n 0, (1, 0, 0, 0, 0, 0), 0, []), (.bipush 6, (2, 0, 0, 0, 0, 0), 6, []), (.anewarray 32, (3, 0, 23, 0, 1029, 0), 0, []), (.putfield 34, (3, 0, 9, 6, 2050, 1), 0, []), (.aload_n 0, (1, 0, 0, 0, 0, 0), 0, []), (.iconst 1, (1, 0, 0, 0, 0, 0), 1, []), (.putfield 38, (3, 0, 9, 7, 2051, 0), 0, []), (.aload_n 0, (1, 0, 0, 0, 0, 0), 0, []), (.iconst 0, (1, 0, 0, 0, 0, 0), 0, []), (.putfield 41, (3, 0, 9, 8, 2052, 0), 0, []), (.aload_n 0, (1, 0, 0, 0, 0, 0), 0, []), (.new 44, (3, 0, 6, 5, 1031, 0), 0, []), (.dup, (1, 0, 0, 0, 0, 0), 0, []), (.invokespecial 46, (3, 2, 45, 1, 1, 0), 1033, [])],
  [(.putfield 47, (3, 0, 9, 9, 2053, 1), 0, []), (.aload_n 0, (1, 0, 0, 0, 0, 0), 0, []), (.new 51, (3, 0, 3, 5, 1059, 0), 0, []), (.dup, (1, 0, 0, 0, 0, 0), 0, []), (.aload_n 0, (1, 0, 0, 0, 0, 0), 0, []), (.getfield 47, (3, 0, 9, 9, 2053, 1), 0, []), (.invokespecial 53, (3, 2, 13, 2, 2, 0), 1061, [])],
  [(.putfield 56, (3, 0, 9, 10, 2054, 1), 0, []), (.aload_n 0, (1, 0, 0, 0, 0, 0), 0, []), (.iconst 4, (1, 0, 0, 0, 0, 0), 4, []), (.anewarray 60, (3, 0, 24, 0, 1081, 0), 0, []), (.putfield 62, (3, 0, 9, 11, 2055, 1), 0, []), (.aload_n 0, (1, 0, 0, 0, 0, 0), 0, []), (.new 66, (3, 0, 0, 8, 1083, 0), 0, []), (.dup, (1, 0, 0, 0, 0, 0), 0, []), (.invokespecial 68, (3, 2, 0, 3, 1, 0), 1085, [])],
  [(.putfield 69, (3, 0, 9, 12, 2056, 1), 0, []), (.aload_n 0, (1, 0, 0, 0, 0, 0), 0, []), (.bipush 24, (2, 0, 0, 0, 0, 0), 24, []), (.newarray .int, (2, 0, 20, 0, 0, 0), 0, []), (.putfield 73, (3, 0, 9, 15, 2059, 1), 0, []), (.aload_n 0, (1, 0, 0, 0, 0, 0), 0, []), (.iconst 4, (1, 0, 0, 0, 0, 0), 4, []), (.newarray .int, (2, 0, 20, 0, 0, 0), 0, []), (.putfield 76, (3, 0, 9, 16, 2060, 1), 0, []), (.aload_n 0, (1, 0, 0, 0, 0, 0), 0, []), (.bipush 8, (2, 0, 0, 0, 0, 0), 8, []), (.newarray .boolean, (2, 0, 21, 0, 0, 0), 0, []), (.putfield 79, (3, 0, 9, 17, 2061, 1), 0, []), (.iconst 3, (1, 0, 0, 0, 0, 0), 3, []), (.newarray .int, (2, 0, 20, 0, 0, 0), 0, []), (.dup, (1, 0, 0, 0, 0, 0), 0, []), (.iconst 0, (1, 0, 0, 0, 0, 0), 0, []), (.sipush 10000, (3, 0, 0, 0, 0, 0), 10000, []), (.iastore, (1, 0, 0, 0, 0, 0), 0, []), (.dup, (1, 0, 0, 0, 0, 0), 0, []), (.iconst 1, (1, 0, 0, 0, 0, 0), 1, []), (.iconst 1, (1, 0, 0, 0, 0, 0), 1, []), (.iastore, (1, 0, 0, 0, 0, 0), 0, []), (.dup, (1, 0, 0, 0, 0, 0), 0, []), (.iconst 2, (1, 0, 0, 0, 0, 0), 2, []), (.bipush (-43), (2, 0, 0, 0, 0, 0), (-43), []), (.iastore, (1, 0, 0, 0, 0, 0), 0, []), (.astore_n 1, (1, 0, 1, 0, 0, 0), 0, []), (.iconst 1, (1, 0, 0, 0, 0, 0), 1, []), (.newarray .int, (2, 0, 20, 0, 0, 0), 0, []), (.dup, (1, 0, 0, 0, 0, 0), 0, []), (.iconst 0, (1, 0, 0, 0, 0, 0), 0, []), (.iconst 0, (1, 0, 0, 0, 0, 0), 0, []), (.iastore, (1, 0, 0, 0, 0, 0), 0, []), (.astore_n 2, (1, 0, 2, 0, 0, 0), 0, []), (.iconst 3, (1, 0, 0, 0, 0, 0), 3, []), (.newarray .int, (2, 0, 20, 0, 0, 0), 0, []), (.dup, (1, 0, 0, 0, 0, 0), 0, []), (.iconst 0, (1, 0, 0, 0, 0, 0), 0, []), (.sipush 10001, (3, 0, 0, 0, 0, 0), 10001, []), (.iastore, (1, 0, 0, 0, 0, 0), 0, []), (.dup, (1, 0, 0, 0, 0, 0), 0, []), (.iconst 1, (1, 0, 0, 0, 0, 0), 1, []), (.iconst 3, (1, 0, 0, 0, 0, 0), 3, []), (.iastore, (1, 0, 0, 0, 0, 0), 0, []), (.dup, (1, 0, 0, 0, 0, 0), 0, []), (.iconst 2, (1, 0, 0, 0, 0, 0), 2, []), (.bipush (-42), (2, 0, 0, 0, 0, 0), (-42), []), (.iastore, (1, 0, 0, 0, 0, 0), 0, []), (.astore_n 3, (1, 0, 3, 0, 0, 0), 0, []), (.new 32, (3, 0, 8, 3, 1029, 0), 0, []), (.dup, (1, 0, 0, 0, 0, 0), 0, []), (.aload_n 1, (1, 0, 1, 0, 0, 0), 0, []), (.aload_n 2, (1, 0, 2, 0, 0, 0), 0, []), (.aload_n 3, (1, 0, 3, 0, 0, 0), 0, []), (.invokespecial 83, (3, 2, 65, 4, 4, 0), 1119, [])],
  [(.astore 4, (2, 0, 4, 0, 0, 0), 0, []), (.iconst 0, (1, 0, 0, 0, 0, 0), 0, []), (.istore 5, (2, 0, 5, 0, 0, 0), 0, []), (.nop, (0, 1, 5, 0, 0, 0), 0, [])],
  [(.iload 5, (2, 0, 5, 0, 0, 0), 0, []), (.bipush 6, (2, 0, 0, 0, 0, 0), 6, []), (.if_icmp .ge 18, (3, 1, 7, 6, 0, 0), 0, [])],
  [(.aload_n 0, (1, 0, 0, 0, 0, 0), 0, []), (.getfield 34, (3, 0, 9, 6, 2050, 1), 0, []), (.iload 5, (2, 0, 5, 0, 0, 0), 0, []), (.aload 4, (2, 0, 4, 0, 0, 0), 0, []), (.aastore, (1, 0, 23, 8, 0, 0), 0, []), (.iinc 5 1, (3, 0, 5, 0, 0, 0), 1, []), (.goto (-19), (3, 1, 5, 0, 0, 0), 0, [])],
  [(.iconst 0, (1, 0, 0, 0, 0, 0), 0, []), (.istore 5, (2, 0, 5, 0, 0, 0), 0, []), (.nop, (0, 1, 8, 0, 0, 0), 0, [])],
  [(.iload 5, (2, 0, 5, 0, 0, 0), 0, []), (.bipush 6, (2, 0, 0, 0, 0, 0), 6, []), (.if_icmp .ge 23, (3, 1, 11, 9, 0, 0), 0, [])],
  [(.aload_n 0, (1, 0, 0, 0, 0, 0), 0, []), (.getfield 25, (3, 0, 9, 4, 2048, 1), 0, []), (.iload 5, (2, 0, 5, 0, 0, 0), 0, []), (.new 23, (3, 0, 1, 2, 1027, 0), 0, []), (.dup, (1, 0, 0, 0, 0, 0), 0, []), (.invokespecial 86, (3, 2, 1, 10, 1, 0), 1138, [])],
  [(.aastore, (1, 0, 22, 1, 0, 0), 0, []), (.iinc 5 1, (3, 0, 5, 0, 0, 0), 1, []), (.goto (-24), (3, 1, 8, 0, 0, 0), 0, [])],
  [(.iconst 0, (1, 0, 0, 0, 0, 0), 0, []), (.istore 5, (2, 0, 5, 0, 0, 0), 0, []), (.nop, (0, 1, 12, 0, 0, 0), 0, [])],
  [(.iload 5, (2, 0, 5, 0, 0, 0), 0, []), (.iconst 4, (1, 0, 0, 0, 0, 0), 4, []), (.if_icmp .ge 23, (3, 1, 15, 13, 0, 0), 0, [])],
  [(.aload_n 0, (1, 0, 0, 0, 0, 0), 0, []), (.getfield 62, (3, 0, 9, 11, 2055, 1), 0, []), (.iload 5, (2, 0, 5, 0, 0, 0), 0, []), (.new 60, (3, 0, 5, 3, 1081, 0), 0, []), (.dup, (1, 0, 0, 0, 0, 0), 0, []), (.invokespecial 87, (3, 2, 39, 14, 1, 0), 1152, [])],
  [(.aastore, (1, 0, 24, 5, 0, 0), 0, []), (.iinc 5 1, (3, 0, 5, 0, 0, 0), 1, []), (.goto (-23), (3, 1, 12, 0, 0, 0), 0, [])],
  [(.new 88, (3, 0, 7, 3, 1169, 0), 0, []), (.dup, (1, 0, 0, 0, 0, 0), 0, []), (.aload 4, (2, 0, 4, 0, 0, 0), 0, []), (.invokespecial 90, (3, 2, 55, 16, 2, 0), 1171, [])],
  [(.astore 5, (2, 0, 5, 0, 0, 0), 0, []), (.aload_n 0, (1, 0, 0, 0, 0, 0), 0, []), (.new 93, (3, 0, 2, 8, 1185, 0), 0, []), (.dup, (1, 0, 0, 0, 0, 0), 0, []), (.aload 5, (2, 0, 5, 0, 0, 0), 0, []), (.invokespecial 95, (3, 2, 7, 17, 2, 0), 1187, [])],
  [(.putfield 98, (3, 0, 9, 13, 2057, 1), 0, []), (.aload_n 0, (1, 0, 0, 0, 0, 0), 0, []), (.new 102, (3, 0, 4, 17, 1220, 0), 0, []), (.dup, (1, 0, 0, 0, 0, 0), 0, []), (.aload 5, (2, 0, 5, 0, 0, 0), 0, []), (.invokespecial 104, (3, 2, 25, 18, 2, 0), 1222, [])],
  [(.putfield 105, (3, 0, 9, 14, 2058, 1), 0, []), (.return_, (1, 3, 0, 0, 0, 0), 0, [])]]
/-- EvenlyPoured.set(III)I -/
noncomputable def bk_67 : List (List am_P) := [[(.iload_n 1, (1, 0, 1, 0, 0, 0), 0, []), (.tableswitch 57 0 3 #[31, 37, 43, 50], (31, 1, 0, 9, 0, 0), 0, [(0, 1), (1, 3), (2, 5), (3, 7)])],
  [(.aload_n 0, (1, 0, 0, 0, 0, 0), 0, []), (.iload_n 3, (1, 0, 3, 0, 0, 0), 0, []), (.invokevirtual 109, (3, 2, 68, 2, 2, 10), 2103, [])],
  [(.ireturn, (1, 3, 0, 0, 0, 0), 0, [])],
  [(.aload_n 0, (1, 0, 0, 0, 0, 0), 0, []), (.iload_n 3, (1, 0, 3, 0, 0, 0), 0, []), (.invokevirtual 113, (3, 2, 69, 4, 2, 10), 2110, [])],
  [(.ireturn, (1, 3, 0, 0, 0, 0), 0, [])],
  [(.aload_n 0, (1, 0, 0, 0, 0, 0), 0, []), (.iload_n 2, (1, 0, 2, 0, 0, 0), 0, []), (.iload_n 3, (1, 0, 3, 0, 0, 0), 0, []), (.invokevirtual 116, (3, 2, 70, 6, 3, 10), 2114, [])],
  [(.ireturn, (1, 3, 0, 0, 0, 0), 0, [])],
  [(.aload_n 0, (1, 0, 0, 0, 0, 0), 0, []), (.iload_n 2, (1, 0, 2, 0, 0, 0), 0, []), (.iload_n 3, (1, 0, 3, 0, 0, 0), 0, []), (.invokevirtual 120, (3, 2, 71, 8, 3, 10), 2122, [])],
  [(.ireturn, (1, 3, 0, 0, 0, 0), 0, [])],
  [(.bipush (-2), (2, 0, 0, 0, 0, 0), (-2), []), (.ireturn, (1, 3, 0, 0, 0, 0), 0, [])]]
/-- EvenlyPoured.changeCups(I)I -/
noncomputable def bk_68 : List (List am_P) := [[(.iload_n 1, (1, 0, 1, 0, 0, 0), 0, []), (.iconst 1, (1, 0, 0, 0, 0, 0), 1, []), (.if_icmp .lt 8, (3, 1, 2, 1, 0, 0), 0, [])],
  [(.iload_n 1, (1, 0, 1, 0, 0, 0), 0, []), (.iconst 4, (1, 0, 0, 0, 0, 0), 4, []), (.if_icmp .le 6, (3, 1, 3, 2, 0, 0), 0, [])],
  [(.bipush (-2), (2, 0, 0, 0, 0, 0), (-2), []), (.ireturn, (1, 3, 0, 0, 0, 0), 0, [])],
  [(.aload_n 0, (1, 0, 0, 0, 0, 0), 0, []), (.getfield 7, (3, 0, 9, 0, 2044, 0), 0, []), (.istore_n 2, (1, 0, 2, 0, 0, 0), 0, []), (.aload_n 0, (1, 0, 0, 0, 0, 0), 0, []), (.iload_n 1, (1, 0, 1, 0, 0, 0), 0, []), (.putfield 7, (3, 0, 9, 0, 2044, 0), 0, []), (.aload_n 0, (1, 0, 0, 0, 0, 0), 0, []), (.getfield 16, (3, 0, 9, 2, 2046, 1), 0, []), (.iconst 0, (1, 0, 0, 0, 0, 0), 0, []), (.invokestatic 123, (3, 2, 214, 4, 2, 0), 2107, [])],
  [(.iload_n 2, (1, 0, 2, 0, 0, 0), 0, []), (.ireturn, (1, 3, 0, 0, 0, 0), 0, [])]]
/-- EvenlyPoured.changeDribs(I)I -/
noncomputable def bk_69 : List (List am_P) := [[(.iload_n 1, (1, 0, 1, 0, 0, 0), 0, []), (.ifCond .lt 9, (3, 1, 2, 1, 0, 0), 0, [])],
  [(.iload_n 1, (1, 0, 1, 0, 0, 0), 0, []), (.bipush 24, (2, 0, 0, 0, 0, 0), 24, []), (.if_icmp .le 6, (3, 1, 3, 2, 0, 0), 0, [])],
  [(.bipush (-2), (2, 0, 0, 0, 0, 0), (-2), []), (.ireturn, (1, 3, 0, 0, 0, 0), 0, [])],
  [(.aload_n 0, (1, 0, 0, 0, 0, 0), 0, []), (.getfield 13, (3, 0, 9, 1, 2045, 0), 0, []), (.istore_n 2, (1, 0, 2, 0, 0, 0), 0, []), (.aload_n 0, (1, 0, 0, 0, 0, 0), 0, []), (.iload_n 1, (1, 0, 1, 0, 0, 0), 0, []), (.putfield 13, (3, 0, 9, 1, 2045, 0), 0, []), (.aload_n 0, (1, 0, 0, 0, 0, 0), 0, []), (.getfield 16, (3, 0, 9, 2, 2046, 1), 0, []), (.iconst 0, (1, 0, 0, 0, 0, 0), 0, []), (.invokestatic 123, (3, 2, 214, 4, 2, 0), 2107, [])],
  [(.iload_n 2, (1, 0, 2, 0, 0, 0), 0, []), (.ireturn, (1, 3, 0, 0, 0, 0), 0, [])]]
/-- EvenlyPoured.changeNumber(II)I -/
noncomputable def bk_70 : List (List am_P) := [[(.aload_n 0, (1, 0, 0, 0, 0, 0), 0, []), (.iload_n 1, (1, 0, 1, 0, 0, 0), 0, []), (.invokevirtual 129, (3, 2, 78, 1, 2, 10), 2118, [])],
  [(.ifCond .eq 13, (3, 1, 4, 2, 0, 0), 0, [])],
  [(.iload_n 2, (1, 0, 2, 0, 0, 0), 0, []), (.ifCond .lt 9, (3, 1, 4, 3, 0, 0), 0, [])],
  [(.iload_n 2, (1, 0, 2, 0, 0, 0), 0, []), (.bipush 9, (2, 0, 0, 0, 0, 0), 9, []), (.if_icmp .le 6, (3, 1, 5, 4, 0, 0), 0, [])],
  [(.bipush (-2), (2, 0, 0, 0, 0, 0), (-2), []), (.ireturn, (1, 3, 0, 0, 0, 0), 0, [])],
  [(.aload_n 0, (1, 0, 0, 0, 0, 0), 0, []), (.getfield 25, (3, 0, 9, 4, 2048, 1), 0, []), (.iload_n 1, (1, 0, 1, 0, 0, 0), 0, []), (.aaload, (1, 0, 22, 0, 0, 0), 0, []), (.nop, (0, 1, 6, 0, 0, 0), 0, [])],
  [(.getfield 133, (3, 0, 1, 1, 1145, 0), 0, []), (.istore_n 3, (1, 0, 3, 0, 0, 0), 0, []), (.aload_n 0, (1, 0, 0, 0, 0, 0), 0, []), (.getfield 25, (3, 0, 9, 4, 2048, 1), 0, []), (.iload_n 1, (1, 0, 1, 0, 0, 0), 0, []), (.aaload, (1, 0, 22, 0, 0, 0), 0, []), (.nop, (0, 1, 7, 0, 0, 0), 0, [])],
  [(.iload_n 2, (1, 0, 2, 0, 0, 0), 0, []), (.putfield 133, (3, 0, 1, 1, 1145, 0), 0, []), (.iload_n 3, (1, 0, 3, 0, 0, 0), 0, []), (.ireturn, (1, 3, 0, 0, 0, 0), 0, [])]]
/-- EvenlyPoured.changePrice(II)I -/
noncomputable def bk_71 : List (List am_P) := [[(.iload_n 1, (1, 0, 1, 0, 0, 0), 0, []), (.invokestatic 136, (3, 2, 80, 1, 1, 0), 2126, [])],
  [(.ifCond .eq 13, (3, 1, 4, 2, 0, 0), 0, [])],
  [(.iload_n 2, (1, 0, 2, 0, 0, 0), 0, []), (.ifCond .lt 9, (3, 1, 4, 3, 0, 0), 0, [])],
  [(.iload_n 2, (1, 0, 2, 0, 0, 0), 0, []), (.bipush 99, (2, 0, 0, 0, 0, 0), 99, []), (.if_icmp .le 6, (3, 1, 5, 4, 0, 0), 0, [])],
  [(.bipush (-2), (2, 0, 0, 0, 0, 0), (-2), []), (.ireturn, (1, 3, 0, 0, 0, 0), 0, [])],
  [(.aload_n 0, (1, 0, 0, 0, 0, 0), 0, []), (.getfield 20, (3, 0, 9, 3, 2047, 1), 0, []), (.iload_n 1, (1, 0, 1, 0, 0, 0), 0, []), (.iaload, (1, 0, 0, 0, 0, 0), 0, []), (.istore_n 3, (1, 0, 3, 0, 0, 0), 0, []), (.aload_n 0, (1, 0, 0, 0, 0, 0), 0, []), (.getfield 20, (3, 0, 9, 3, 2047, 1), 0, []), (.iload_n 1, (1, 0, 1, 0, 0, 0), 0, []), (.iload_n 2, (1, 0, 2, 0, 0, 0), 0, []), (.iastore, (1, 0, 0, 0, 0, 0), 0, []), (.iload_n 3, (1, 0, 3, 0, 0, 0), 0, []), (.ireturn, (1, 3, 0, 0, 0, 0), 0, [])]]
/-- EvenlyPoured.told(II)I -/
noncomputable def bk_72 : List (List am_P) := [[(.iload_n 2, (1, 0, 2, 0, 0, 0), 0, []), (.tableswitch 92 0 2 #[27, 50, 73], (27, 1, 0, 18, 0, 0), 0, [(0, 1), (1, 7), (2, 13)])],
  [(.aload_n 0, (1, 0, 0, 0, 0, 0), 0, []), (.iload_n 1, (1, 0, 1, 0, 0, 0), 0, []), (.invokevirtual 129, (3, 2, 78, 2, 2, 10), 2118, [])],
  [(.ifCond .eq 15, (3, 1, 5, 3, 0, 0), 0, [])],
  [(.aload_n 0, (1, 0, 0, 0, 0, 0), 0, []), (.getfield 25, (3, 0, 9, 4, 2048, 1), 0, []), (.iload_n 1, (1, 0, 1, 0, 0, 0), 0, []), (.aaload, (1, 0, 22, 0, 0, 0), 0, []), (.nop, (0, 1, 4, 0, 0, 0), 0, [])],
  [(.getfield 133, (3, 0, 1, 1, 1145, 0), 0, []), (.goto 5, (3, 1, 6, 0, 0, 0), 0, [])],
  [(.bipush (-2), (2, 0, 0, 0, 0, 0), (-2), []), (.nop, (0, 1, 6, 0, 0, 0), 0, [])],
  [(.ireturn, (1, 3, 0, 0, 0, 0), 0, [])],
  [(.aload_n 0, (1, 0, 0, 0, 0, 0), 0, []), (.iload_n 1, (1, 0, 1, 0, 0, 0), 0, []), (.invokevirtual 129, (3, 2, 78, 8, 2, 10), 2118, [])],
  [(.ifCond .eq 15, (3, 1, 11, 9, 0, 0), 0, [])],
  [(.aload_n 0, (1, 0, 0, 0, 0, 0), 0, []), (.getfield 25, (3, 0, 9, 4, 2048, 1), 0, []), (.iload_n 1, (1, 0, 1, 0, 0, 0), 0, []), (.aaload, (1, 0, 22, 0, 0, 0), 0, []), (.nop, (0, 1, 10, 0, 0, 0), 0, [])],
  [(.getfield 139, (3, 0, 1, 0, 1143, 0), 0, []), (.goto 5, (3, 1, 12, 0, 0, 0), 0, [])],
  [(.bipush (-2), (2, 0, 0, 0, 0, 0), (-2), []), (.nop, (0, 1, 12, 0, 0, 0), 0, [])],
  [(.ireturn, (1, 3, 0, 0, 0, 0), 0, [])],
  [(.iload_n 1, (1, 0, 1, 0, 0, 0), 0, []), (.invokestatic 136, (3, 2, 80, 14, 1, 0), 2126, [])],
  [(.ifCond .eq 12, (3, 1, 16, 15, 0, 0), 0, [])],
  [(.aload_n 0, (1, 0, 0, 0, 0, 0), 0, []), (.getfield 20, (3, 0, 9, 3, 2047, 1), 0, []), (.iload_n 1, (1, 0, 1, 0, 0, 0), 0, []), (.iaload, (1, 0, 0, 0, 0, 0), 0, []), (.goto 5, (3, 1, 17, 0, 0, 0), 0, [])],
  [(.bipush (-2), (2, 0, 0, 0, 0, 0), (-2), []), (.nop, (0, 1, 17, 0, 0, 0), 0, [])],
  [(.ireturn, (1, 3, 0, 0, 0, 0), 0, [])],
  [(.bipush (-2), (2, 0, 0, 0, 0, 0), (-2), []), (.ireturn, (1, 3, 0, 0, 0, 0), 0, [])]]
/-- EvenlyPoured.lay(II)I -/
noncomputable def bk_73 : List (List am_P) := [[(.aload_n 0, (1, 0, 0, 0, 0, 0), 0, []), (.iload_n 1, (1, 0, 1, 0, 0, 0), 0, []), (.invokevirtual 142, (3, 2, 77, 1, 2, 10), 2137, [])],
  [(.ifCond .eq 11, (3, 1, 4, 2, 0, 0), 0, [])],
  [(.aload_n 0, (1, 0, 0, 0, 0, 0), 0, []), (.iload_n 2, (1, 0, 2, 0, 0, 0), 0, []), (.invokevirtual 145, (3, 2, 76, 3, 2, 10), 2141, [])],
  [(.ifCond .ne 6, (3, 1, 5, 4, 0, 0), 0, [])],
  [(.bipush (-2), (2, 0, 0, 0, 0, 0), (-2), []), (.ireturn, (1, 3, 0, 0, 0, 0), 0, [])],
  [(.aload_n 0, (1, 0, 0, 0, 0, 0), 0, []), (.getfield 16, (3, 0, 9, 2, 2046, 1), 0, []), (.iload_n 1, (1, 0, 1, 0, 0, 0), 0, []), (.iaload, (1, 0, 0, 0, 0, 0), 0, []), (.istore_n 3, (1, 0, 3, 0, 0, 0), 0, []), (.aload_n 0, (1, 0, 0, 0, 0, 0), 0, []), (.getfield 16, (3, 0, 9, 2, 2046, 1), 0, []), (.iload_n 1, (1, 0, 1, 0, 0, 0), 0, []), (.iload_n 2, (1, 0, 2, 0, 0, 0), 0, []), (.iastore, (1, 0, 0, 0, 0, 0), 0, []), (.iload_n 3, (1, 0, 3, 0, 0, 0), 0, []), (.ireturn, (1, 3, 0, 0, 0, 0), 0, [])]]
/-- EvenlyPoured.at(I)I -/
noncomputable def bk_74 : List (List am_P) := [[(.aload_n 0, (1, 0, 0, 0, 0, 0), 0, []), (.iload_n 1, (1, 0, 1, 0, 0, 0), 0, []), (.invokevirtual 142, (3, 2, 77, 1, 2, 10), 2137, [])],
  [(.ifCond .eq 12, (3, 1, 3, 2, 0, 0), 0, [])],
  [(.aload_n 0, (1, 0, 0, 0, 0, 0), 0, []), (.getfield 16, (3, 0, 9, 2, 2046, 1), 0, []), (.iload_n 1, (1, 0, 1, 0, 0, 0), 0, []), (.iaload, (1, 0, 0, 0, 0, 0), 0, []), (.goto 5, (3, 1, 4, 0, 0, 0), 0, [])],
  [(.bipush (-2), (2, 0, 0, 0, 0, 0), (-2), []), (.nop, (0, 1, 4, 0, 0, 0), 0, [])],
  [(.ireturn, (1, 3, 0, 0, 0, 0), 0, [])]]
/-- EvenlyPoured.pourer(II)I -/
noncomputable def bk_75 : List (List am_P) := [[(.iload_n 1, (1, 0, 1, 0, 0, 0), 0, []), (.invokestatic 148, (3, 2, 79, 1, 1, 0), 2153, [])],
  [(.ifCond .eq 13, (3, 1, 4, 2, 0, 0), 0, [])],
  [(.iload_n 2, (1, 0, 2, 0, 0, 0), 0, []), (.ifCond .lt 9, (3, 1, 4, 3, 0, 0), 0, [])],
  [(.iload_n 2, (1, 0, 2, 0, 0, 0), 0, []), (.bipush 9, (2, 0, 0, 0, 0, 0), 9, []), (.if_icmp .le 6, (3, 1, 5, 4, 0, 0), 0, [])],
  [(.bipush (-2), (2, 0, 0, 0, 0, 0), (-2), []), (.ireturn, (1, 3, 0, 0, 0, 0), 0, [])],
  [(.aload_n 0, (1, 0, 0, 0, 0, 0), 0, []), (.getfield 29, (3, 0, 9, 5, 2049, 0), 0, []), (.bipush 6, (2, 0, 0, 0, 0, 0), 6, []), (.if_icmp .lt 6, (3, 1, 7, 6, 0, 0), 0, [])],
  [(.bipush (-4), (2, 0, 0, 0, 0, 0), (-4), []), (.ireturn, (1, 3, 0, 0, 0, 0), 0, [])],
  [(.aload_n 0, (1, 0, 0, 0, 0, 0), 0, []), (.getfield 25, (3, 0, 9, 4, 2048, 1), 0, []), (.aload_n 0, (1, 0, 0, 0, 0, 0), 0, []), (.getfield 29, (3, 0, 9, 5, 2049, 0), 0, []), (.aaload, (1, 0, 22, 0, 0, 0), 0, []), (.nop, (0, 1, 8, 0, 0, 0), 0, [])],
  [(.iload_n 1, (1, 0, 1, 0, 0, 0), 0, []), (.putfield 139, (3, 0, 1, 0, 1143, 0), 0, []), (.aload_n 0, (1, 0, 0, 0, 0, 0), 0, []), (.getfield 25, (3, 0, 9, 4, 2048, 1), 0, []), (.aload_n 0, (1, 0, 0, 0, 0, 0), 0, []), (.getfield 29, (3, 0, 9, 5, 2049, 0), 0, []), (.aaload, (1, 0, 22, 0, 0, 0), 0, []), (.nop, (0, 1, 9, 0, 0, 0), 0, [])],
  [(.iload_n 2, (1, 0, 2, 0, 0, 0), 0, []), (.putfield 133, (3, 0, 1, 1, 1145, 0), 0, []), (.aload_n 0, (1, 0, 0, 0, 0, 0), 0, []), (.dup, (1, 0, 0, 0, 0, 0), 0, []), (.getfield 29, (3, 0, 9, 5, 2049, 0), 0, []), (.iconst 1, (1, 0, 0, 0, 0, 0), 1, []), (.iadd, (1, 0, 0, 0, 0, 0), 0, []), (.putfield 29, (3, 0, 9, 5, 2049, 0), 0, []), (.aload_n 0, (1, 0, 0, 0, 0, 0), 0, []), (.getfield 29, (3, 0, 9, 5, 2049, 0), 0, []), (.iconst 1, (1, 0, 0, 0, 0, 0), 1, []), (.isub, (1, 0, 0, 0, 0, 0), 0, []), (.ireturn, (1, 3, 0, 0, 0, 0), 0, [])]]
/-- EvenlyPoured.isCup(I)Z -/
noncomputable def bk_76 : List (List am_P) := [[(.iload_n 1, (1, 0, 1, 0, 0, 0), 0, []), (.ifCond .lt 15, (3, 1, 3, 1, 0, 0), 0, [])],
  [(.iload_n 1, (1, 0, 1, 0, 0, 0), 0, []), (.aload_n 0, (1, 0, 0, 0, 0, 0), 0, []), (.getfield 7, (3, 0, 9, 0, 2044, 0), 0, []), (.if_icmp .ge 7, (3, 1, 3, 2, 0, 0), 0, [])],
  [(.iconst 1, (1, 0, 0, 0, 0, 0), 1, []), (.goto 4, (3, 1, 4, 0, 0, 0), 0, [])],
  [(.iconst 0, (1, 0, 0, 0, 0, 0), 0, []), (.nop, (0, 1, 4, 0, 0, 0), 0, [])],
  [(.ireturn, (1, 3, 0, 0, 0, 1), 0, [])]]
/-- EvenlyPoured.isDrib(I)Z -/
noncomputable def bk_77 : List (List am_P) := [[(.iload_n 1, (1, 0, 1, 0, 0, 0), 0, []), (.ifCond .lt 15, (3, 1, 3, 1, 0, 0), 0, [])],
  [(.iload_n 1, (1, 0, 1, 0, 0, 0), 0, []), (.aload_n 0, (1, 0, 0, 0, 0, 0), 0, []), (.getfield 13, (3, 0, 9, 1, 2045, 0), 0, []), (.if_icmp .ge 7, (3, 1, 3, 2, 0, 0), 0, [])],
  [(.iconst 1, (1, 0, 0, 0, 0, 0), 1, []), (.goto 4, (3, 1, 4, 0, 0, 0), 0, [])],
  [(.iconst 0, (1, 0, 0, 0, 0, 0), 0, []), (.nop, (0, 1, 4, 0, 0, 0), 0, [])],
  [(.ireturn, (1, 3, 0, 0, 0, 1), 0, [])]]
/-- EvenlyPoured.isPourer(I)Z -/
noncomputable def bk_78 : List (List am_P) := [[(.iload_n 1, (1, 0, 1, 0, 0, 0), 0, []), (.ifCond .lt 15, (3, 1, 3, 1, 0, 0), 0, [])],
  [(.iload_n 1, (1, 0, 1, 0, 0, 0), 0, []), (.aload_n 0, (1, 0, 0, 0, 0, 0), 0, []), (.getfield 29, (3, 0, 9, 5, 2049, 0), 0, []), (.if_icmp .ge 7, (3, 1, 3, 2, 0, 0), 0, [])],
  [(.iconst 1, (1, 0, 0, 0, 0, 0), 1, []), (.goto 4, (3, 1, 4, 0, 0, 0), 0, [])],
  [(.iconst 0, (1, 0, 0, 0, 0, 0), 0, []), (.nop, (0, 1, 4, 0, 0, 0), 0, [])],
  [(.ireturn, (1, 3, 0, 0, 0, 1), 0, [])]]
/-- EvenlyPoured.isKind(I)Z -/
noncomputable def bk_79 : List (List am_P) := [[(.iload_n 0, (1, 0, 0, 0, 0, 0), 0, []), (.ifCond .lt 13, (3, 1, 3, 1, 0, 0), 0, [])],
  [(.iload_n 0, (1, 0, 0, 0, 0, 0), 0, []), (.bipush 6, (2, 0, 0, 0, 0, 0), 6, []), (.if_icmp .ge 7, (3, 1, 3, 2, 0, 0), 0, [])],
  [(.iconst 1, (1, 0, 0, 0, 0, 0), 1, []), (.goto 4, (3, 1, 4, 0, 0, 0), 0, [])],
  [(.iconst 0, (1, 0, 0, 0, 0, 0), 0, []), (.nop, (0, 1, 4, 0, 0, 0), 0, [])],
  [(.ireturn, (1, 3, 0, 0, 0, 1), 0, [])]]
/-- EvenlyPoured.isThing(I)Z -/
noncomputable def bk_80 : List (List am_P) := [[(.iload_n 0, (1, 0, 0, 0, 0, 0), 0, []), (.ifCond .lt 13, (3, 1, 3, 1, 0, 0), 0, [])],
  [(.iload_n 0, (1, 0, 0, 0, 0, 0), 0, []), (.bipush 8, (2, 0, 0, 0, 0, 0), 8, []), (.if_icmp .ge 7, (3, 1, 3, 2, 0, 0), 0, [])],
  [(.iconst 1, (1, 0, 0, 0, 0, 0), 1, []), (.goto 4, (3, 1, 4, 0, 0, 0), 0, [])],
  [(.iconst 0, (1, 0, 0, 0, 0, 0), 0, []), (.nop, (0, 1, 4, 0, 0, 0), 0, [])],
  [(.ireturn, (1, 3, 0, 0, 0, 1), 0, [])]]
/-- EvenlyPoured.feed(I)I -/
noncomputable def bk_81 : List (List am_P) := [[(.iload_n 1, (1, 0, 1, 0, 0, 0), 0, []), (.ifCond .lt 10, (3, 1, 2, 1, 0, 0), 0, [])],
  [(.iload_n 1, (1, 0, 1, 0, 0, 0), 0, []), (.sipush 255, (3, 0, 0, 0, 0, 0), 255, []), (.if_icmp .le 6, (3, 1, 3, 2, 0, 0), 0, [])],
  [(.bipush (-2), (2, 0, 0, 0, 0, 0), (-2), []), (.ireturn, (1, 3, 0, 0, 0, 0), 0, [])],
  [(.aload_n 0, (1, 0, 0, 0, 0, 0), 0, []), (.getfield 47, (3, 0, 9, 9, 2053, 1), 0, []), (.getfield 151, (3, 0, 6, 1, 1040, 0), 0, []), (.sipush 160, (3, 0, 0, 0, 0, 0), 160, []), (.if_icmp .lt 6, (3, 1, 5, 4, 0, 0), 0, [])],
  [(.bipush (-4), (2, 0, 0, 0, 0, 0), (-4), []), (.ireturn, (1, 3, 0, 0, 0, 0), 0, [])],
  [(.aload_n 0, (1, 0, 0, 0, 0, 0), 0, []), (.getfield 47, (3, 0, 9, 9, 2053, 1), 0, []), (.getfield 154, (3, 0, 6, 0, 1038, 1), 0, []), (.aload_n 0, (1, 0, 0, 0, 0, 0), 0, []), (.getfield 47, (3, 0, 9, 9, 2053, 1), 0, []), (.getfield 151, (3, 0, 6, 1, 1040, 0), 0, []), (.iload_n 1, (1, 0, 1, 0, 0, 0), 0, []), (.iastore, (1, 0, 0, 0, 0, 0), 0, []), (.aload_n 0, (1, 0, 0, 0, 0, 0), 0, []), (.getfield 47, (3, 0, 9, 9, 2053, 1), 0, []), (.dup, (1, 0, 0, 0, 0, 0), 0, []), (.getfield 151, (3, 0, 6, 1, 1040, 0), 0, []), (.iconst 1, (1, 0, 0, 0, 0, 0), 1, []), (.iadd, (1, 0, 0, 0, 0, 0), 0, []), (.putfield 151, (3, 0, 6, 1, 1040, 0), 0, []), (.aload_n 0, (1, 0, 0, 0, 0, 0), 0, []), (.getfield 47, (3, 0, 9, 9, 2053, 1), 0, []), (.getfield 151, (3, 0, 6, 1, 1040, 0), 0, []), (.ireturn, (1, 3, 0, 0, 0, 0), 0, [])]]
/-- EvenlyPoured.text()I -/
noncomputable def bk_82 : List (List am_P) := [[(.aload_n 0, (1, 0, 0, 0, 0, 0), 0, []), (.getfield 38, (3, 0, 9, 7, 2051, 0), 0, []), (.bipush 6, (2, 0, 0, 0, 0, 0), 6, []), (.if_icmp .lt 6, (3, 1, 2, 1, 0, 0), 0, [])],
  [(.bipush (-4), (2, 0, 0, 0, 0, 0), (-4), []), (.ireturn, (1, 3, 0, 0, 0, 0), 0, [])],
  [(.aload_n 0, (1, 0, 0, 0, 0, 0), 0, []), (.getfield 56, (3, 0, 9, 10, 2054, 1), 0, []), (.invokevirtual 157, (3, 2, 14, 3, 1, 4), 2164, [])],
  [(.astore_n 1, (1, 0, 1, 0, 0, 0), 0, []), (.aload_n 0, (1, 0, 0, 0, 0, 0), 0, []), (.getfield 47, (3, 0, 9, 9, 2053, 1), 0, []), (.iconst 0, (1, 0, 0, 0, 0, 0), 0, []), (.putfield 151, (3, 0, 6, 1, 1040, 0), 0, []), (.aload_n 1, (1, 0, 1, 0, 0, 0), 0, []), (.ifnonnull 14, (3, 1, 6, 4, 0, 0), 0, [])],
  [(.bipush (-100), (2, 0, 0, 0, 0, 0), (-100), []), (.aload_n 0, (1, 0, 0, 0, 0, 0), 0, []), (.getfield 56, (3, 0, 9, 10, 2054, 1), 0, []), (.invokevirtual 161, (3, 2, 15, 5, 1, 4), 3063, [])],
  [(.isub, (1, 0, 0, 0, 0, 0), 0, []), (.ireturn, (1, 3, 0, 0, 0, 0), 0, [])],
  [(.aload_n 0, (1, 0, 0, 0, 0, 0), 0, []), (.getfield 34, (3, 0, 9, 6, 2050, 1), 0, []), (.aload_n 0, (1, 0, 0, 0, 0, 0), 0, []), (.getfield 38, (3, 0, 9, 7, 2051, 0), 0, []), (.aload_n 1, (1, 0, 1, 0, 0, 0), 0, []), (.aastore, (1, 0, 23, 8, 0, 0), 0, []), (.aload_n 0, (1, 0, 0, 0, 0, 0), 0, []), (.dup, (1, 0, 0, 0, 0, 0), 0, []), (.getfield 38, (3, 0, 9, 7, 2051, 0), 0, []), (.iconst 1, (1, 0, 0, 0, 0, 0), 1, []), (.iadd, (1, 0, 0, 0, 0, 0), 0, []), (.putfield 38, (3, 0, 9, 7, 2051, 0), 0, []), (.aload_n 0, (1, 0, 0, 0, 0, 0), 0, []), (.getfield 38, (3, 0, 9, 7, 2051, 0), 0, []), (.iconst 1, (1, 0, 0, 0, 0, 0), 1, []), (.isub, (1, 0, 0, 0, 0, 0), 0, []), (.ireturn, (1, 3, 0, 0, 0, 0), 0, [])]]
/-- EvenlyPoured.force(I)I -/
noncomputable def bk_83 : List (List am_P) := [[(.iload_n 1, (1, 0, 1, 0, 0, 0), 0, []), (.ifCond .lt 11, (3, 1, 2, 1, 0, 0), 0, [])],
  [(.iload_n 1, (1, 0, 1, 0, 0, 0), 0, []), (.aload_n 0, (1, 0, 0, 0, 0, 0), 0, []), (.getfield 38, (3, 0, 9, 7, 2051, 0), 0, []), (.if_icmp .lt 6, (3, 1, 3, 2, 0, 0), 0, [])],
  [(.bipush (-2), (2, 0, 0, 0, 0, 0), (-2), []), (.ireturn, (1, 3, 0, 0, 0, 0), 0, [])],
  [(.aload_n 0, (1, 0, 0, 0, 0, 0), 0, []), (.getfield 41, (3, 0, 9, 8, 2052, 0), 0, []), (.istore_n 2, (1, 0, 2, 0, 0, 0), 0, []), (.aload_n 0, (1, 0, 0, 0, 0, 0), 0, []), (.iload_n 1, (1, 0, 1, 0, 0, 0), 0, []), (.putfield 41, (3, 0, 9, 8, 2052, 0), 0, []), (.iload_n 2, (1, 0, 2, 0, 0, 0), 0, []), (.ireturn, (1, 3, 0, 0, 0, 0), 0, [])]]
/-- EvenlyPoured.cup(II)I -/
noncomputable def bk_84 : List (List am_P) := [[(.aload_n 0, (1, 0, 0, 0, 0, 0), 0, []), (.iload_n 1, (1, 0, 1, 0, 0, 0), 0, []), (.invokevirtual 145, (3, 2, 76, 1, 2, 10), 2141, [])],
  [(.ifCond .eq 12, (3, 1, 4, 2, 0, 0), 0, [])],
  [(.iload_n 2, (1, 0, 2, 0, 0, 0), 0, []), (.ifCond .lt 8, (3, 1, 4, 3, 0, 0), 0, [])],
  [(.iload_n 2, (1, 0, 2, 0, 0, 0), 0, []), (.iconst 2, (1, 0, 0, 0, 0, 0), 2, []), (.if_icmp .le 6, (3, 1, 5, 4, 0, 0), 0, [])],
  [(.bipush (-2), (2, 0, 0, 0, 0, 0), (-2), []), (.ireturn, (1, 3, 0, 0, 0, 0), 0, [])],
  [(.aload_n 0, (1, 0, 0, 0, 0, 0), 0, []), (.invokevirtual 165, (3, 2, 92, 6, 1, 10), 3076, [])],
  [(.iload_n 2, (1, 0, 2, 0, 0, 0), 0, []), (.lookupswitch 47 #[(0, 27), (1, 37)], (27, 1, 0, 9, 0, 0), 0, [(0, 7), (1, 8)])],
  [(.aload_n 0, (1, 0, 0, 0, 0, 0), 0, []), (.getfield 98, (3, 0, 9, 13, 2057, 1), 0, []), (.getfield 168, (3, 0, 2, 1, 1193, 1), 0, []), (.iload_n 1, (1, 0, 1, 0, 0, 0), 0, []), (.iaload, (1, 0, 0, 0, 0, 0), 0, []), (.ireturn, (1, 3, 0, 0, 0, 0), 0, [])],
  [(.aload_n 0, (1, 0, 0, 0, 0, 0), 0, []), (.getfield 98, (3, 0, 9, 13, 2057, 1), 0, []), (.getfield 171, (3, 0, 2, 2, 1195, 1), 0, []), (.iload_n 1, (1, 0, 1, 0, 0, 0), 0, []), (.iaload, (1, 0, 0, 0, 0, 0), 0, []), (.ireturn, (1, 3, 0, 0, 0, 0), 0, [])],
  [(.aload_n 0, (1, 0, 0, 0, 0, 0), 0, []), (.getfield 98, (3, 0, 9, 13, 2057, 1), 0, []), (.iload_n 1, (1, 0, 1, 0, 0, 0), 0, []), (.invokevirtual 174, (3, 2, 12, 10, 2, 3), 3127, [])],
  [(.ireturn, (1, 3, 0, 0, 0, 0), 0, [])]]
/-- EvenlyPoured.all(I)I -/
noncomputable def bk_85 : List (List am_P) := [[(.iload_n 1, (1, 0, 1, 0, 0, 0), 0, []), (.ifCond .lt 8, (3, 1, 2, 1, 0, 0), 0, [])],
  [(.iload_n 1, (1, 0, 1, 0, 0, 0), 0, []), (.iconst 4, (1, 0, 0, 0, 0, 0), 4, []), (.if_icmp .le 6, (3, 1, 3, 2, 0, 0), 0, [])],
  [(.bipush (-2), (2, 0, 0, 0, 0, 0), (-2), []), (.ireturn, (1, 3, 0, 0, 0, 0), 0, [])],
  [(.aload_n 0, (1, 0, 0, 0, 0, 0), 0, []), (.invokevirtual 165, (3, 2, 92, 4, 1, 10), 3076, [])],
  [(.iload_n 1, (1, 0, 1, 0, 0, 0), 0, []), (.tableswitch 63 0 3 #[31, 39, 47, 55], (31, 1, 0, 11, 0, 0), 0, [(0, 5), (1, 7), (2, 9), (3, 10)])],
  [(.aload_n 0, (1, 0, 0, 0, 0, 0), 0, []), (.getfield 98, (3, 0, 9, 13, 2057, 1), 0, []), (.invokevirtual 177, (3, 2, 10, 6, 1, 3), 3139, [])],
  [(.ireturn, (1, 3, 0, 0, 0, 0), 0, [])],
  [(.aload_n 0, (1, 0, 0, 0, 0, 0), 0, []), (.getfield 98, (3, 0, 9, 13, 2057, 1), 0, []), (.invokevirtual 180, (3, 2, 11, 8, 1, 3), 3148, [])],
  [(.ireturn, (1, 3, 0, 0, 0, 0), 0, [])],
  [(.aload_n 0, (1, 0, 0, 0, 0, 0), 0, []), (.getfield 98, (3, 0, 9, 13, 2057, 1), 0, []), (.getfield 183, (3, 0, 2, 6, 1200, 0), 0, []), (.ireturn, (1, 3, 0, 0, 0, 0), 0, [])],
  [(.aload_n 0, (1, 0, 0, 0, 0, 0), 0, []), (.getfield 98, (3, 0, 9, 13, 2057, 1), 0, []), (.getfield 186, (3, 0, 2, 7, 1202, 0), 0, []), (.ireturn, (1, 3, 0, 0, 0, 0), 0, [])],
  [(.aload_n 0, (1, 0, 0, 0, 0, 0), 0, []), (.invokevirtual 189, (3, 2, 94, 12, 1, 10), 3156, [])],
  [(.ireturn, (1, 3, 0, 0, 0, 0), 0, [])]]
/-- EvenlyPoured.mean(II)J -/
noncomputable def bk_86 : List (List am_P) := [[(.aload_n 0, (1, 0, 0, 0, 0, 0), 0, []), (.iload_n 1, (1, 0, 1, 0, 0, 0), 0, []), (.invokevirtual 145, (3, 2, 76, 1, 2, 10), 2141, [])],
  [(.ifCond .eq 10, (3, 1, 4, 2, 0, 0), 0, [])],
  [(.iload_n 2, (1, 0, 2, 0, 0, 0), 0, []), (.invokestatic 192, (3, 2, 99, 3, 1, 0), 3172, [])],
  [(.ifCond .ne 7, (3, 1, 5, 4, 0, 0), 0, [])],
  [(.ldc2_w 195, (3, 0, 100000, 0, 3175, 0), 0, []), (.lreturn, (1, 3, 0, 0, 0, 0), 0, [])],
  [(.aload_n 0, (1, 0, 0, 0, 0, 0), 0, []), (.invokevirtual 165, (3, 2, 92, 6, 1, 10), 3076, [])],
  [(.aload_n 0, (1, 0, 0, 0, 0, 0), 0, []), (.getfield 98, (3, 0, 9, 13, 2057, 1), 0, []), (.getfield 168, (3, 0, 2, 1, 1193, 1), 0, []), (.iload_n 1, (1, 0, 1, 0, 0, 0), 0, []), (.iaload, (1, 0, 0, 0, 0, 0), 0, []), (.istore_n 3, (1, 0, 3, 0, 0, 0), 0, []), (.iload_n 3, (1, 0, 3, 0, 0, 0), 0, []), (.ifCond .ne 9, (3, 1, 8, 7, 0, 0), 0, [])],
  [(.ldc2_w 195, (3, 0, 100000, 0, 3175, 0), 0, []), (.goto 19, (3, 1, 9, 0, 0, 0), 0, [])],
  [(.aload_n 0, (1, 0, 0, 0, 0, 0), 0, []), (.getfield 98, (3, 0, 9, 13, 2057, 1), 0, []), (.getfield 171, (3, 0, 2, 2, 1195, 1), 0, []), (.iload_n 1, (1, 0, 1, 0, 0, 0), 0, []), (.iaload, (1, 0, 0, 0, 0, 0), 0, []), (.i2l, (1, 0, 0, 0, 0, 0), 0, []), (.iload_n 3, (1, 0, 3, 0, 0, 0), 0, []), (.i2l, (1, 0, 0, 0, 0, 0), 0, []), (.iload_n 2, (1, 0, 2, 0, 0, 0), 0, []), (.invokestatic 197, (3, 2, 100, 9, 3, 0), 3176, [])],
  [(.lreturn, (1, 3, 0, 0, 0, 0), 0, [])]]
/-- EvenlyPoured.evenest(I)I -/
noncomputable def bk_87 : List (List am_P) := [[(.iload_n 1, (1, 0, 1, 0, 0, 0), 0, []), (.ifCond .lt 13, (3, 1, 2, 1, 0, 0), 0, [])],
  [(.iload_n 1, (1, 0, 1, 0, 0, 0), 0, []), (.iconst 2, (1, 0, 0, 0, 0, 0), 2, []), (.aload_n 0, (1, 0, 0, 0, 0, 0), 0, []), (.getfield 13, (3, 0, 9, 1, 2045, 0), 0, []), (.iadd, (1, 0, 0, 0, 0, 0), 0, []), (.if_icmp .lt 6, (3, 1, 3, 2, 0, 0), 0, [])],
  [(.bipush (-2), (2, 0, 0, 0, 0, 0), (-2), []), (.ireturn, (1, 3, 0, 0, 0, 0), 0, [])],
  [(.aload_n 0, (1, 0, 0, 0, 0, 0), 0, []), (.invokevirtual 201, (3, 2, 97, 4, 1, 10), 3183, [])],
  [(.ifCond .ne 6, (3, 1, 6, 5, 0, 0), 0, [])],
  [(.bipush (-3), (2, 0, 0, 0, 0, 0), (-3), []), (.ireturn, (1, 3, 0, 0, 0, 0), 0, [])],
  [(.aload_n 0, (1, 0, 0, 0, 0, 0), 0, []), (.invokevirtual 205, (3, 2, 98, 7, 1, 10), 3188, [])],
  [(.iload_n 1, (1, 0, 1, 0, 0, 0), 0, []), (.lookupswitch 44 #[(0, 28), (1, 36)], (28, 1, 0, 10, 0, 0), 0, [(0, 8), (1, 9)])],
  [(.aload_n 0, (1, 0, 0, 0, 0, 0), 0, []), (.getfield 105, (3, 0, 9, 14, 2058, 1), 0, []), (.getfield 208, (3, 0, 4, 12, 2001, 0), 0, []), (.ireturn, (1, 3, 0, 0, 0, 0), 0, [])],
  [(.aload_n 0, (1, 0, 0, 0, 0, 0), 0, []), (.getfield 105, (3, 0, 9, 14, 2058, 1), 0, []), (.getfield 211, (3, 0, 4, 13, 2003, 0), 0, []), (.ireturn, (1, 3, 0, 0, 0, 0), 0, [])],
  [(.aload_n 0, (1, 0, 0, 0, 0, 0), 0, []), (.getfield 105, (3, 0, 9, 14, 2058, 1), 0, []), (.getfield 214, (3, 0, 4, 11, 1239, 1), 0, []), (.iload_n 1, (1, 0, 1, 0, 0, 0), 0, []), (.iconst 2, (1, 0, 0, 0, 0, 0), 2, []), (.isub, (1, 0, 0, 0, 0, 0), 0, []), (.iaload, (1, 0, 0, 0, 0, 0), 0, []), (.ireturn, (1, 3, 0, 0, 0, 0), 0, [])]]
/-- EvenlyPoured.become()I -/
noncomputable def bk_88 : List (List am_P) := [[(.aload_n 0, (1, 0, 0, 0, 0, 0), 0, []), (.invokevirtual 201, (3, 2, 97, 1, 1, 10), 3183, [])],
  [(.ifCond .ne 6, (3, 1, 3, 2, 0, 0), 0, [])],
  [(.bipush (-3), (2, 0, 0, 0, 0, 0), (-3), []), (.ireturn, (1, 3, 0, 0, 0, 0), 0, [])],
  [(.aload_n 0, (1, 0, 0, 0, 0, 0), 0, []), (.invokevirtual 205, (3, 2, 98, 4, 1, 10), 3188, [])],
  [(.aload_n 0, (1, 0, 0, 0, 0, 0), 0, []), (.getfield 105, (3, 0, 9, 14, 2058, 1), 0, []), (.getfield 214, (3, 0, 4, 11, 1239, 1), 0, []), (.iconst 0, (1, 0, 0, 0, 0, 0), 0, []), (.aload_n 0, (1, 0, 0, 0, 0, 0), 0, []), (.getfield 16, (3, 0, 9, 2, 2046, 1), 0, []), (.iconst 0, (1, 0, 0, 0, 0, 0), 0, []), (.aload_n 0, (1, 0, 0, 0, 0, 0), 0, []), (.getfield 13, (3, 0, 9, 1, 2045, 0), 0, []), (.invokestatic 217, (3, 0, 0, 0, 4000, 0), 0, []), (.aload_n 0, (1, 0, 0, 0, 0, 0), 0, []), (.getfield 105, (3, 0, 9, 14, 2058, 1), 0, []), (.getfield 208, (3, 0, 4, 12, 2001, 0), 0, []), (.ireturn, (1, 3, 0, 0, 0, 0), 0, [])]]
/-- EvenlyPoured.fewest(I)I -/
noncomputable def bk_89 : List (List am_P) := [[(.iload_n 1, (1, 0, 1, 0, 0, 0), 0, []), (.ifCond .lt 9, (3, 1, 2, 1, 0, 0), 0, [])],
  [(.iload_n 1, (1, 0, 1, 0, 0, 0), 0, []), (.ldc 223, (2, 0, 0, 0, 4005, 0), 99999, []), (.if_icmp .le 6, (3, 1, 3, 2, 0, 0), 0, [])],
  [(.bipush (-2), (2, 0, 0, 0, 0, 0), (-2), []), (.ireturn, (1, 3, 0, 0, 0, 0), 0, [])],
  [(.aload_n 0, (1, 0, 0, 0, 0, 0), 0, []), (.invokevirtual 201, (3, 2, 97, 4, 1, 10), 3183, [])],
  [(.ifCond .ne 6, (3, 1, 6, 5, 0, 0), 0, [])],
  [(.bipush (-3), (2, 0, 0, 0, 0, 0), (-3), []), (.ireturn, (1, 3, 0, 0, 0, 0), 0, [])],
  [(.aload_n 0, (1, 0, 0, 0, 0, 0), 0, []), (.invokevirtual 205, (3, 2, 98, 7, 1, 10), 3188, [])],
  [(.aload_n 0, (1, 0, 0, 0, 0, 0), 0, []), (.getfield 105, (3, 0, 9, 14, 2058, 1), 0, []), (.iload_n 1, (1, 0, 1, 0, 0, 0), 0, []), (.invokevirtual 224, (3, 2, 31, 8, 2, 5), 4006, [])],
  [(.ireturn, (1, 3, 0, 0, 0, 0), 0, [])]]
/-- EvenlyPoured.next(I)I -/
noncomputable def bk_90 : List (List am_P) := [[(.iload_n 1, (1, 0, 1, 0, 0, 0), 0, []), (.ifCond .lt 8, (3, 1, 2, 1, 0, 0), 0, [])],
  [(.iload_n 1, (1, 0, 1, 0, 0, 0), 0, []), (.iconst 1, (1, 0, 0, 0, 0, 0), 1, []), (.if_icmp .le 6, (3, 1, 3, 2, 0, 0), 0, [])],
  [(.bipush (-2), (2, 0, 0, 0, 0, 0), (-2), []), (.ireturn, (1, 3, 0, 0, 0, 0), 0, [])],
  [(.aload_n 0, (1, 0, 0, 0, 0, 0), 0, []), (.getfield 13, (3, 0, 9, 1, 2045, 0), 0, []), (.bipush 24, (2, 0, 0, 0, 0, 0), 24, []), (.if_icmp .lt 6, (3, 1, 5, 4, 0, 0), 0, [])],
  [(.bipush (-3), (2, 0, 0, 0, 0, 0), (-3), []), (.ireturn, (1, 3, 0, 0, 0, 0), 0, [])],
  [(.iconst 0, (1, 0, 0, 0, 0, 0), 0, []), (.istore_n 2, (1, 0, 2, 0, 0, 0), 0, []), (.aload_n 0, (1, 0, 0, 0, 0, 0), 0, []), (.iconst 0, (1, 0, 0, 0, 0, 0), 0, []), (.invokevirtual 227, (3, 2, 91, 6, 2, 10), 4014, [])],
  [(.istore_n 3, (1, 0, 3, 0, 0, 0), 0, []), (.iconst 1, (1, 0, 0, 0, 0, 0), 1, []), (.istore 4, (2, 0, 4, 0, 0, 0), 0, []), (.nop, (0, 1, 7, 0, 0, 0), 0, [])],
  [(.iload 4, (2, 0, 4, 0, 0, 0), 0, []), (.aload_n 0, (1, 0, 0, 0, 0, 0), 0, []), (.getfield 7, (3, 0, 9, 0, 2044, 0), 0, []), (.if_icmp .ge 29, (3, 1, 12, 8, 0, 0), 0, [])],
  [(.aload_n 0, (1, 0, 0, 0, 0, 0), 0, []), (.iload 4, (2, 0, 4, 0, 0, 0), 0, []), (.invokevirtual 227, (3, 2, 91, 9, 2, 10), 4014, [])],
  [(.istore 5, (2, 0, 5, 0, 0, 0), 0, []), (.iload 5, (2, 0, 5, 0, 0, 0), 0, []), (.iload_n 3, (1, 0, 3, 0, 0, 0), 0, []), (.if_icmp .ge 9, (3, 1, 11, 10, 0, 0), 0, [])],
  [(.iload 5, (2, 0, 5, 0, 0, 0), 0, []), (.istore_n 3, (1, 0, 3, 0, 0, 0), 0, []), (.iload 4, (2, 0, 4, 0, 0, 0), 0, []), (.istore_n 2, (1, 0, 2, 0, 0, 0), 0, []), (.nop, (0, 1, 11, 0, 0, 0), 0, [])],
  [(.iinc 4 1, (3, 0, 4, 0, 0, 0), 1, []), (.goto (-32), (3, 1, 7, 0, 0, 0), 0, [])],
  [(.iload_n 1, (1, 0, 1, 0, 0, 0), 0, []), (.ifCond .ne 7, (3, 1, 14, 13, 0, 0), 0, [])],
  [(.iload_n 2, (1, 0, 2, 0, 0, 0), 0, []), (.goto 4, (3, 1, 15, 0, 0, 0), 0, [])],
  [(.iload_n 3, (1, 0, 3, 0, 0, 0), 0, []), (.nop, (0, 1, 15, 0, 0, 0), 0, [])],
  [(.ireturn, (1, 3, 0, 0, 0, 0), 0, [])]]
/-- EvenlyPoured.unevenWithOneMore(I)I -/
noncomputable def bk_91 : List (List am_P) := [[(.aload_n 0, (1, 0, 0, 0, 0, 0), 0, []), (.getfield 98, (3, 0, 9, 13, 2057, 1), 0, []), (.aload_n 0, (1, 0, 0, 0, 0, 0), 0, []), (.getfield 34, (3, 0, 9, 6, 2050, 1), 0, []), (.aload_n 0, (1, 0, 0, 0, 0, 0), 0, []), (.getfield 41, (3, 0, 9, 8, 2052, 0), 0, []), (.aaload, (1, 0, 23, 0, 0, 0), 0, []), (.nop, (0, 1, 1, 0, 0, 0), 0, [])],
  [(.aload_n 0, (1, 0, 0, 0, 0, 0), 0, []), (.getfield 7, (3, 0, 9, 0, 2044, 0), 0, []), (.aload_n 0, (1, 0, 0, 0, 0, 0), 0, []), (.getfield 13, (3, 0, 9, 1, 2045, 0), 0, []), (.iconst 1, (1, 0, 0, 0, 0, 0), 1, []), (.iadd, (1, 0, 0, 0, 0, 0), 0, []), (.invokevirtual 230, (3, 2, 8, 2, 4, 3), 3084, [])],
  [(.iconst 0, (1, 0, 0, 0, 0, 0), 0, []), (.istore_n 2, (1, 0, 2, 0, 0, 0), 0, []), (.nop, (0, 1, 3, 0, 0, 0), 0, [])],
  [(.iload_n 2, (1, 0, 2, 0, 0, 0), 0, []), (.aload_n 0, (1, 0, 0, 0, 0, 0), 0, []), (.getfield 13, (3, 0, 9, 1, 2045, 0), 0, []), (.if_icmp .ge 24, (3, 1, 6, 4, 0, 0), 0, [])],
  [(.aload_n 0, (1, 0, 0, 0, 0, 0), 0, []), (.getfield 98, (3, 0, 9, 13, 2057, 1), 0, []), (.iload_n 2, (1, 0, 2, 0, 0, 0), 0, []), (.aload_n 0, (1, 0, 0, 0, 0, 0), 0, []), (.getfield 16, (3, 0, 9, 2, 2046, 1), 0, []), (.iload_n 2, (1, 0, 2, 0, 0, 0), 0, []), (.iaload, (1, 0, 0, 0, 0, 0), 0, []), (.iconst 0, (1, 0, 0, 0, 0, 0), 0, []), (.invokevirtual 234, (3, 2, 9, 5, 4, 3), 3093, [])],
  [(.iinc 2 1, (3, 0, 2, 0, 0, 0), 1, []), (.goto (-26), (3, 1, 3, 0, 0, 0), 0, [])],
  [(.aload_n 0, (1, 0, 0, 0, 0, 0), 0, []), (.getfield 98, (3, 0, 9, 13, 2057, 1), 0, []), (.aload_n 0, (1, 0, 0, 0, 0, 0), 0, []), (.getfield 13, (3, 0, 9, 1, 2045, 0), 0, []), (.iload_n 1, (1, 0, 1, 0, 0, 0), 0, []), (.iconst 0, (1, 0, 0, 0, 0, 0), 0, []), (.invokevirtual 234, (3, 2, 9, 7, 4, 3), 3093, [])],
  [(.aload_n 0, (1, 0, 0, 0, 0, 0), 0, []), (.getfield 98, (3, 0, 9, 13, 2057, 1), 0, []), (.invokevirtual 177, (3, 2, 10, 8, 1, 3), 3139, [])],
  [(.ireturn, (1, 3, 0, 0, 0, 0), 0, [])]]
/-- EvenlyPoured.pourRow()V -/
noncomputable def bk_92 : List (List am_P) := [[(.aload_n 0, (1, 0, 0, 0, 0, 0), 0, []), (.iconst (-1), (1, 0, 0, 0, 0, 0), (-1), []), (.invokevirtual 238, (3, 2, 93, 1, 2, 10), 3080, [])],
  [(.return_, (1, 3, 0, 0, 0, 0), 0, [])]]
/-- EvenlyPoured.pourAllBut(I)V -/
noncomputable def bk_93 : List (List am_P) := [[(.aload_n 0, (1, 0, 0, 0, 0, 0), 0, []), (.getfield 98, (3, 0, 9, 13, 2057, 1), 0, []), (.aload_n 0, (1, 0, 0, 0, 0, 0), 0, []), (.getfield 34, (3, 0, 9, 6, 2050, 1), 0, []), (.aload_n 0, (1, 0, 0, 0, 0, 0), 0, []), (.getfield 41, (3, 0, 9, 8, 2052, 0), 0, []), (.aaload, (1, 0, 23, 0, 0, 0), 0, []), (.nop, (0, 1, 1, 0, 0, 0), 0, [])],
  [(.aload_n 0, (1, 0, 0, 0, 0, 0), 0, []), (.getfield 7, (3, 0, 9, 0, 2044, 0), 0, []), (.aload_n 0, (1, 0, 0, 0, 0, 0), 0, []), (.getfield 13, (3, 0, 9, 1, 2045, 0), 0, []), (.invokevirtual 230, (3, 2, 8, 2, 4, 3), 3084, [])],
  [(.iconst 0, (1, 0, 0, 0, 0, 0), 0, []), (.istore_n 2, (1, 0, 2, 0, 0, 0), 0, []), (.nop, (0, 1, 3, 0, 0, 0), 0, [])],
  [(.iload_n 2, (1, 0, 2, 0, 0, 0), 0, []), (.aload_n 0, (1, 0, 0, 0, 0, 0), 0, []), (.getfield 13, (3, 0, 9, 1, 2045, 0), 0, []), (.if_icmp .ge 34, (3, 1, 7, 4, 0, 0), 0, [])],
  [(.aload_n 0, (1, 0, 0, 0, 0, 0), 0, []), (.getfield 16, (3, 0, 9, 2, 2046, 1), 0, []), (.iload_n 2, (1, 0, 2, 0, 0, 0), 0, []), (.iaload, (1, 0, 0, 0, 0, 0), 0, []), (.iload_n 1, (1, 0, 1, 0, 0, 0), 0, []), (.if_icmp .eq 18, (3, 1, 6, 5, 0, 0), 0, [])],
  [(.aload_n 0, (1, 0, 0, 0, 0, 0), 0, []), (.getfield 98, (3, 0, 9, 13, 2057, 1), 0, []), (.iload_n 2, (1, 0, 2, 0, 0, 0), 0, []), (.aload_n 0, (1, 0, 0, 0, 0, 0), 0, []), (.getfield 16, (3, 0, 9, 2, 2046, 1), 0, []), (.iload_n 2, (1, 0, 2, 0, 0, 0), 0, []), (.iaload, (1, 0, 0, 0, 0, 0), 0, []), (.iconst 0, (1, 0, 0, 0, 0, 0), 0, []), (.invokevirtual 234, (3, 2, 9, 6, 4, 3), 3093, [])],
  [(.iinc 2 1, (3, 0, 2, 0, 0, 0), 1, []), (.goto (-36), (3, 1, 3, 0, 0, 0), 0, [])],
  [(.return_, (1, 3, 0, 0, 0, 0), 0, [])]]
/-- EvenlyPoured.greatestEvenPower()I -/
noncomputable def bk_94 : List (List am_P) := [[(.iconst 0, (1, 0, 0, 0, 0, 0), 0, []), (.istore_n 1, (1, 0, 1, 0, 0, 0), 0, []), (.nop, (0, 1, 1, 0, 0, 0), 0, [])],
  [(.iload_n 1, (1, 0, 1, 0, 0, 0), 0, []), (.iconst 4, (1, 0, 0, 0, 0, 0), 4, []), (.if_icmp .gt 21, (3, 1, 6, 2, 0, 0), 0, [])],
  [(.aload_n 0, (1, 0, 0, 0, 0, 0), 0, []), (.iload_n 1, (1, 0, 1, 0, 0, 0), 0, []), (.invokevirtual 242, (3, 2, 95, 3, 2, 10), 3160, [])],
  [(.ifCond .ne 7, (3, 1, 5, 4, 0, 0), 0, [])],
  [(.iload_n 1, (1, 0, 1, 0, 0, 0), 0, []), (.iconst 1, (1, 0, 0, 0, 0, 0), 1, []), (.isub, (1, 0, 0, 0, 0, 0), 0, []), (.ireturn, (1, 3, 0, 0, 0, 0), 0, [])],
  [(.iinc 1 1, (3, 0, 1, 0, 0, 0), 1, []), (.goto (-20), (3, 1, 1, 0, 0, 0), 0, [])],
  [(.iconst 4, (1, 0, 0, 0, 0, 0), 4, []), (.ireturn, (1, 3, 0, 0, 0, 0), 0, [])]]
/-- EvenlyPoured.isAsMuchInEachCup(I)Z -/
noncomputable def bk_95 : List (List am_P) := [[(.aload_n 0, (1, 0, 0, 0, 0, 0), 0, []), (.iconst 0, (1, 0, 0, 0, 0, 0), 0, []), (.iload_n 1, (1, 0, 1, 0, 0, 0), 0, []), (.invokevirtual 245, (3, 2, 96, 1, 3, 10), 3164, [])],
  [(.istore_n 2, (1, 0, 2, 0, 0, 0), 0, []), (.iconst 1, (1, 0, 0, 0, 0, 0), 1, []), (.istore_n 3, (1, 0, 3, 0, 0, 0), 0, []), (.nop, (0, 1, 2, 0, 0, 0), 0, [])],
  [(.iload_n 3, (1, 0, 3, 0, 0, 0), 0, []), (.aload_n 0, (1, 0, 0, 0, 0, 0), 0, []), (.getfield 7, (3, 0, 9, 0, 2044, 0), 0, []), (.if_icmp .ge 21, (3, 1, 7, 3, 0, 0), 0, [])],
  [(.aload_n 0, (1, 0, 0, 0, 0, 0), 0, []), (.iload_n 3, (1, 0, 3, 0, 0, 0), 0, []), (.iload_n 1, (1, 0, 1, 0, 0, 0), 0, []), (.invokevirtual 245, (3, 2, 96, 4, 3, 10), 3164, [])],
  [(.iload_n 2, (1, 0, 2, 0, 0, 0), 0, []), (.if_icmp .eq 5, (3, 1, 6, 5, 0, 0), 0, [])],
  [(.iconst 0, (1, 0, 0, 0, 0, 0), 0, []), (.ireturn, (1, 3, 0, 0, 0, 1), 0, [])],
  [(.iinc 3 1, (3, 0, 3, 0, 0, 0), 1, []), (.goto (-23), (3, 1, 2, 0, 0, 0), 0, [])],
  [(.iconst 1, (1, 0, 0, 0, 0, 0), 1, []), (.ireturn, (1, 3, 0, 0, 0, 1), 0, [])]]
/-- EvenlyPoured.sumOfPowers(II)I -/
noncomputable def bk_96 : List (List am_P) := [[(.iconst 0, (1, 0, 0, 0, 0, 0), 0, []), (.istore_n 3, (1, 0, 3, 0, 0, 0), 0, []), (.iconst 0, (1, 0, 0, 0, 0, 0), 0, []), (.istore 4, (2, 0, 4, 0, 0, 0), 0, []), (.nop, (0, 1, 1, 0, 0, 0), 0, [])],
  [(.iload 4, (2, 0, 4, 0, 0, 0), 0, []), (.aload_n 0, (1, 0, 0, 0, 0, 0), 0, []), (.getfield 13, (3, 0, 9, 1, 2045, 0), 0, []), (.if_icmp .ge 50, (3, 1, 8, 2, 0, 0), 0, [])],
  [(.aload_n 0, (1, 0, 0, 0, 0, 0), 0, []), (.getfield 16, (3, 0, 9, 2, 2046, 1), 0, []), (.iload 4, (2, 0, 4, 0, 0, 0), 0, []), (.iaload, (1, 0, 0, 0, 0, 0), 0, []), (.iload_n 1, (1, 0, 1, 0, 0, 0), 0, []), (.if_icmp .ne 33, (3, 1, 7, 3, 0, 0), 0, [])],
  [(.iconst 1, (1, 0, 0, 0, 0, 0), 1, []), (.istore 5, (2, 0, 5, 0, 0, 0), 0, []), (.iconst 0, (1, 0, 0, 0, 0, 0), 0, []), (.istore 6, (2, 0, 6, 0, 0, 0), 0, []), (.nop, (0, 1, 4, 0, 0, 0), 0, [])],
  [(.iload 6, (2, 0, 6, 0, 0, 0), 0, []), (.iload_n 2, (1, 0, 2, 0, 0, 0), 0, []), (.if_icmp .ge 16, (3, 1, 6, 5, 0, 0), 0, [])],
  [(.iload 5, (2, 0, 5, 0, 0, 0), 0, []), (.iload 4, (2, 0, 4, 0, 0, 0), 0, []), (.imul, (1, 0, 0, 0, 0, 0), 0, []), (.istore 5, (2, 0, 5, 0, 0, 0), 0, []), (.iinc 6 1, (3, 0, 6, 0, 0, 0), 1, []), (.goto (-16), (3, 1, 4, 0, 0, 0), 0, [])],
  [(.iload_n 3, (1, 0, 3, 0, 0, 0), 0, []), (.iload 5, (2, 0, 5, 0, 0, 0), 0, []), (.iadd, (1, 0, 0, 0, 0, 0), 0, []), (.istore_n 3, (1, 0, 3, 0, 0, 0), 0, []), (.nop, (0, 1, 7, 0, 0, 0), 0, [])],
  [(.iinc 4 1, (3, 0, 4, 0, 0, 0), 1, []), (.goto (-53), (3, 1, 1, 0, 0, 0), 0, [])],
  [(.iload_n 3, (1, 0, 3, 0, 0, 0), 0, []), (.ireturn, (1, 3, 0, 0, 0, 0), 0, [])]]
/-- EvenlyPoured.waysAreFew()Z -/
noncomputable def bk_97 : List (List am_P) := [[(.iconst 1, (1, 0, 0, 0, 0, 0), 1, []), (.istore_n 1, (1, 0, 1, 0, 0, 0), 0, []), (.iconst 0, (1, 0, 0, 0, 0, 0), 0, []), (.istore_n 2, (1, 0, 2, 0, 0, 0), 0, []), (.nop, (0, 1, 1, 0, 0, 0), 0, [])],
  [(.iload_n 2, (1, 0, 2, 0, 0, 0), 0, []), (.aload_n 0, (1, 0, 0, 0, 0, 0), 0, []), (.getfield 13, (3, 0, 9, 1, 2045, 0), 0, []), (.if_icmp .ge 24, (3, 1, 5, 2, 0, 0), 0, [])],
  [(.iload_n 1, (1, 0, 1, 0, 0, 0), 0, []), (.aload_n 0, (1, 0, 0, 0, 0, 0), 0, []), (.getfield 7, (3, 0, 9, 0, 2044, 0), 0, []), (.imul, (1, 0, 0, 0, 0, 0), 0, []), (.istore_n 1, (1, 0, 1, 0, 0, 0), 0, []), (.iload_n 1, (1, 0, 1, 0, 0, 0), 0, []), (.ldc 248, (2, 0, 0, 0, 3187, 0), 65536, []), (.if_icmp .le 5, (3, 1, 4, 3, 0, 0), 0, [])],
  [(.iconst 0, (1, 0, 0, 0, 0, 0), 0, []), (.ireturn, (1, 3, 0, 0, 0, 1), 0, [])],
  [(.iinc 2 1, (3, 0, 2, 0, 0, 0), 1, []), (.goto (-26), (3, 1, 1, 0, 0, 0), 0, [])],
  [(.iconst 1, (1, 0, 0, 0, 0, 0), 1, []), (.ireturn, (1, 3, 0, 0, 0, 1), 0, [])]]
/-- EvenlyPoured.findEvenest()V -/
noncomputable def bk_98 : List (List am_P) := [[(.aload_n 0, (1, 0, 0, 0, 0, 0), 0, []), (.getfield 105, (3, 0, 9, 14, 2058, 1), 0, []), (.aload_n 0, (1, 0, 0, 0, 0, 0), 0, []), (.getfield 41, (3, 0, 9, 8, 2052, 0), 0, []), (.aload_n 0, (1, 0, 0, 0, 0, 0), 0, []), (.getfield 34, (3, 0, 9, 6, 2050, 1), 0, []), (.aload_n 0, (1, 0, 0, 0, 0, 0), 0, []), (.getfield 41, (3, 0, 9, 8, 2052, 0), 0, []), (.aaload, (1, 0, 23, 0, 0, 0), 0, []), (.nop, (0, 1, 1, 0, 0, 0), 0, [])],
  [(.aload_n 0, (1, 0, 0, 0, 0, 0), 0, []), (.getfield 7, (3, 0, 9, 0, 2044, 0), 0, []), (.aload_n 0, (1, 0, 0, 0, 0, 0), 0, []), (.getfield 13, (3, 0, 9, 1, 2045, 0), 0, []), (.invokevirtual 249, (3, 2, 26, 2, 5, 5), 3192, [])],
  [(.aload_n 0, (1, 0, 0, 0, 0, 0), 0, []), (.getfield 105, (3, 0, 9, 14, 2058, 1), 0, []), (.invokevirtual 253, (3, 2, 30, 3, 1, 5), 3208, [])],
  [(.return_, (1, 3, 0, 0, 0, 0), 0, [])]]
/-- EvenlyPoured.isPart(I)Z -/
noncomputable def bk_99 : List (List am_P) := [[(.iload_n 0, (1, 0, 0, 0, 0, 0), 0, []), (.ifCond .eq 8, (3, 1, 2, 1, 0, 0), 0, [])],
  [(.iload_n 0, (1, 0, 0, 0, 0, 0), 0, []), (.iconst 1, (1, 0, 0, 0, 0, 0), 1, []), (.if_icmp .ne 7, (3, 1, 3, 2, 0, 0), 0, [])],
  [(.iconst 1, (1, 0, 0, 0, 0, 0), 1, []), (.goto 4, (3, 1, 4, 0, 0, 0), 0, [])],
  [(.iconst 0, (1, 0, 0, 0, 0, 0), 0, []), (.nop, (0, 1, 4, 0, 0, 0), 0, [])],
  [(.ireturn, (1, 3, 0, 0, 0, 1), 0, [])]]
/-- EvenlyPoured.inLowestTerms(JJI)J -/
noncomputable def bk_100 : List (List am_P) := [[(.lload_n 0, (1, 0, 0, 0, 0, 0), 0, []), (.lstore 5, (2, 0, 5, 0, 0, 0), 0, []), (.lload_n 2, (1, 0, 2, 0, 0, 0), 0, []), (.lstore 7, (2, 0, 7, 0, 0, 0), 0, []), (.iconst 0, (1, 0, 0, 0, 0, 0), 0, []), (.istore 9, (2, 0, 9, 0, 0, 0), 0, []), (.nop, (0, 1, 1, 0, 0, 0), 0, [])],
  [(.iload 9, (2, 0, 9, 0, 0, 0), 0, []), (.sipush 200, (3, 0, 0, 0, 0, 0), 200, []), (.if_icmp .ge 31, (3, 1, 4, 2, 0, 0), 0, [])],
  [(.lload 7, (2, 0, 7, 0, 0, 0), 0, []), (.lconst 0, (1, 0, 0, 0, 0, 0), 0, []), (.lcmp, (1, 0, 0, 0, 0, 0), 0, []), (.ifCond .eq 24, (3, 1, 4, 3, 0, 0), 0, [])],
  [(.lload 5, (2, 0, 5, 0, 0, 0), 0, []), (.lload 7, (2, 0, 7, 0, 0, 0), 0, []), (.lrem, (1, 0, 0, 0, 0, 0), 0, []), (.lstore 10, (2, 0, 10, 0, 0, 0), 0, []), (.lload 7, (2, 0, 7, 0, 0, 0), 0, []), (.lstore 5, (2, 0, 5, 0, 0, 0), 0, []), (.lload 10, (2, 0, 10, 0, 0, 0), 0, []), (.lstore 7, (2, 0, 7, 0, 0, 0), 0, []), (.iinc 9 1, (3, 0, 9, 0, 0, 0), 1, []), (.goto (-33), (3, 1, 1, 0, 0, 0), 0, [])],
  [(.lload 5, (2, 0, 5, 0, 0, 0), 0, []), (.lconst 0, (1, 0, 0, 0, 0, 0), 0, []), (.lcmp, (1, 0, 0, 0, 0, 0), 0, []), (.ifCond .ne 7, (3, 1, 6, 5, 0, 0), 0, [])],
  [(.ldc2_w 195, (3, 0, 100000, 0, 3175, 0), 0, []), (.lreturn, (1, 3, 0, 0, 0, 0), 0, [])],
  [(.iload 4, (2, 0, 4, 0, 0, 0), 0, []), (.ifCond .ne 7, (3, 1, 8, 7, 0, 0), 0, [])],
  [(.lload_n 0, (1, 0, 0, 0, 0, 0), 0, []), (.goto 4, (3, 1, 9, 0, 0, 0), 0, [])],
  [(.lload_n 2, (1, 0, 2, 0, 0, 0), 0, []), (.nop, (0, 1, 9, 0, 0, 0), 0, [])],
  [(.lload 5, (2, 0, 5, 0, 0, 0), 0, []), (.ldiv, (1, 0, 0, 0, 0, 0), 0, []), (.lreturn, (1, 3, 0, 0, 0, 0), 0, [])]]
/-- EvenlyPoured.poured(II)I -/
noncomputable def bk_101 : List (List am_P) := [[(.aload_n 0, (1, 0, 0, 0, 0, 0), 0, []), (.iload_n 1, (1, 0, 1, 0, 0, 0), 0, []), (.invokevirtual 129, (3, 2, 78, 1, 2, 10), 2118, [])],
  [(.ifCond .eq 16, (3, 1, 5, 2, 0, 0), 0, [])],
  [(.iload_n 2, (1, 0, 2, 0, 0, 0), 0, []), (.iconst (-1), (1, 0, 0, 0, 0, 0), (-1), []), (.if_icmp .eq 14, (3, 1, 6, 3, 0, 0), 0, [])],
  [(.aload_n 0, (1, 0, 0, 0, 0, 0), 0, []), (.iload_n 2, (1, 0, 2, 0, 0, 0), 0, []), (.invokevirtual 142, (3, 2, 77, 4, 2, 10), 2137, [])],
  [(.ifCond .ne 6, (3, 1, 6, 5, 0, 0), 0, [])],
  [(.bipush (-2), (2, 0, 0, 0, 0, 0), (-2), []), (.ireturn, (1, 3, 0, 0, 0, 0), 0, [])],
  [(.aload_n 0, (1, 0, 0, 0, 0, 0), 0, []), (.aload_n 0, (1, 0, 0, 0, 0, 0), 0, []), (.getfield 25, (3, 0, 9, 4, 2048, 1), 0, []), (.iload_n 1, (1, 0, 1, 0, 0, 0), 0, []), (.aaload, (1, 0, 22, 0, 0, 0), 0, []), (.nop, (0, 1, 7, 0, 0, 0), 0, [])],
  [(.invokevirtual 254, (3, 2, 104, 8, 2, 10), 4022, [])],
  [(.iload_n 2, (1, 0, 2, 0, 0, 0), 0, []), (.iconst (-1), (1, 0, 0, 0, 0, 0), (-1), []), (.if_icmp .ne 13, (3, 1, 11, 9, 0, 0), 0, [])],
  [(.aload_n 0, (1, 0, 0, 0, 0, 0), 0, []), (.getfield 98, (3, 0, 9, 13, 2057, 1), 0, []), (.invokevirtual 177, (3, 2, 10, 10, 1, 3), 3139, [])],
  [(.goto 9, (3, 1, 12, 0, 0, 0), 0, [])],
  [(.aload_n 0, (1, 0, 0, 0, 0, 0), 0, []), (.getfield 73, (3, 0, 9, 15, 2059, 1), 0, []), (.iload_n 2, (1, 0, 2, 0, 0, 0), 0, []), (.iaload, (1, 0, 0, 0, 0, 0), 0, []), (.nop, (0, 1, 12, 0, 0, 0), 0, [])],
  [(.ireturn, (1, 3, 0, 0, 0, 0), 0, [])]]
/-- EvenlyPoured.follow(I)I -/
noncomputable def bk_102 : List (List am_P) := [[(.aload_n 0, (1, 0, 0, 0, 0, 0), 0, []), (.iload_n 1, (1, 0, 1, 0, 0, 0), 0, []), (.invokevirtual 129, (3, 2, 78, 1, 2, 10), 2118, [])],
  [(.ifCond .ne 6, (3, 1, 3, 2, 0, 0), 0, [])],
  [(.bipush (-2), (2, 0, 0, 0, 0, 0), (-2), []), (.ireturn, (1, 3, 0, 0, 0, 0), 0, [])],
  [(.aload_n 0, (1, 0, 0, 0, 0, 0), 0, []), (.aload_n 0, (1, 0, 0, 0, 0, 0), 0, []), (.getfield 25, (3, 0, 9, 4, 2048, 1), 0, []), (.iload_n 1, (1, 0, 1, 0, 0, 0), 0, []), (.aaload, (1, 0, 22, 0, 0, 0), 0, []), (.nop, (0, 1, 4, 0, 0, 0), 0, [])],
  [(.invokevirtual 254, (3, 2, 104, 5, 2, 10), 4022, [])],
  [(.aload_n 0, (1, 0, 0, 0, 0, 0), 0, []), (.getfield 73, (3, 0, 9, 15, 2059, 1), 0, []), (.iconst 0, (1, 0, 0, 0, 0, 0), 0, []), (.aload_n 0, (1, 0, 0, 0, 0, 0), 0, []), (.getfield 16, (3, 0, 9, 2, 2046, 1), 0, []), (.iconst 0, (1, 0, 0, 0, 0, 0), 0, []), (.aload_n 0, (1, 0, 0, 0, 0, 0), 0, []), (.getfield 13, (3, 0, 9, 1, 2045, 0), 0, []), (.invokestatic 217, (3, 0, 0, 0, 4000, 0), 0, []), (.aload_n 0, (1, 0, 0, 0, 0, 0), 0, []), (.getfield 98, (3, 0, 9, 13, 2057, 1), 0, []), (.invokevirtual 177, (3, 2, 10, 6, 1, 3), 3139, [])],
  [(.ireturn, (1, 3, 0, 0, 0, 0), 0, [])]]
/-- EvenlyPoured.which(I)I -/
noncomputable def bk_103 : List (List am_P) := [[(.iload_n 1, (1, 0, 1, 0, 0, 0), 0, []), (.ifCond .lt 8, (3, 1, 2, 1, 0, 0), 0, [])],
  [(.iload_n 1, (1, 0, 1, 0, 0, 0), 0, []), (.iconst 1, (1, 0, 0, 0, 0, 0), 1, []), (.if_icmp .le 6, (3, 1, 3, 2, 0, 0), 0, [])],
  [(.bipush (-2), (2, 0, 0, 0, 0, 0), (-2), []), (.ireturn, (1, 3, 0, 0, 0, 0), 0, [])],
  [(.iconst (-1), (1, 0, 0, 0, 0, 0), (-1), []), (.istore_n 2, (1, 0, 2, 0, 0, 0), 0, []), (.iconst (-1), (1, 0, 0, 0, 0, 0), (-1), []), (.istore_n 3, (1, 0, 3, 0, 0, 0), 0, []), (.iconst 0, (1, 0, 0, 0, 0, 0), 0, []), (.istore 4, (2, 0, 4, 0, 0, 0), 0, []), (.nop, (0, 1, 4, 0, 0, 0), 0, [])],
  [(.iload 4, (2, 0, 4, 0, 0, 0), 0, []), (.aload_n 0, (1, 0, 0, 0, 0, 0), 0, []), (.getfield 29, (3, 0, 9, 5, 2049, 0), 0, []), (.if_icmp .ge 46, (3, 1, 12, 5, 0, 0), 0, [])],
  [(.aload_n 0, (1, 0, 0, 0, 0, 0), 0, []), (.aload_n 0, (1, 0, 0, 0, 0, 0), 0, []), (.getfield 25, (3, 0, 9, 4, 2048, 1), 0, []), (.iload 4, (2, 0, 4, 0, 0, 0), 0, []), (.aaload, (1, 0, 22, 0, 0, 0), 0, []), (.nop, (0, 1, 6, 0, 0, 0), 0, [])],
  [(.invokevirtual 254, (3, 2, 104, 7, 2, 10), 4022, [])],
  [(.aload_n 0, (1, 0, 0, 0, 0, 0), 0, []), (.getfield 98, (3, 0, 9, 13, 2057, 1), 0, []), (.invokevirtual 177, (3, 2, 10, 8, 1, 3), 3139, [])],
  [(.istore 5, (2, 0, 5, 0, 0, 0), 0, []), (.iload_n 2, (1, 0, 2, 0, 0, 0), 0, []), (.iconst (-1), (1, 0, 0, 0, 0, 0), (-1), []), (.if_icmp .eq 9, (3, 1, 10, 9, 0, 0), 0, [])],
  [(.iload 5, (2, 0, 5, 0, 0, 0), 0, []), (.iload_n 3, (1, 0, 3, 0, 0, 0), 0, []), (.if_icmp .ge 9, (3, 1, 11, 10, 0, 0), 0, [])],
  [(.iload 4, (2, 0, 4, 0, 0, 0), 0, []), (.istore_n 2, (1, 0, 2, 0, 0, 0), 0, []), (.iload 5, (2, 0, 5, 0, 0, 0), 0, []), (.istore_n 3, (1, 0, 3, 0, 0, 0), 0, []), (.nop, (0, 1, 11, 0, 0, 0), 0, [])],
  [(.iinc 4 1, (3, 0, 4, 0, 0, 0), 1, []), (.goto (-49), (3, 1, 4, 0, 0, 0), 0, [])],
  [(.iload_n 1, (1, 0, 1, 0, 0, 0), 0, []), (.ifCond .ne 7, (3, 1, 14, 13, 0, 0), 0, [])],
  [(.iload_n 2, (1, 0, 2, 0, 0, 0), 0, []), (.goto 4, (3, 1, 15, 0, 0, 0), 0, [])],
  [(.iload_n 3, (1, 0, 3, 0, 0, 0), 0, []), (.nop, (0, 1, 15, 0, 0, 0), 0, [])],
  [(.ireturn, (1, 3, 0, 0, 0, 0), 0, [])]]
/-- EvenlyPoured.pourBy(LEvenlyPoured$Pourer;)V -/
noncomputable def bk_104 : List (List am_P) := [[(.aload_n 0, (1, 0, 0, 0, 0, 0), 0, []), (.getfield 98, (3, 0, 9, 13, 2057, 1), 0, []), (.aload_n 0, (1, 0, 0, 0, 0, 0), 0, []), (.getfield 34, (3, 0, 9, 6, 2050, 1), 0, []), (.aload_n 0, (1, 0, 0, 0, 0, 0), 0, []), (.getfield 41, (3, 0, 9, 8, 2052, 0), 0, []), (.aaload, (1, 0, 23, 0, 0, 0), 0, []), (.nop, (0, 1, 1, 0, 0, 0), 0, [])],
  [(.aload_n 0, (1, 0, 0, 0, 0, 0), 0, []), (.getfield 7, (3, 0, 9, 0, 2044, 0), 0, []), (.aload_n 0, (1, 0, 0, 0, 0, 0), 0, []), (.getfield 13, (3, 0, 9, 1, 2045, 0), 0, []), (.invokevirtual 230, (3, 2, 8, 2, 4, 3), 3084, [])],
  [(.iconst 0, (1, 0, 0, 0, 0, 0), 0, []), (.istore_n 2, (1, 0, 2, 0, 0, 0), 0, []), (.nop, (0, 1, 3, 0, 0, 0), 0, [])],
  [(.iload_n 2, (1, 0, 2, 0, 0, 0), 0, []), (.aload_n 0, (1, 0, 0, 0, 0, 0), 0, []), (.getfield 13, (3, 0, 9, 1, 2045, 0), 0, []), (.if_icmp .ge 43, (3, 1, 7, 4, 0, 0), 0, [])],
  [(.aload_n 1, (1, 0, 1, 0, 0, 0), 0, []), (.iload_n 2, (1, 0, 2, 0, 0, 0), 0, []), (.aload_n 0, (1, 0, 0, 0, 0, 0), 0, []), (.getfield 7, (3, 0, 9, 0, 2044, 0), 0, []), (.aload_n 0, (1, 0, 0, 0, 0, 0), 0, []), (.getfield 98, (3, 0, 9, 13, 2057, 1), 0, []), (.getfield 171, (3, 0, 2, 2, 1195, 1), 0, []), (.invokevirtual 258, (3, 2, 3, 5, 4, 2), 4026, [])],
  [(.istore_n 3, (1, 0, 3, 0, 0, 0), 0, []), (.aload_n 0, (1, 0, 0, 0, 0, 0), 0, []), (.getfield 73, (3, 0, 9, 15, 2059, 1), 0, []), (.iload_n 2, (1, 0, 2, 0, 0, 0), 0, []), (.iload_n 3, (1, 0, 3, 0, 0, 0), 0, []), (.iastore, (1, 0, 0, 0, 0, 0), 0, []), (.aload_n 0, (1, 0, 0, 0, 0, 0), 0, []), (.getfield 98, (3, 0, 9, 13, 2057, 1), 0, []), (.iload_n 2, (1, 0, 2, 0, 0, 0), 0, []), (.iload_n 3, (1, 0, 3, 0, 0, 0), 0, []), (.iconst 0, (1, 0, 0, 0, 0, 0), 0, []), (.invokevirtual 234, (3, 2, 9, 6, 4, 3), 3093, [])],
  [(.iinc 2 1, (3, 0, 2, 0, 0, 0), 1, []), (.goto (-45), (3, 1, 3, 0, 0, 0), 0, [])],
  [(.return_, (1, 3, 0, 0, 0, 0), 0, [])]]
/-- EvenlyPoured.captains(I)I -/
noncomputable def bk_105 : List (List am_P) := [[(.iload_n 1, (1, 0, 1, 0, 0, 0), 0, []), (.iconst (-1), (1, 0, 0, 0, 0, 0), (-1), []), (.if_icmp .eq 14, (3, 1, 4, 1, 0, 0), 0, [])],
  [(.aload_n 0, (1, 0, 0, 0, 0, 0), 0, []), (.iload_n 1, (1, 0, 1, 0, 0, 0), 0, []), (.invokevirtual 145, (3, 2, 76, 2, 2, 10), 2141, [])],
  [(.ifCond .ne 6, (3, 1, 4, 3, 0, 0), 0, [])],
  [(.bipush (-2), (2, 0, 0, 0, 0, 0), (-2), []), (.ireturn, (1, 3, 0, 0, 0, 0), 0, [])],
  [(.aload_n 0, (1, 0, 0, 0, 0, 0), 0, []), (.getfield 76, (3, 0, 9, 16, 2060, 1), 0, []), (.iconst 0, (1, 0, 0, 0, 0, 0), 0, []), (.invokestatic 123, (3, 2, 214, 5, 2, 0), 2107, [])],
  [(.iconst 0, (1, 0, 0, 0, 0, 0), 0, []), (.istore_n 2, (1, 0, 2, 0, 0, 0), 0, []), (.nop, (0, 1, 6, 0, 0, 0), 0, [])],
  [(.iload_n 2, (1, 0, 2, 0, 0, 0), 0, []), (.bipush 8, (2, 0, 0, 0, 0, 0), 8, []), (.if_icmp .ge 16, (3, 1, 8, 7, 0, 0), 0, [])],
  [(.aload_n 0, (1, 0, 0, 0, 0, 0), 0, []), (.getfield 79, (3, 0, 9, 17, 2061, 1), 0, []), (.iload_n 2, (1, 0, 2, 0, 0, 0), 0, []), (.iconst 0, (1, 0, 0, 0, 0, 0), 0, []), (.bastore, (1, 0, 0, 0, 0, 0), 0, []), (.iinc 2 1, (3, 0, 2, 0, 0, 0), 1, []), (.goto (-16), (3, 1, 6, 0, 0, 0), 0, [])],
  [(.iconst 0, (1, 0, 0, 0, 0, 0), 0, []), (.istore_n 2, (1, 0, 2, 0, 0, 0), 0, []), (.nop, (0, 1, 9, 0, 0, 0), 0, [])],
  [(.iload_n 2, (1, 0, 2, 0, 0, 0), 0, []), (.aload_n 0, (1, 0, 0, 0, 0, 0), 0, []), (.getfield 13, (3, 0, 9, 1, 2045, 0), 0, []), (.if_icmp .ge 46, (3, 1, 14, 10, 0, 0), 0, [])],
  [(.aload_n 0, (1, 0, 0, 0, 0, 0), 0, []), (.invokevirtual 262, (3, 2, 106, 11, 1, 10), 4052, [])],
  [(.istore_n 3, (1, 0, 3, 0, 0, 0), 0, []), (.iload_n 3, (1, 0, 3, 0, 0, 0), 0, []), (.iconst (-1), (1, 0, 0, 0, 0, 0), (-1), []), (.if_icmp .eq 30, (3, 1, 13, 12, 0, 0), 0, [])],
  [(.aload_n 0, (1, 0, 0, 0, 0, 0), 0, []), (.getfield 79, (3, 0, 9, 17, 2061, 1), 0, []), (.iload_n 3, (1, 0, 3, 0, 0, 0), 0, []), (.iconst 1, (1, 0, 0, 0, 0, 0), 1, []), (.bastore, (1, 0, 0, 0, 0, 0), 0, []), (.aload_n 0, (1, 0, 0, 0, 0, 0), 0, []), (.getfield 76, (3, 0, 9, 16, 2060, 1), 0, []), (.aload_n 0, (1, 0, 0, 0, 0, 0), 0, []), (.getfield 16, (3, 0, 9, 2, 2046, 1), 0, []), (.iload_n 2, (1, 0, 2, 0, 0, 0), 0, []), (.iaload, (1, 0, 0, 0, 0, 0), 0, []), (.dup2, (1, 0, 0, 0, 0, 0), 0, []), (.iaload, (1, 0, 0, 0, 0, 0), 0, []), (.aload_n 0, (1, 0, 0, 0, 0, 0), 0, []), (.getfield 20, (3, 0, 9, 3, 2047, 1), 0, []), (.iload_n 3, (1, 0, 3, 0, 0, 0), 0, []), (.iaload, (1, 0, 0, 0, 0, 0), 0, []), (.iadd, (1, 0, 0, 0, 0, 0), 0, []), (.iastore, (1, 0, 0, 0, 0, 0), 0, []), (.nop, (0, 1, 13, 0, 0, 0), 0, [])],
  [(.iinc 2 1, (3, 0, 2, 0, 0, 0), 1, []), (.goto (-48), (3, 1, 9, 0, 0, 0), 0, [])],
  [(.iload_n 1, (1, 0, 1, 0, 0, 0), 0, []), (.iconst (-1), (1, 0, 0, 0, 0, 0), (-1), []), (.if_icmp .ne 17, (3, 1, 17, 15, 0, 0), 0, [])],
  [(.aload_n 0, (1, 0, 0, 0, 0, 0), 0, []), (.getfield 76, (3, 0, 9, 16, 2060, 1), 0, []), (.aload_n 0, (1, 0, 0, 0, 0, 0), 0, []), (.getfield 7, (3, 0, 9, 0, 2044, 0), 0, []), (.invokestatic 265, (3, 2, 107, 16, 2, 0), 4056, [])],
  [(.goto 9, (3, 1, 18, 0, 0, 0), 0, [])],
  [(.aload_n 0, (1, 0, 0, 0, 0, 0), 0, []), (.getfield 76, (3, 0, 9, 16, 2060, 1), 0, []), (.iload_n 1, (1, 0, 1, 0, 0, 0), 0, []), (.iaload, (1, 0, 0, 0, 0, 0), 0, []), (.nop, (0, 1, 18, 0, 0, 0), 0, [])],
  [(.ireturn, (1, 3, 0, 0, 0, 0), 0, [])]]
/-- EvenlyPoured.dearestLeft()I -/
noncomputable def bk_106 : List (List am_P) := [[(.iconst (-1), (1, 0, 0, 0, 0, 0), (-1), []), (.istore_n 1, (1, 0, 1, 0, 0, 0), 0, []), (.iconst 0, (1, 0, 0, 0, 0, 0), 0, []), (.istore_n 2, (1, 0, 2, 0, 0, 0), 0, []), (.nop, (0, 1, 1, 0, 0, 0), 0, [])],
  [(.iload_n 2, (1, 0, 2, 0, 0, 0), 0, []), (.bipush 8, (2, 0, 0, 0, 0, 0), 8, []), (.if_icmp .ge 40, (3, 1, 7, 2, 0, 0), 0, [])],
  [(.aload_n 0, (1, 0, 0, 0, 0, 0), 0, []), (.getfield 79, (3, 0, 9, 17, 2061, 1), 0, []), (.iload_n 2, (1, 0, 2, 0, 0, 0), 0, []), (.baload, (1, 0, 21, 0, 0, 0), 0, []), (.ifCond .ne 25, (3, 1, 6, 3, 0, 0), 0, [])],
  [(.iload_n 1, (1, 0, 1, 0, 0, 0), 0, []), (.iconst (-1), (1, 0, 0, 0, 0, 0), (-1), []), (.if_icmp .eq 18, (3, 1, 5, 4, 0, 0), 0, [])],
  [(.aload_n 0, (1, 0, 0, 0, 0, 0), 0, []), (.getfield 20, (3, 0, 9, 3, 2047, 1), 0, []), (.iload_n 2, (1, 0, 2, 0, 0, 0), 0, []), (.iaload, (1, 0, 0, 0, 0, 0), 0, []), (.aload_n 0, (1, 0, 0, 0, 0, 0), 0, []), (.getfield 20, (3, 0, 9, 3, 2047, 1), 0, []), (.iload_n 1, (1, 0, 1, 0, 0, 0), 0, []), (.iaload, (1, 0, 0, 0, 0, 0), 0, []), (.if_icmp .le 5, (3, 1, 6, 5, 0, 0), 0, [])],
  [(.iload_n 2, (1, 0, 2, 0, 0, 0), 0, []), (.istore_n 1, (1, 0, 1, 0, 0, 0), 0, []), (.nop, (0, 1, 6, 0, 0, 0), 0, [])],
  [(.iinc 2 1, (3, 0, 2, 0, 0, 0), 1, []), (.goto (-40), (3, 1, 1, 0, 0, 0), 0, [])],
  [(.iload_n 1, (1, 0, 1, 0, 0, 0), 0, []), (.ireturn, (1, 3, 0, 0, 0, 0), 0, [])]]
/-- EvenlyPoured.mostLessLeast([II)I -/
noncomputable def bk_107 : List (List am_P) := [[(.aload_n 0, (1, 0, 0, 0, 0, 0), 0, []), (.iconst 0, (1, 0, 0, 0, 0, 0), 0, []), (.iaload, (1, 0, 0, 0, 0, 0), 0, []), (.istore_n 2, (1, 0, 2, 0, 0, 0), 0, []), (.aload_n 0, (1, 0, 0, 0, 0, 0), 0, []), (.iconst 0, (1, 0, 0, 0, 0, 0), 0, []), (.iaload, (1, 0, 0, 0, 0, 0), 0, []), (.istore_n 3, (1, 0, 3, 0, 0, 0), 0, []), (.iconst 1, (1, 0, 0, 0, 0, 0), 1, []), (.istore 4, (2, 0, 4, 0, 0, 0), 0, []), (.nop, (0, 1, 1, 0, 0, 0), 0, [])],
  [(.iload 4, (2, 0, 4, 0, 0, 0), 0, []), (.iload_n 1, (1, 0, 1, 0, 0, 0), 0, []), (.if_icmp .ge 27, (3, 1, 3, 2, 0, 0), 0, [])],
  [(.iload_n 2, (1, 0, 2, 0, 0, 0), 0, []), (.aload_n 0, (1, 0, 0, 0, 0, 0), 0, []), (.iload 4, (2, 0, 4, 0, 0, 0), 0, []), (.iaload, (1, 0, 0, 0, 0, 0), 0, []), (.invokestatic 269, (3, 0, 0, 0, 3146, 1), 0, []), (.istore_n 2, (1, 0, 2, 0, 0, 0), 0, []), (.iload_n 3, (1, 0, 3, 0, 0, 0), 0, []), (.aload_n 0, (1, 0, 0, 0, 0, 0), 0, []), (.iload 4, (2, 0, 4, 0, 0, 0), 0, []), (.iaload, (1, 0, 0, 0, 0, 0), 0, []), (.invokestatic 274, (3, 0, 0, 0, 3147, 2), 0, []), (.istore_n 3, (1, 0, 3, 0, 0, 0), 0, []), (.iinc 4 1, (3, 0, 4, 0, 0, 0), 1, []), (.goto (-27), (3, 1, 1, 0, 0, 0), 0, [])],
  [(.iload_n 2, (1, 0, 2, 0, 0, 0), 0, []), (.iload_n 3, (1, 0, 3, 0, 0, 0), 0, []), (.isub, (1, 0, 0, 0, 0, 0), 0, []), (.ireturn, (1, 3, 0, 0, 0, 0), 0, [])]]
/-- EvenlyPoured.tastes(II)I -/
noncomputable def bk_108 : List (List am_P) := [[(.iload_n 1, (1, 0, 1, 0, 0, 0), 0, []), (.invokestatic 277, (3, 2, 125, 1, 1, 0), 4061, [])],
  [(.ifCond .eq 12, (3, 1, 4, 2, 0, 0), 0, [])],
  [(.iload_n 2, (1, 0, 2, 0, 0, 0), 0, []), (.ifCond .lt 8, (3, 1, 4, 3, 0, 0), 0, [])],
  [(.iload_n 2, (1, 0, 2, 0, 0, 0), 0, []), (.iconst 1, (1, 0, 0, 0, 0, 0), 1, []), (.if_icmp .le 6, (3, 1, 5, 4, 0, 0), 0, [])],
  [(.bipush (-2), (2, 0, 0, 0, 0, 0), (-2), []), (.ireturn, (1, 3, 0, 0, 0, 0), 0, [])],
  [(.aload_n 0, (1, 0, 0, 0, 0, 0), 0, []), (.iload_n 1, (1, 0, 1, 0, 0, 0), 0, []), (.invokevirtual 280, (3, 2, 111, 6, 2, 10), 4064, [])],
  [(.istore_n 3, (1, 0, 3, 0, 0, 0), 0, []), (.iload_n 3, (1, 0, 3, 0, 0, 0), 0, []), (.ifCond .eq 5, (3, 1, 8, 7, 0, 0), 0, [])],
  [(.iload_n 3, (1, 0, 3, 0, 0, 0), 0, []), (.ireturn, (1, 3, 0, 0, 0, 0), 0, [])],
  [(.aload_n 0, (1, 0, 0, 0, 0, 0), 0, []), (.getfield 13, (3, 0, 9, 1, 2045, 0), 0, []), (.bipush 9, (2, 0, 0, 0, 0, 0), 9, []), (.if_icmp .gt 10, (3, 1, 11, 9, 0, 0), 0, [])],
  [(.aload_n 0, (1, 0, 0, 0, 0, 0), 0, []), (.invokevirtual 201, (3, 2, 97, 10, 1, 10), 3183, [])],
  [(.ifCond .ne 6, (3, 1, 12, 11, 0, 0), 0, [])],
  [(.bipush (-3), (2, 0, 0, 0, 0, 0), (-3), []), (.ireturn, (1, 3, 0, 0, 0, 0), 0, [])],
  [(.aload_n 0, (1, 0, 0, 0, 0, 0), 0, []), (.getfield 105, (3, 0, 9, 14, 2058, 1), 0, []), (.aload_n 0, (1, 0, 0, 0, 0, 0), 0, []), (.getfield 41, (3, 0, 9, 8, 2052, 0), 0, []), (.aload_n 0, (1, 0, 0, 0, 0, 0), 0, []), (.getfield 34, (3, 0, 9, 6, 2050, 1), 0, []), (.aload_n 0, (1, 0, 0, 0, 0, 0), 0, []), (.getfield 41, (3, 0, 9, 8, 2052, 0), 0, []), (.aaload, (1, 0, 23, 0, 0, 0), 0, []), (.nop, (0, 1, 13, 0, 0, 0), 0, [])],
  [(.aload_n 0, (1, 0, 0, 0, 0, 0), 0, []), (.getfield 7, (3, 0, 9, 0, 2044, 0), 0, []), (.aload_n 0, (1, 0, 0, 0, 0, 0), 0, []), (.getfield 13, (3, 0, 9, 1, 2045, 0), 0, []), (.invokevirtual 249, (3, 2, 26, 14, 5, 5), 3192, [])],
  [(.aload_n 0, (1, 0, 0, 0, 0, 0), 0, []), (.getfield 105, (3, 0, 9, 14, 2058, 1), 0, []), (.aload_n 0, (1, 0, 0, 0, 0, 0), 0, []), (.getfield 62, (3, 0, 9, 11, 2055, 1), 0, []), (.iload_n 1, (1, 0, 1, 0, 0, 0), 0, []), (.aaload, (1, 0, 24, 0, 0, 0), 0, []), (.nop, (0, 1, 15, 0, 0, 0), 0, [])],
  [(.getfield 283, (3, 0, 5, 2, 1161, 1), 0, []), (.nop, (0, 1, 16, 0, 0, 0), 0, [])],
  [(.invokevirtual 286, (3, 2, 36, 17, 2, 5), 4072, [])],
  [(.iload_n 2, (1, 0, 2, 0, 0, 0), 0, []), (.ifCond .ne 13, (3, 1, 19, 18, 0, 0), 0, [])],
  [(.aload_n 0, (1, 0, 0, 0, 0, 0), 0, []), (.getfield 105, (3, 0, 9, 14, 2058, 1), 0, []), (.getfield 290, (3, 0, 4, 15, 2006, 0), 0, []), (.goto 10, (3, 1, 20, 0, 0, 0), 0, [])],
  [(.aload_n 0, (1, 0, 0, 0, 0, 0), 0, []), (.getfield 105, (3, 0, 9, 14, 2058, 1), 0, []), (.getfield 293, (3, 0, 4, 16, 2008, 0), 0, []), (.nop, (0, 1, 20, 0, 0, 0), 0, [])],
  [(.ireturn, (1, 3, 0, 0, 0, 0), 0, [])]]
/-- EvenlyPoured.whom(I)I -/
noncomputable def bk_109 : List (List am_P) := [[(.iload_n 1, (1, 0, 1, 0, 0, 0), 0, []), (.invokestatic 277, (3, 2, 125, 1, 1, 0), 4061, [])],
  [(.ifCond .ne 6, (3, 1, 3, 2, 0, 0), 0, [])],
  [(.bipush (-2), (2, 0, 0, 0, 0, 0), (-2), []), (.ireturn, (1, 3, 0, 0, 0, 0), 0, [])],
  [(.aload_n 0, (1, 0, 0, 0, 0, 0), 0, []), (.iload_n 1, (1, 0, 1, 0, 0, 0), 0, []), (.invokevirtual 280, (3, 2, 111, 4, 2, 10), 4064, [])],
  [(.istore_n 2, (1, 0, 2, 0, 0, 0), 0, []), (.iload_n 2, (1, 0, 2, 0, 0, 0), 0, []), (.ifCond .eq 5, (3, 1, 6, 5, 0, 0), 0, [])],
  [(.iload_n 2, (1, 0, 2, 0, 0, 0), 0, []), (.ireturn, (1, 3, 0, 0, 0, 0), 0, [])],
  [(.iconst 0, (1, 0, 0, 0, 0, 0), 0, []), (.istore_n 3, (1, 0, 3, 0, 0, 0), 0, []), (.iconst 0, (1, 0, 0, 0, 0, 0), 0, []), (.istore 4, (2, 0, 4, 0, 0, 0), 0, []), (.nop, (0, 1, 7, 0, 0, 0), 0, [])],
  [(.iload 4, (2, 0, 4, 0, 0, 0), 0, []), (.aload_n 0, (1, 0, 0, 0, 0, 0), 0, []), (.getfield 29, (3, 0, 9, 5, 2049, 0), 0, []), (.if_icmp .ge 44, (3, 1, 16, 8, 0, 0), 0, [])],
  [(.aload_n 0, (1, 0, 0, 0, 0, 0), 0, []), (.aload_n 0, (1, 0, 0, 0, 0, 0), 0, []), (.getfield 25, (3, 0, 9, 4, 2048, 1), 0, []), (.iload 4, (2, 0, 4, 0, 0, 0), 0, []), (.aaload, (1, 0, 22, 0, 0, 0), 0, []), (.nop, (0, 1, 9, 0, 0, 0), 0, [])],
  [(.invokevirtual 254, (3, 2, 104, 10, 2, 10), 4022, [])],
  [(.aload_n 0, (1, 0, 0, 0, 0, 0), 0, []), (.aload_n 0, (1, 0, 0, 0, 0, 0), 0, []), (.getfield 62, (3, 0, 9, 11, 2055, 1), 0, []), (.iload_n 1, (1, 0, 1, 0, 0, 0), 0, []), (.aaload, (1, 0, 24, 0, 0, 0), 0, []), (.nop, (0, 1, 11, 0, 0, 0), 0, [])],
  [(.getfield 283, (3, 0, 5, 2, 1161, 1), 0, []), (.nop, (0, 1, 12, 0, 0, 0), 0, [])],
  [(.iconst (-1), (1, 0, 0, 0, 0, 0), (-1), []), (.invokevirtual 296, (3, 2, 112, 13, 3, 10), 4088, [])],
  [(.ifCond .eq 10, (3, 1, 15, 14, 0, 0), 0, [])],
  [(.iload_n 3, (1, 0, 3, 0, 0, 0), 0, []), (.iconst 1, (1, 0, 0, 0, 0, 0), 1, []), (.iload 4, (2, 0, 4, 0, 0, 0), 0, []), (.ishl, (1, 0, 0, 0, 0, 0), 0, []), (.ior, (1, 0, 0, 0, 0, 0), 0, []), (.istore_n 3, (1, 0, 3, 0, 0, 0), 0, []), (.nop, (0, 1, 15, 0, 0, 0), 0, [])],
  [(.iinc 4 1, (3, 0, 4, 0, 0, 0), 1, []), (.goto (-47), (3, 1, 7, 0, 0, 0), 0, [])],
  [(.iload_n 3, (1, 0, 3, 0, 0, 0), 0, []), (.ireturn, (1, 3, 0, 0, 0, 0), 0, [])]]
/-- EvenlyPoured.forgotten(I)I -/
noncomputable def bk_110 : List (List am_P) := [[(.iload_n 1, (1, 0, 1, 0, 0, 0), 0, []), (.invokestatic 277, (3, 2, 125, 1, 1, 0), 4061, [])],
  [(.ifCond .ne 6, (3, 1, 3, 2, 0, 0), 0, [])],
  [(.bipush (-2), (2, 0, 0, 0, 0, 0), (-2), []), (.ireturn, (1, 3, 0, 0, 0, 0), 0, [])],
  [(.aload_n 0, (1, 0, 0, 0, 0, 0), 0, []), (.iload_n 1, (1, 0, 1, 0, 0, 0), 0, []), (.invokevirtual 280, (3, 2, 111, 4, 2, 10), 4064, [])],
  [(.istore_n 2, (1, 0, 2, 0, 0, 0), 0, []), (.iload_n 2, (1, 0, 2, 0, 0, 0), 0, []), (.ifCond .eq 5, (3, 1, 6, 5, 0, 0), 0, [])],
  [(.iload_n 2, (1, 0, 2, 0, 0, 0), 0, []), (.ireturn, (1, 3, 0, 0, 0, 0), 0, [])],
  [(.iconst 0, (1, 0, 0, 0, 0, 0), 0, []), (.istore_n 3, (1, 0, 3, 0, 0, 0), 0, []), (.nop, (0, 1, 7, 0, 0, 0), 0, [])],
  [(.iload_n 3, (1, 0, 3, 0, 0, 0), 0, []), (.aload_n 0, (1, 0, 0, 0, 0, 0), 0, []), (.getfield 7, (3, 0, 9, 0, 2044, 0), 0, []), (.if_icmp .ge 33, (3, 1, 15, 8, 0, 0), 0, [])],
  [(.aload_n 0, (1, 0, 0, 0, 0, 0), 0, []), (.iload_n 3, (1, 0, 3, 0, 0, 0), 0, []), (.invokevirtual 238, (3, 2, 93, 9, 2, 10), 3080, [])],
  [(.aload_n 0, (1, 0, 0, 0, 0, 0), 0, []), (.aload_n 0, (1, 0, 0, 0, 0, 0), 0, []), (.getfield 62, (3, 0, 9, 11, 2055, 1), 0, []), (.iload_n 1, (1, 0, 1, 0, 0, 0), 0, []), (.aaload, (1, 0, 24, 0, 0, 0), 0, []), (.nop, (0, 1, 10, 0, 0, 0), 0, [])],
  [(.getfield 283, (3, 0, 5, 2, 1161, 1), 0, []), (.nop, (0, 1, 11, 0, 0, 0), 0, [])],
  [(.iload_n 3, (1, 0, 3, 0, 0, 0), 0, []), (.invokevirtual 296, (3, 2, 112, 12, 3, 10), 4088, [])],
  [(.ifCond .eq 5, (3, 1, 14, 13, 0, 0), 0, [])],
  [(.iload_n 3, (1, 0, 3, 0, 0, 0), 0, []), (.ireturn, (1, 3, 0, 0, 0, 0), 0, [])],
  [(.iinc 3 1, (3, 0, 3, 0, 0, 0), 1, []), (.goto (-35), (3, 1, 7, 0, 0, 0), 0, [])],
  [(.iconst (-1), (1, 0, 0, 0, 0, 0), (-1), []), (.ireturn, (1, 3, 0, 0, 0, 0), 0, [])]]
/-- EvenlyPoured.notTasted(I)I -/
noncomputable def bk_111 : List (List am_P) := [[(.aload_n 0, (1, 0, 0, 0, 0, 0), 0, []), (.getfield 62, (3, 0, 9, 11, 2055, 1), 0, []), (.iload_n 1, (1, 0, 1, 0, 0, 0), 0, []), (.aaload, (1, 0, 24, 0, 0, 0), 0, []), (.nop, (0, 1, 1, 0, 0, 0), 0, [])],
  [(.invokevirtual 300, (3, 2, 41, 2, 1, 6), 4068, [])],
  [(.ifCond .eq 6, (3, 1, 4, 3, 0, 0), 0, [])],
  [(.bipush (-11), (2, 0, 0, 0, 0, 0), (-11), []), (.ireturn, (1, 3, 0, 0, 0, 0), 0, [])],
  [(.aload_n 0, (1, 0, 0, 0, 0, 0), 0, []), (.getfield 62, (3, 0, 9, 11, 2055, 1), 0, []), (.iload_n 1, (1, 0, 1, 0, 0, 0), 0, []), (.aaload, (1, 0, 24, 0, 0, 0), 0, []), (.nop, (0, 1, 5, 0, 0, 0), 0, [])],
  [(.getfield 303, (3, 0, 5, 1, 1159, 0), 0, []), (.aload_n 0, (1, 0, 0, 0, 0, 0), 0, []), (.getfield 7, (3, 0, 9, 0, 2044, 0), 0, []), (.if_icmp .ne 7, (3, 1, 7, 6, 0, 0), 0, [])],
  [(.iconst 0, (1, 0, 0, 0, 0, 0), 0, []), (.goto 5, (3, 1, 8, 0, 0, 0), 0, [])],
  [(.bipush (-2), (2, 0, 0, 0, 0, 0), (-2), []), (.nop, (0, 1, 8, 0, 0, 0), 0, [])],
  [(.ireturn, (1, 3, 0, 0, 0, 0), 0, [])]]
/-- EvenlyPoured.tastesAsTold([II)Z -/
noncomputable def bk_112 : List (List am_P) := [[(.iconst 0, (1, 0, 0, 0, 0, 0), 0, []), (.istore_n 3, (1, 0, 3, 0, 0, 0), 0, []), (.nop, (0, 1, 1, 0, 0, 0), 0, [])],
  [(.iload_n 3, (1, 0, 3, 0, 0, 0), 0, []), (.aload_n 0, (1, 0, 0, 0, 0, 0), 0, []), (.getfield 7, (3, 0, 9, 0, 2044, 0), 0, []), (.if_icmp .ge 31, (3, 1, 6, 2, 0, 0), 0, [])],
  [(.iload_n 3, (1, 0, 3, 0, 0, 0), 0, []), (.iload_n 2, (1, 0, 2, 0, 0, 0), 0, []), (.if_icmp .eq 20, (3, 1, 5, 3, 0, 0), 0, [])],
  [(.aload_n 0, (1, 0, 0, 0, 0, 0), 0, []), (.getfield 98, (3, 0, 9, 13, 2057, 1), 0, []), (.getfield 171, (3, 0, 2, 2, 1195, 1), 0, []), (.iload_n 3, (1, 0, 3, 0, 0, 0), 0, []), (.iaload, (1, 0, 0, 0, 0, 0), 0, []), (.aload_n 1, (1, 0, 1, 0, 0, 0), 0, []), (.iload_n 3, (1, 0, 3, 0, 0, 0), 0, []), (.iaload, (1, 0, 0, 0, 0, 0), 0, []), (.if_icmp .eq 5, (3, 1, 5, 4, 0, 0), 0, [])],
  [(.iconst 0, (1, 0, 0, 0, 0, 0), 0, []), (.ireturn, (1, 3, 0, 0, 0, 1), 0, [])],
  [(.iinc 3 1, (3, 0, 3, 0, 0, 0), 1, []), (.goto (-33), (3, 1, 1, 0, 0, 0), 0, [])],
  [(.iconst 1, (1, 0, 0, 0, 0, 0), 1, []), (.ireturn, (1, 3, 0, 0, 0, 1), 0, [])]]
/-- EvenlyPoured.drawn(II)I -/
noncomputable def bk_113 : List (List am_P) := [[(.iload_n 2, (1, 0, 2, 0, 0, 0), 0, []), (.invokestatic 304, (3, 2, 115, 1, 1, 0), 4100, [])],
  [(.ifCond .eq 12, (3, 1, 4, 2, 0, 0), 0, [])],
  [(.aload_n 0, (1, 0, 0, 0, 0, 0), 0, []), (.iload_n 1, (1, 0, 1, 0, 0, 0), 0, []), (.iload_n 2, (1, 0, 2, 0, 0, 0), 0, []), (.invokevirtual 307, (3, 2, 116, 3, 3, 10), 4103, [])],
  [(.goto 5, (3, 1, 5, 0, 0, 0), 0, [])],
  [(.bipush (-2), (2, 0, 0, 0, 0, 0), (-2), []), (.nop, (0, 1, 5, 0, 0, 0), 0, [])],
  [(.ireturn, (1, 3, 0, 0, 0, 0), 0, [])]]
/-- EvenlyPoured.chance(IIII)J -/
noncomputable def bk_114 : List (List am_P) := [[(.iload_n 2, (1, 0, 2, 0, 0, 0), 0, []), (.iconst 1, (1, 0, 0, 0, 0, 0), 1, []), (.if_icmp .lt 24, (3, 1, 6, 1, 0, 0), 0, [])],
  [(.iload_n 2, (1, 0, 2, 0, 0, 0), 0, []), (.bipush 20, (2, 0, 0, 0, 0, 0), 20, []), (.if_icmp .gt 18, (3, 1, 6, 2, 0, 0), 0, [])],
  [(.iload_n 3, (1, 0, 3, 0, 0, 0), 0, []), (.invokestatic 304, (3, 2, 115, 3, 1, 0), 4100, [])],
  [(.ifCond .eq 11, (3, 1, 6, 4, 0, 0), 0, [])],
  [(.iload 4, (2, 0, 4, 0, 0, 0), 0, []), (.invokestatic 192, (3, 2, 99, 5, 1, 0), 3172, [])],
  [(.ifCond .ne 7, (3, 1, 7, 6, 0, 0), 0, [])],
  [(.ldc2_w 195, (3, 0, 100000, 0, 3175, 0), 0, []), (.lreturn, (1, 3, 0, 0, 0, 0), 0, [])],
  [(.lconst 0, (1, 0, 0, 0, 0, 0), 0, []), (.lstore 5, (2, 0, 5, 0, 0, 0), 0, []), (.iconst 0, (1, 0, 0, 0, 0, 0), 0, []), (.istore 7, (2, 0, 7, 0, 0, 0), 0, []), (.nop, (0, 1, 8, 0, 0, 0), 0, [])],
  [(.iload 7, (2, 0, 7, 0, 0, 0), 0, []), (.iload_n 2, (1, 0, 2, 0, 0, 0), 0, []), (.if_icmp .ge 24, (3, 1, 11, 9, 0, 0), 0, [])],
  [(.lload 5, (2, 0, 5, 0, 0, 0), 0, []), (.aload_n 0, (1, 0, 0, 0, 0, 0), 0, []), (.iload_n 1, (1, 0, 1, 0, 0, 0), 0, []), (.iload 7, (2, 0, 7, 0, 0, 0), 0, []), (.iadd, (1, 0, 0, 0, 0, 0), 0, []), (.iload_n 3, (1, 0, 3, 0, 0, 0), 0, []), (.invokevirtual 307, (3, 2, 116, 10, 3, 10), 4103, [])],
  [(.i2l, (1, 0, 0, 0, 0, 0), 0, []), (.ladd, (1, 0, 0, 0, 0, 0), 0, []), (.lstore 5, (2, 0, 5, 0, 0, 0), 0, []), (.iinc 7 1, (3, 0, 7, 0, 0, 0), 1, []), (.goto (-24), (3, 1, 8, 0, 0, 0), 0, [])],
  [(.lload 5, (2, 0, 5, 0, 0, 0), 0, []), (.iload_n 2, (1, 0, 2, 0, 0, 0), 0, []), (.i2l, (1, 0, 0, 0, 0, 0), 0, []), (.iload 4, (2, 0, 4, 0, 0, 0), 0, []), (.invokestatic 197, (3, 2, 100, 12, 3, 0), 3176, [])],
  [(.lreturn, (1, 3, 0, 0, 0, 0), 0, [])]]
/-- EvenlyPoured.isOff(I)Z -/
noncomputable def bk_115 : List (List am_P) := [[(.iload_n 0, (1, 0, 0, 0, 0, 0), 0, []), (.ifCond .lt 13, (3, 1, 3, 1, 0, 0), 0, [])],
  [(.iload_n 0, (1, 0, 0, 0, 0, 0), 0, []), (.bipush 20, (2, 0, 0, 0, 0, 0), 20, []), (.if_icmp .gt 7, (3, 1, 3, 2, 0, 0), 0, [])],
  [(.iconst 1, (1, 0, 0, 0, 0, 0), 1, []), (.goto 4, (3, 1, 4, 0, 0, 0), 0, [])],
  [(.iconst 0, (1, 0, 0, 0, 0, 0), 0, []), (.nop, (0, 1, 4, 0, 0, 0), 0, [])],
  [(.ireturn, (1, 3, 0, 0, 0, 1), 0, [])]]
/-- EvenlyPoured.unevenByLot(II)I -/
noncomputable def bk_116 : List (List am_P) := [[(.iload_n 1, (1, 0, 1, 0, 0, 0), 0, []), (.istore_n 3, (1, 0, 3, 0, 0, 0), 0, []), (.aload_n 0, (1, 0, 0, 0, 0, 0), 0, []), (.getfield 98, (3, 0, 9, 13, 2057, 1), 0, []), (.aload_n 0, (1, 0, 0, 0, 0, 0), 0, []), (.getfield 34, (3, 0, 9, 6, 2050, 1), 0, []), (.aload_n 0, (1, 0, 0, 0, 0, 0), 0, []), (.getfield 41, (3, 0, 9, 8, 2052, 0), 0, []), (.aaload, (1, 0, 23, 0, 0, 0), 0, []), (.nop, (0, 1, 1, 0, 0, 0), 0, [])],
  [(.aload_n 0, (1, 0, 0, 0, 0, 0), 0, []), (.getfield 7, (3, 0, 9, 0, 2044, 0), 0, []), (.aload_n 0, (1, 0, 0, 0, 0, 0), 0, []), (.getfield 13, (3, 0, 9, 1, 2045, 0), 0, []), (.invokevirtual 230, (3, 2, 8, 2, 4, 3), 3084, [])],
  [(.iconst 0, (1, 0, 0, 0, 0, 0), 0, []), (.istore 4, (2, 0, 4, 0, 0, 0), 0, []), (.nop, (0, 1, 3, 0, 0, 0), 0, [])],
  [(.iload 4, (2, 0, 4, 0, 0, 0), 0, []), (.aload_n 0, (1, 0, 0, 0, 0, 0), 0, []), (.getfield 13, (3, 0, 9, 1, 2045, 0), 0, []), (.if_icmp .ge 43, (3, 1, 6, 4, 0, 0), 0, [])],
  [(.iload_n 3, (1, 0, 3, 0, 0, 0), 0, []), (.ldc_w 310, (3, 0, 0, 0, 4107, 0), 1103515245, []), (.imul, (1, 0, 0, 0, 0, 0), 0, []), (.sipush 12345, (3, 0, 0, 0, 0, 0), 12345, []), (.iadd, (1, 0, 0, 0, 0, 0), 0, []), (.istore_n 3, (1, 0, 3, 0, 0, 0), 0, []), (.aload_n 0, (1, 0, 0, 0, 0, 0), 0, []), (.getfield 98, (3, 0, 9, 13, 2057, 1), 0, []), (.iload 4, (2, 0, 4, 0, 0, 0), 0, []), (.aload_n 0, (1, 0, 0, 0, 0, 0), 0, []), (.getfield 16, (3, 0, 9, 2, 2046, 1), 0, []), (.iload 4, (2, 0, 4, 0, 0, 0), 0, []), (.iaload, (1, 0, 0, 0, 0, 0), 0, []), (.iload_n 3, (1, 0, 3, 0, 0, 0), 0, []), (.bipush 10, (2, 0, 0, 0, 0, 0), 10, []), (.iushr, (1, 0, 0, 0, 0, 0), 0, []), (.iload_n 2, (1, 0, 2, 0, 0, 0), 0, []), (.iconst 1, (1, 0, 0, 0, 0, 0), 1, []), (.iadd, (1, 0, 0, 0, 0, 0), 0, []), (.irem, (1, 0, 0, 0, 0, 0), 0, []), (.invokevirtual 234, (3, 2, 9, 5, 4, 3), 3093, [])],
  [(.iinc 4 1, (3, 0, 4, 0, 0, 0), 1, []), (.goto (-46), (3, 1, 3, 0, 0, 0), 0, [])],
  [(.aload_n 0, (1, 0, 0, 0, 0, 0), 0, []), (.getfield 98, (3, 0, 9, 13, 2057, 1), 0, []), (.invokevirtual 177, (3, 2, 10, 7, 1, 3), 3139, [])],
  [(.ireturn, (1, 3, 0, 0, 0, 0), 0, [])]]
/-- EvenlyPoured.image()I -/
noncomputable def bk_117 : List (List am_P) := [[(.aload_n 0, (1, 0, 0, 0, 0, 0), 0, []), (.getfield 69, (3, 0, 9, 12, 2056, 1), 0, []), (.iconst 1, (1, 0, 0, 0, 0, 0), 1, []), (.putfield 311, (3, 0, 0, 0, 1090, 3), 0, []), (.aload_n 0, (1, 0, 0, 0, 0, 0), 0, []), (.getfield 69, (3, 0, 9, 12, 2056, 1), 0, []), (.aload_n 0, (1, 0, 0, 0, 0, 0), 0, []), (.getfield 7, (3, 0, 9, 0, 2044, 0), 0, []), (.putfield 315, (3, 0, 0, 1, 1091, 0), 0, []), (.aload_n 0, (1, 0, 0, 0, 0, 0), 0, []), (.getfield 69, (3, 0, 9, 12, 2056, 1), 0, []), (.aload_n 0, (1, 0, 0, 0, 0, 0), 0, []), (.getfield 13, (3, 0, 9, 1, 2045, 0), 0, []), (.putfield 316, (3, 0, 0, 2, 1092, 0), 0, []), (.aload_n 0, (1, 0, 0, 0, 0, 0), 0, []), (.getfield 69, (3, 0, 9, 12, 2056, 1), 0, []), (.aload_n 0, (1, 0, 0, 0, 0, 0), 0, []), (.getfield 29, (3, 0, 9, 5, 2049, 0), 0, []), (.putfield 317, (3, 0, 0, 3, 1093, 0), 0, []), (.aload_n 0, (1, 0, 0, 0, 0, 0), 0, []), (.getfield 69, (3, 0, 9, 12, 2056, 1), 0, []), (.aload_n 0, (1, 0, 0, 0, 0, 0), 0, []), (.getfield 41, (3, 0, 9, 8, 2052, 0), 0, []), (.putfield 319, (3, 0, 0, 4, 1094, 0), 0, []), (.aload_n 0, (1, 0, 0, 0, 0, 0), 0, []), (.getfield 16, (3, 0, 9, 2, 2046, 1), 0, []), (.iconst 0, (1, 0, 0, 0, 0, 0), 0, []), (.aload_n 0, (1, 0, 0, 0, 0, 0), 0, []), (.getfield 69, (3, 0, 9, 12, 2056, 1), 0, []), (.getfield 320, (3, 0, 0, 5, 1096, 1), 0, []), (.iconst 0, (1, 0, 0, 0, 0, 0), 0, []), (.bipush 24, (2, 0, 0, 0, 0, 0), 24, []), (.invokestatic 217, (3, 0, 0, 0, 4000, 0), 0, []), (.aload_n 0, (1, 0, 0, 0, 0, 0), 0, []), (.getfield 20, (3, 0, 9, 3, 2047, 1), 0, []), (.iconst 0, (1, 0, 0, 0, 0, 0), 0, []), (.aload_n 0, (1, 0, 0, 0, 0, 0), 0, []), (.getfield 69, (3, 0, 9, 12, 2056, 1), 0, []), (.getfield 321, (3, 0, 0, 6, 1098, 1), 0, []), (.iconst 0, (1, 0, 0, 0, 0, 0), 0, []), (.bipush 8, (2, 0, 0, 0, 0, 0), 8, []), (.invokestatic 217, (3, 0, 0, 0, 4000, 0), 0, []), (.iconst 0, (1, 0, 0, 0, 0, 0), 0, []), (.istore_n 1, (1, 0, 1, 0, 0, 0), 0, []), (.nop, (0, 1, 1, 0, 0, 0), 0, [])],
  [(.iload_n 1, (1, 0, 1, 0, 0, 0), 0, []), (.aload_n 0, (1, 0, 0, 0, 0, 0), 0, []), (.getfield 29, (3, 0, 9, 5, 2049, 0), 0, []), (.if_icmp .ge 27, (3, 1, 4, 2, 0, 0), 0, [])],
  [(.aload_n 0, (1, 0, 0, 0, 0, 0), 0, []), (.getfield 69, (3, 0, 9, 12, 2056, 1), 0, []), (.getfield 322, (3, 0, 0, 7, 1100, 1), 0, []), (.iload_n 1, (1, 0, 1, 0, 0, 0), 0, []), (.aload_n 0, (1, 0, 0, 0, 0, 0), 0, []), (.getfield 25, (3, 0, 9, 4, 2048, 1), 0, []), (.iload_n 1, (1, 0, 1, 0, 0, 0), 0, []), (.aaload, (1, 0, 22, 0, 0, 0), 0, []), (.nop, (0, 1, 3, 0, 0, 0), 0, [])],
  [(.getfield 133, (3, 0, 1, 1, 1145, 0), 0, []), (.iastore, (1, 0, 0, 0, 0, 0), 0, []), (.iinc 1 1, (3, 0, 1, 0, 0, 0), 1, []), (.goto (-29), (3, 1, 1, 0, 0, 0), 0, [])],
  [(.aload_n 0, (1, 0, 0, 0, 0, 0), 0, []), (.getfield 13, (3, 0, 9, 1, 2045, 0), 0, []), (.ireturn, (1, 3, 0, 0, 0, 0), 0, [])]]
/-- EvenlyPoured.back()I -/
noncomputable def bk_118 : List (List am_P) := [[(.aload_n 0, (1, 0, 0, 0, 0, 0), 0, []), (.getfield 69, (3, 0, 9, 12, 2056, 1), 0, []), (.getfield 311, (3, 0, 0, 0, 1090, 3), 0, []), (.ifCond .ne 6, (3, 1, 2, 1, 0, 0), 0, [])],
  [(.bipush (-3), (2, 0, 0, 0, 0, 0), (-3), []), (.ireturn, (1, 3, 0, 0, 0, 0), 0, [])],
  [(.aload_n 0, (1, 0, 0, 0, 0, 0), 0, []), (.aload_n 0, (1, 0, 0, 0, 0, 0), 0, []), (.getfield 69, (3, 0, 9, 12, 2056, 1), 0, []), (.getfield 315, (3, 0, 0, 1, 1091, 0), 0, []), (.putfield 7, (3, 0, 9, 0, 2044, 0), 0, []), (.aload_n 0, (1, 0, 0, 0, 0, 0), 0, []), (.aload_n 0, (1, 0, 0, 0, 0, 0), 0, []), (.getfield 69, (3, 0, 9, 12, 2056, 1), 0, []), (.getfield 316, (3, 0, 0, 2, 1092, 0), 0, []), (.putfield 13, (3, 0, 9, 1, 2045, 0), 0, []), (.aload_n 0, (1, 0, 0, 0, 0, 0), 0, []), (.aload_n 0, (1, 0, 0, 0, 0, 0), 0, []), (.getfield 69, (3, 0, 9, 12, 2056, 1), 0, []), (.getfield 319, (3, 0, 0, 4, 1094, 0), 0, []), (.putfield 41, (3, 0, 9, 8, 2052, 0), 0, []), (.aload_n 0, (1, 0, 0, 0, 0, 0), 0, []), (.getfield 69, (3, 0, 9, 12, 2056, 1), 0, []), (.getfield 320, (3, 0, 0, 5, 1096, 1), 0, []), (.iconst 0, (1, 0, 0, 0, 0, 0), 0, []), (.aload_n 0, (1, 0, 0, 0, 0, 0), 0, []), (.getfield 16, (3, 0, 9, 2, 2046, 1), 0, []), (.iconst 0, (1, 0, 0, 0, 0, 0), 0, []), (.bipush 24, (2, 0, 0, 0, 0, 0), 24, []), (.invokestatic 217, (3, 0, 0, 0, 4000, 0), 0, []), (.aload_n 0, (1, 0, 0, 0, 0, 0), 0, []), (.getfield 69, (3, 0, 9, 12, 2056, 1), 0, []), (.getfield 321, (3, 0, 0, 6, 1098, 1), 0, []), (.iconst 0, (1, 0, 0, 0, 0, 0), 0, []), (.aload_n 0, (1, 0, 0, 0, 0, 0), 0, []), (.getfield 20, (3, 0, 9, 3, 2047, 1), 0, []), (.iconst 0, (1, 0, 0, 0, 0, 0), 0, []), (.bipush 8, (2, 0, 0, 0, 0, 0), 8, []), (.invokestatic 217, (3, 0, 0, 0, 4000, 0), 0, []), (.aload_n 0, (1, 0, 0, 0, 0, 0), 0, []), (.aload_n 0, (1, 0, 0, 0, 0, 0), 0, []), (.getfield 69, (3, 0, 9, 12, 2056, 1), 0, []), (.getfield 317, (3, 0, 0, 3, 1093, 0), 0, []), (.putfield 29, (3, 0, 9, 5, 2049, 0), 0, []), (.iconst 0, (1, 0, 0, 0, 0, 0), 0, []), (.istore_n 1, (1, 0, 1, 0, 0, 0), 0, []), (.nop, (0, 1, 3, 0, 0, 0), 0, [])],
  [(.iload_n 1, (1, 0, 1, 0, 0, 0), 0, []), (.aload_n 0, (1, 0, 0, 0, 0, 0), 0, []), (.getfield 29, (3, 0, 9, 5, 2049, 0), 0, []), (.if_icmp .ge 27, (3, 1, 6, 4, 0, 0), 0, [])],
  [(.aload_n 0, (1, 0, 0, 0, 0, 0), 0, []), (.getfield 25, (3, 0, 9, 4, 2048, 1), 0, []), (.iload_n 1, (1, 0, 1, 0, 0, 0), 0, []), (.aaload, (1, 0, 22, 0, 0, 0), 0, []), (.nop, (0, 1, 5, 0, 0, 0), 0, [])],
  [(.aload_n 0, (1, 0, 0, 0, 0, 0), 0, []), (.getfield 69, (3, 0, 9, 12, 2056, 1), 0, []), (.getfield 322, (3, 0, 0, 7, 1100, 1), 0, []), (.iload_n 1, (1, 0, 1, 0, 0, 0), 0, []), (.iaload, (1, 0, 0, 0, 0, 0), 0, []), (.putfield 133, (3, 0, 1, 1, 1145, 0), 0, []), (.iinc 1 1, (3, 0, 1, 0, 0, 0), 1, []), (.goto (-29), (3, 1, 3, 0, 0, 0), 0, [])],
  [(.aload_n 0, (1, 0, 0, 0, 0, 0), 0, []), (.getfield 13, (3, 0, 9, 1, 2045, 0), 0, []), (.ireturn, (1, 3, 0, 0, 0, 0), 0, [])]]
/-- EvenlyPoured.count(I)I -/
noncomputable def bk_119 : List (List am_P) := [[(.iload_n 1, (1, 0, 1, 0, 0, 0), 0, []), (.tableswitch 72 0 5 #[39, 44, 49, 54, 59, 67], (39, 1, 0, 7, 0, 0), 0, [(0, 1), (1, 2), (2, 3), (3, 4), (4, 5), (5, 6)])],
  [(.aload_n 0, (1, 0, 0, 0, 0, 0), 0, []), (.getfield 7, (3, 0, 9, 0, 2044, 0), 0, []), (.ireturn, (1, 3, 0, 0, 0, 0), 0, [])],
  [(.aload_n 0, (1, 0, 0, 0, 0, 0), 0, []), (.getfield 13, (3, 0, 9, 1, 2045, 0), 0, []), (.ireturn, (1, 3, 0, 0, 0, 0), 0, [])],
  [(.aload_n 0, (1, 0, 0, 0, 0, 0), 0, []), (.getfield 29, (3, 0, 9, 5, 2049, 0), 0, []), (.ireturn, (1, 3, 0, 0, 0, 0), 0, [])],
  [(.aload_n 0, (1, 0, 0, 0, 0, 0), 0, []), (.getfield 38, (3, 0, 9, 7, 2051, 0), 0, []), (.ireturn, (1, 3, 0, 0, 0, 0), 0, [])],
  [(.aload_n 0, (1, 0, 0, 0, 0, 0), 0, []), (.getfield 47, (3, 0, 9, 9, 2053, 1), 0, []), (.getfield 151, (3, 0, 6, 1, 1040, 0), 0, []), (.ireturn, (1, 3, 0, 0, 0, 0), 0, [])],
  [(.aload_n 0, (1, 0, 0, 0, 0, 0), 0, []), (.getfield 41, (3, 0, 9, 8, 2052, 0), 0, []), (.ireturn, (1, 3, 0, 0, 0, 0), 0, [])],
  [(.bipush (-2), (2, 0, 0, 0, 0, 0), (-2), []), (.ireturn, (1, 3, 0, 0, 0, 0), 0, [])]]
/-- EvenlyPoured.sheet(III)I -/
noncomputable def bk_120 : List (List am_P) := [[(.iload_n 1, (1, 0, 1, 0, 0, 0), 0, []), (.invokestatic 277, (3, 2, 125, 1, 1, 0), 4061, [])],
  [(.ifCond .eq 15, (3, 1, 5, 2, 0, 0), 0, [])],
  [(.iload_n 2, (1, 0, 2, 0, 0, 0), 0, []), (.iconst (-1), (1, 0, 0, 0, 0, 0), (-1), []), (.if_icmp .eq 13, (3, 1, 6, 3, 0, 0), 0, [])],
  [(.iload_n 2, (1, 0, 2, 0, 0, 0), 0, []), (.invokestatic 325, (3, 2, 126, 4, 1, 0), 4128, [])],
  [(.ifCond .ne 6, (3, 1, 6, 5, 0, 0), 0, [])],
  [(.bipush (-2), (2, 0, 0, 0, 0, 0), (-2), []), (.ireturn, (1, 3, 0, 0, 0, 0), 0, [])],
  [(.iload_n 2, (1, 0, 2, 0, 0, 0), 0, []), (.iconst (-1), (1, 0, 0, 0, 0, 0), (-1), []), (.if_icmp .ne 16, (3, 1, 10, 7, 0, 0), 0, [])],
  [(.aload_n 0, (1, 0, 0, 0, 0, 0), 0, []), (.getfield 62, (3, 0, 9, 11, 2055, 1), 0, []), (.iload_n 1, (1, 0, 1, 0, 0, 0), 0, []), (.aaload, (1, 0, 24, 0, 0, 0), 0, []), (.nop, (0, 1, 8, 0, 0, 0), 0, [])],
  [(.iconst (-1), (1, 0, 0, 0, 0, 0), (-1), []), (.iconst 0, (1, 0, 0, 0, 0, 0), 0, []), (.invokevirtual 328, (3, 2, 40, 9, 3, 6), 4131, [])],
  [(.iconst 1, (1, 0, 0, 0, 0, 0), 1, []), (.ireturn, (1, 3, 0, 0, 0, 0), 0, [])],
  [(.iload_n 3, (1, 0, 3, 0, 0, 0), 0, []), (.bipush 40, (2, 0, 0, 0, 0, 0), 40, []), (.if_icmp .le 6, (3, 1, 12, 11, 0, 0), 0, [])],
  [(.bipush (-2), (2, 0, 0, 0, 0, 0), (-2), []), (.ireturn, (1, 3, 0, 0, 0, 0), 0, [])],
  [(.iload_n 3, (1, 0, 3, 0, 0, 0), 0, []), (.ifCond .ge 6, (3, 1, 14, 13, 0, 0), 0, [])],
  [(.bipush (-14), (2, 0, 0, 0, 0, 0), (-14), []), (.ireturn, (1, 3, 0, 0, 0, 0), 0, [])],
  [(.aload_n 0, (1, 0, 0, 0, 0, 0), 0, []), (.getfield 62, (3, 0, 9, 11, 2055, 1), 0, []), (.iload_n 1, (1, 0, 1, 0, 0, 0), 0, []), (.aaload, (1, 0, 24, 0, 0, 0), 0, []), (.nop, (0, 1, 15, 0, 0, 0), 0, [])],
  [(.iload_n 2, (1, 0, 2, 0, 0, 0), 0, []), (.iload_n 3, (1, 0, 3, 0, 0, 0), 0, []), (.invokevirtual 328, (3, 2, 40, 16, 3, 6), 4131, [])],
  [(.iconst 1, (1, 0, 0, 0, 0, 0), 1, []), (.ireturn, (1, 3, 0, 0, 0, 0), 0, [])]]
/-- EvenlyPoured.cell(III)I -/
noncomputable def bk_121 : List (List am_P) := [[(.iload_n 1, (1, 0, 1, 0, 0, 0), 0, []), (.invokestatic 277, (3, 2, 125, 1, 1, 0), 4061, [])],
  [(.ifCond .ne 6, (3, 1, 3, 2, 0, 0), 0, [])],
  [(.bipush (-2), (2, 0, 0, 0, 0, 0), (-2), []), (.ireturn, (1, 3, 0, 0, 0, 0), 0, [])],
  [(.aload_n 0, (1, 0, 0, 0, 0, 0), 0, []), (.getfield 62, (3, 0, 9, 11, 2055, 1), 0, []), (.iload_n 1, (1, 0, 1, 0, 0, 0), 0, []), (.aaload, (1, 0, 24, 0, 0, 0), 0, []), (.nop, (0, 1, 4, 0, 0, 0), 0, [])],
  [(.invokevirtual 300, (3, 2, 41, 5, 1, 6), 4068, [])],
  [(.ifCond .eq 6, (3, 1, 7, 6, 0, 0), 0, [])],
  [(.bipush (-11), (2, 0, 0, 0, 0, 0), (-11), []), (.ireturn, (1, 3, 0, 0, 0, 0), 0, [])],
  [(.aload_n 0, (1, 0, 0, 0, 0, 0), 0, []), (.getfield 62, (3, 0, 9, 11, 2055, 1), 0, []), (.iload_n 1, (1, 0, 1, 0, 0, 0), 0, []), (.aaload, (1, 0, 24, 0, 0, 0), 0, []), (.nop, (0, 1, 8, 0, 0, 0), 0, [])],
  [(.iload_n 2, (1, 0, 2, 0, 0, 0), 0, []), (.invokevirtual 331, (3, 2, 42, 9, 2, 6), 4140, [])],
  [(.ifCond .ne 6, (3, 1, 11, 10, 0, 0), 0, [])],
  [(.bipush (-12), (2, 0, 0, 0, 0, 0), (-12), []), (.ireturn, (1, 3, 0, 0, 0, 0), 0, [])],
  [(.aload_n 0, (1, 0, 0, 0, 0, 0), 0, []), (.getfield 62, (3, 0, 9, 11, 2055, 1), 0, []), (.iload_n 1, (1, 0, 1, 0, 0, 0), 0, []), (.aaload, (1, 0, 24, 0, 0, 0), 0, []), (.nop, (0, 1, 12, 0, 0, 0), 0, [])],
  [(.iload_n 2, (1, 0, 2, 0, 0, 0), 0, []), (.iload_n 3, (1, 0, 3, 0, 0, 0), 0, []), (.invokevirtual 334, (3, 2, 44, 13, 3, 6), 4144, [])],
  [(.iconst 1, (1, 0, 0, 0, 0, 0), 1, []), (.ireturn, (1, 3, 0, 0, 0, 0), 0, [])]]
/-- EvenlyPoured.copy(IIIII)I -/
noncomputable def bk_122 : List (List am_P) := [[(.iload_n 1, (1, 0, 1, 0, 0, 0), 0, []), (.invokestatic 277, (3, 2, 125, 1, 1, 0), 4061, [])],
  [(.ifCond .eq 10, (3, 1, 4, 2, 0, 0), 0, [])],
  [(.iload_n 3, (1, 0, 3, 0, 0, 0), 0, []), (.invokestatic 277, (3, 2, 125, 3, 1, 0), 4061, [])],
  [(.ifCond .ne 6, (3, 1, 5, 4, 0, 0), 0, [])],
  [(.bipush (-2), (2, 0, 0, 0, 0, 0), (-2), []), (.ireturn, (1, 3, 0, 0, 0, 0), 0, [])],
  [(.aload_n 0, (1, 0, 0, 0, 0, 0), 0, []), (.getfield 62, (3, 0, 9, 11, 2055, 1), 0, []), (.iload_n 1, (1, 0, 1, 0, 0, 0), 0, []), (.aaload, (1, 0, 24, 0, 0, 0), 0, []), (.nop, (0, 1, 6, 0, 0, 0), 0, [])],
  [(.astore 6, (2, 0, 6, 0, 0, 0), 0, []), (.aload_n 0, (1, 0, 0, 0, 0, 0), 0, []), (.getfield 62, (3, 0, 9, 11, 2055, 1), 0, []), (.iload_n 3, (1, 0, 3, 0, 0, 0), 0, []), (.aaload, (1, 0, 24, 0, 0, 0), 0, []), (.nop, (0, 1, 7, 0, 0, 0), 0, [])],
  [(.astore 7, (2, 0, 7, 0, 0, 0), 0, []), (.aload 6, (2, 0, 6, 0, 0, 0), 0, []), (.invokevirtual 300, (3, 2, 41, 8, 1, 6), 4068, [])],
  [(.ifCond .ne 11, (3, 1, 11, 9, 0, 0), 0, [])],
  [(.aload 7, (2, 0, 7, 0, 0, 0), 0, []), (.invokevirtual 300, (3, 2, 41, 10, 1, 6), 4068, [])],
  [(.ifCond .eq 6, (3, 1, 12, 11, 0, 0), 0, [])],
  [(.bipush (-11), (2, 0, 0, 0, 0, 0), (-11), []), (.ireturn, (1, 3, 0, 0, 0, 0), 0, [])],
  [(.aload 6, (2, 0, 6, 0, 0, 0), 0, []), (.getfield 337, (3, 0, 5, 0, 1157, 0), 0, []), (.aload 7, (2, 0, 7, 0, 0, 0), 0, []), (.getfield 337, (3, 0, 5, 0, 1157, 0), 0, []), (.if_icmp .eq 6, (3, 1, 14, 13, 0, 0), 0, [])],
  [(.bipush (-13), (2, 0, 0, 0, 0, 0), (-13), []), (.ireturn, (1, 3, 0, 0, 0, 0), 0, [])],
  [(.aload 6, (2, 0, 6, 0, 0, 0), 0, []), (.iload_n 2, (1, 0, 2, 0, 0, 0), 0, []), (.iload 5, (2, 0, 5, 0, 0, 0), 0, []), (.invokevirtual 340, (3, 2, 43, 15, 3, 6), 4152, [])],
  [(.ifCond .eq 15, (3, 1, 18, 16, 0, 0), 0, [])],
  [(.aload 7, (2, 0, 7, 0, 0, 0), 0, []), (.iload 4, (2, 0, 4, 0, 0, 0), 0, []), (.iload 5, (2, 0, 5, 0, 0, 0), 0, []), (.invokevirtual 340, (3, 2, 43, 17, 3, 6), 4152, [])],
  [(.ifCond .ne 6, (3, 1, 19, 18, 0, 0), 0, [])],
  [(.bipush (-12), (2, 0, 0, 0, 0, 0), (-12), []), (.ireturn, (1, 3, 0, 0, 0, 0), 0, [])],
  [(.aload 6, (2, 0, 6, 0, 0, 0), 0, []), (.getfield 283, (3, 0, 5, 2, 1161, 1), 0, []), (.nop, (0, 1, 20, 0, 0, 0), 0, [])],
  [(.iload_n 2, (1, 0, 2, 0, 0, 0), 0, []), (.aload 7, (2, 0, 7, 0, 0, 0), 0, []), (.getfield 283, (3, 0, 5, 2, 1161, 1), 0, []), (.nop, (0, 1, 21, 0, 0, 0), 0, [])],
  [(.iload 4, (2, 0, 4, 0, 0, 0), 0, []), (.iload 5, (2, 0, 5, 0, 0, 0), 0, []), (.invokestatic 217, (3, 0, 0, 0, 4000, 0), 0, []), (.iload 5, (2, 0, 5, 0, 0, 0), 0, []), (.ireturn, (1, 3, 0, 0, 0, 0), 0, [])]]
/-- EvenlyPoured.rows(IIII)I -/
noncomputable def bk_123 : List (List am_P) := [[(.iload_n 1, (1, 0, 1, 0, 0, 0), 0, []), (.invokestatic 277, (3, 2, 125, 1, 1, 0), 4061, [])],
  [(.ifCond .eq 22, (3, 1, 6, 2, 0, 0), 0, [])],
  [(.iload_n 2, (1, 0, 2, 0, 0, 0), 0, []), (.invokestatic 325, (3, 2, 126, 3, 1, 0), 4128, [])],
  [(.ifCond .eq 15, (3, 1, 6, 4, 0, 0), 0, [])],
  [(.iload 4, (2, 0, 4, 0, 0, 0), 0, []), (.ifCond .lt 10, (3, 1, 6, 5, 0, 0), 0, [])],
  [(.iload 4, (2, 0, 4, 0, 0, 0), 0, []), (.bipush 24, (2, 0, 0, 0, 0, 0), 24, []), (.if_icmp .le 6, (3, 1, 7, 6, 0, 0), 0, [])],
  [(.bipush (-2), (2, 0, 0, 0, 0, 0), (-2), []), (.ireturn, (1, 3, 0, 0, 0, 0), 0, [])],
  [(.aload_n 0, (1, 0, 0, 0, 0, 0), 0, []), (.getfield 62, (3, 0, 9, 11, 2055, 1), 0, []), (.iload_n 1, (1, 0, 1, 0, 0, 0), 0, []), (.aaload, (1, 0, 24, 0, 0, 0), 0, []), (.nop, (0, 1, 8, 0, 0, 0), 0, [])],
  [(.astore 5, (2, 0, 5, 0, 0, 0), 0, []), (.aload 5, (2, 0, 5, 0, 0, 0), 0, []), (.invokevirtual 300, (3, 2, 41, 9, 1, 6), 4068, [])],
  [(.ifCond .eq 6, (3, 1, 11, 10, 0, 0), 0, [])],
  [(.bipush (-11), (2, 0, 0, 0, 0, 0), (-11), []), (.ireturn, (1, 3, 0, 0, 0, 0), 0, [])],
  [(.aload 5, (2, 0, 5, 0, 0, 0), 0, []), (.getfield 337, (3, 0, 5, 0, 1157, 0), 0, []), (.iload_n 2, (1, 0, 2, 0, 0, 0), 0, []), (.if_icmp .eq 6, (3, 1, 13, 12, 0, 0), 0, [])],
  [(.bipush (-13), (2, 0, 0, 0, 0, 0), (-13), []), (.ireturn, (1, 3, 0, 0, 0, 0), 0, [])],
  [(.iconst 0, (1, 0, 0, 0, 0, 0), 0, []), (.istore 6, (2, 0, 6, 0, 0, 0), 0, []), (.iconst 0, (1, 0, 0, 0, 0, 0), 0, []), (.istore 7, (2, 0, 7, 0, 0, 0), 0, []), (.nop, (0, 1, 14, 0, 0, 0), 0, [])],
  [(.iload 7, (2, 0, 7, 0, 0, 0), 0, []), (.iload 4, (2, 0, 4, 0, 0, 0), 0, []), (.if_icmp .ge 66, (3, 1, 25, 15, 0, 0), 0, [])],
  [(.aload 5, (2, 0, 5, 0, 0, 0), 0, []), (.iload_n 3, (1, 0, 3, 0, 0, 0), 0, []), (.iload 7, (2, 0, 7, 0, 0, 0), 0, []), (.iadd, (1, 0, 0, 0, 0, 0), 0, []), (.invokevirtual 331, (3, 2, 42, 16, 2, 6), 4140, [])],
  [(.ifCond .ne 6, (3, 1, 18, 17, 0, 0), 0, [])],
  [(.bipush (-12), (2, 0, 0, 0, 0, 0), (-12), []), (.ireturn, (1, 3, 0, 0, 0, 0), 0, [])],
  [(.aload 5, (2, 0, 5, 0, 0, 0), 0, []), (.getfield 283, (3, 0, 5, 2, 1161, 1), 0, []), (.nop, (0, 1, 19, 0, 0, 0), 0, [])],
  [(.iload_n 3, (1, 0, 3, 0, 0, 0), 0, []), (.iload 7, (2, 0, 7, 0, 0, 0), 0, []), (.iadd, (1, 0, 0, 0, 0, 0), 0, []), (.iaload, (1, 0, 0, 0, 0, 0), 0, []), (.istore 8, (2, 0, 8, 0, 0, 0), 0, []), (.aload_n 0, (1, 0, 0, 0, 0, 0), 0, []), (.iload 7, (2, 0, 7, 0, 0, 0), 0, []), (.invokevirtual 142, (3, 2, 77, 20, 2, 10), 2137, [])],
  [(.ifCond .eq 24, (3, 1, 24, 21, 0, 0), 0, [])],
  [(.aload_n 0, (1, 0, 0, 0, 0, 0), 0, []), (.iload 8, (2, 0, 8, 0, 0, 0), 0, []), (.invokevirtual 145, (3, 2, 76, 22, 2, 10), 2141, [])],
  [(.ifCond .eq 15, (3, 1, 24, 23, 0, 0), 0, [])],
  [(.aload_n 0, (1, 0, 0, 0, 0, 0), 0, []), (.getfield 16, (3, 0, 9, 2, 2046, 1), 0, []), (.iload 7, (2, 0, 7, 0, 0, 0), 0, []), (.iload 8, (2, 0, 8, 0, 0, 0), 0, []), (.iastore, (1, 0, 0, 0, 0, 0), 0, []), (.iinc 6 1, (3, 0, 6, 0, 0, 0), 1, []), (.nop, (0, 1, 24, 0, 0, 0), 0, [])],
  [(.iinc 7 1, (3, 0, 7, 0, 0, 0), 1, []), (.goto (-67), (3, 1, 14, 0, 0, 0), 0, [])],
  [(.iload 6, (2, 0, 6, 0, 0, 0), 0, []), (.ireturn, (1, 3, 0, 0, 0, 0), 0, [])]]
/-- EvenlyPoured.taken(II)I -/
noncomputable def bk_124 : List (List am_P) := [[(.iload_n 2, (1, 0, 2, 0, 0, 0), 0, []), (.invokestatic 148, (3, 2, 79, 1, 1, 0), 2153, [])],
  [(.ifCond .ne 6, (3, 1, 3, 2, 0, 0), 0, [])],
  [(.bipush (-2), (2, 0, 0, 0, 0, 0), (-2), []), (.ireturn, (1, 3, 0, 0, 0, 0), 0, [])],
  [(.aload_n 0, (1, 0, 0, 0, 0, 0), 0, []), (.iload_n 1, (1, 0, 1, 0, 0, 0), 0, []), (.invokevirtual 129, (3, 2, 78, 4, 2, 10), 2118, [])],
  [(.ifCond .ne 6, (3, 1, 6, 5, 0, 0), 0, [])],
  [(.bipush (-11), (2, 0, 0, 0, 0, 0), (-11), []), (.ireturn, (1, 3, 0, 0, 0, 0), 0, [])],
  [(.aload_n 0, (1, 0, 0, 0, 0, 0), 0, []), (.getfield 25, (3, 0, 9, 4, 2048, 1), 0, []), (.iload_n 1, (1, 0, 1, 0, 0, 0), 0, []), (.aaload, (1, 0, 22, 0, 0, 0), 0, []), (.nop, (0, 1, 7, 0, 0, 0), 0, [])],
  [(.iload_n 2, (1, 0, 2, 0, 0, 0), 0, []), (.invokevirtual 344, (3, 2, 2, 8, 2, 2), 4164, [])],
  [(.ifCond .eq 15, (3, 1, 11, 9, 0, 0), 0, [])],
  [(.aload_n 0, (1, 0, 0, 0, 0, 0), 0, []), (.getfield 25, (3, 0, 9, 4, 2048, 1), 0, []), (.iload_n 1, (1, 0, 1, 0, 0, 0), 0, []), (.aaload, (1, 0, 22, 0, 0, 0), 0, []), (.nop, (0, 1, 10, 0, 0, 0), 0, [])],
  [(.getfield 133, (3, 0, 1, 1, 1145, 0), 0, []), (.goto 5, (3, 1, 12, 0, 0, 0), 0, [])],
  [(.bipush (-13), (2, 0, 0, 0, 0, 0), (-13), []), (.nop, (0, 1, 12, 0, 0, 0), 0, [])],
  [(.ireturn, (1, 3, 0, 0, 0, 0), 0, [])]]
/-- EvenlyPoured.isSheet(I)Z -/
noncomputable def bk_125 : List (List am_P) := [[(.iload_n 0, (1, 0, 0, 0, 0, 0), 0, []), (.ifCond .lt 12, (3, 1, 3, 1, 0, 0), 0, [])],
  [(.iload_n 0, (1, 0, 0, 0, 0, 0), 0, []), (.iconst 4, (1, 0, 0, 0, 0, 0), 4, []), (.if_icmp .ge 7, (3, 1, 3, 2, 0, 0), 0, [])],
  [(.iconst 1, (1, 0, 0, 0, 0, 0), 1, []), (.goto 4, (3, 1, 4, 0, 0, 0), 0, [])],
  [(.iconst 0, (1, 0, 0, 0, 0, 0), 0, []), (.nop, (0, 1, 4, 0, 0, 0), 0, [])],
  [(.ireturn, (1, 3, 0, 0, 0, 1), 0, [])]]
/-- EvenlyPoured.isSort(I)Z -/
noncomputable def bk_126 : List (List am_P) := [[(.iload_n 0, (1, 0, 0, 0, 0, 0), 0, []), (.ifCond .lt 12, (3, 1, 3, 1, 0, 0), 0, [])],
  [(.iload_n 0, (1, 0, 0, 0, 0, 0), 0, []), (.iconst 3, (1, 0, 0, 0, 0, 0), 3, []), (.if_icmp .ge 7, (3, 1, 3, 2, 0, 0), 0, [])],
  [(.iconst 1, (1, 0, 0, 0, 0, 0), 1, []), (.goto 4, (3, 1, 4, 0, 0, 0), 0, [])],
  [(.iconst 0, (1, 0, 0, 0, 0, 0), 0, []), (.nop, (0, 1, 4, 0, 0, 0), 0, [])],
  [(.ireturn, (1, 3, 0, 0, 0, 1), 0, [])]]
/-- EvenlyPouredModel.in(JJJ)Z -/
noncomputable def bk_127 : List (List am_P) := [[(.lload_n 0, (1, 0, 0, 0, 0, 0), 0, []), (.lload_n 2, (1, 0, 2, 0, 0, 0), 0, []), (.lcmp, (1, 0, 0, 0, 0, 0), 0, []), (.ifCond .lt 14, (3, 1, 3, 1, 0, 0), 0, [])],
  [(.lload_n 0, (1, 0, 0, 0, 0, 0), 0, []), (.lload 4, (2, 0, 4, 0, 0, 0), 0, []), (.lcmp, (1, 0, 0, 0, 0, 0), 0, []), (.ifCond .gt 7, (3, 1, 3, 2, 0, 0), 0, [])],
  [(.iconst 1, (1, 0, 0, 0, 0, 0), 1, []), (.goto 4, (3, 1, 4, 0, 0, 0), 0, [])],
  [(.iconst 0, (1, 0, 0, 0, 0, 0), 0, []), (.nop, (0, 1, 4, 0, 0, 0), 0, [])],
  [(.ireturn, (1, 3, 0, 0, 0, 1), 0, [])]]
/-- EvenlyPouredModel.within(III)I -/
noncomputable def bk_128 : List (List am_P) := [[(.iload_n 0, (1, 0, 0, 0, 0, 0), 0, []), (.iload_n 1, (1, 0, 1, 0, 0, 0), 0, []), (.if_icmp .ge 7, (3, 1, 2, 1, 0, 0), 0, [])],
  [(.iload_n 1, (1, 0, 1, 0, 0, 0), 0, []), (.goto 13, (3, 1, 5, 0, 0, 0), 0, [])],
  [(.iload_n 0, (1, 0, 0, 0, 0, 0), 0, []), (.iload_n 2, (1, 0, 2, 0, 0, 0), 0, []), (.if_icmp .le 7, (3, 1, 4, 3, 0, 0), 0, [])],
  [(.iload_n 2, (1, 0, 2, 0, 0, 0), 0, []), (.goto 4, (3, 1, 5, 0, 0, 0), 0, [])],
  [(.iload_n 0, (1, 0, 0, 0, 0, 0), 0, []), (.nop, (0, 1, 5, 0, 0, 0), 0, [])],
  [(.ireturn, (1, 3, 0, 0, 0, 0), 0, [])]]
/-- EvenlyPouredModel.<init>()V -/
noncomputable def bk_129 : List (List am_P) := [[(.aload_n 0, (1, 0, 0, 0, 0, 0), 0, []), (.invokespecial 7, (3, 0, 0, 0, 4176, 0), 0, []), (.aload_n 0, (1, 0, 0, 0, 0, 0), 0, []), (.sipush 960, (3, 0, 0, 0, 0, 0), 960, []), (.newarray .int, (2, 0, 20, 0, 0, 0), 0, []), (.putfield 13, (3, 0, 10, 1, 4181, 1), 0, []), (.aload_n 0, (1, 0, 0, 0, 0, 0), 0, []), (.bipush 6, (2, 0, 0, 0, 0, 0), 6, []), (.newarray .int, (2, 0, 20, 0, 0, 0), 0, []), (.putfield 17, (3, 0, 10, 2, 4182, 1), 0, []), (.aload_n 0, (1, 0, 0, 0, 0, 0), 0, []), (.sipush 160, (3, 0, 0, 0, 0, 0), 160, []), (.newarray .int, (2, 0, 20, 0, 0, 0), 0, []), (.putfield 20, (3, 0, 10, 5, 4185, 1), 0, []), (.aload_n 0, (1, 0, 0, 0, 0, 0), 0, []), (.iconst 2, (1, 0, 0, 0, 0, 0), 2, []), (.putfield 23, (3, 0, 10, 7, 4187, 0), 0, []), (.aload_n 0, (1, 0, 0, 0, 0, 0), 0, []), (.bipush 8, (2, 0, 0, 0, 0, 0), 8, []), (.putfield 26, (3, 0, 10, 8, 4188, 0), 0, []), (.aload_n 0, (1, 0, 0, 0, 0, 0), 0, []), (.bipush 24, (2, 0, 0, 0, 0, 0), 24, []), (.newarray .int, (2, 0, 20, 0, 0, 0), 0, []), (.putfield 29, (3, 0, 10, 9, 4189, 1), 0, []), (.aload_n 0, (1, 0, 0, 0, 0, 0), 0, []), (.bipush 6, (2, 0, 0, 0, 0, 0), 6, []), (.newarray .int, (2, 0, 20, 0, 0, 0), 0, []), (.putfield 32, (3, 0, 10, 10, 4190, 1), 0, []), (.aload_n 0, (1, 0, 0, 0, 0, 0), 0, []), (.bipush 6, (2, 0, 0, 0, 0, 0), 6, []), (.newarray .int, (2, 0, 20, 0, 0, 0), 0, []), (.putfield 35, (3, 0, 10, 11, 4191, 1), 0, []), (.aload_n 0, (1, 0, 0, 0, 0, 0), 0, []), (.bipush 8, (2, 0, 0, 0, 0, 0), 8, []), (.newarray .int, (2, 0, 20, 0, 0, 0), 0, []), (.putfield 38, (3, 0, 10, 13, 4193, 1), 0, []), (.aload_n 0, (1, 0, 0, 0, 0, 0), 0, []), (.sipush 9600, (3, 0, 0, 0, 0, 0), 9600, []), (.newarray .int, (2, 0, 20, 0, 0, 0), 0, []), (.putfield 41, (3, 0, 10, 29, 4209, 1), 0, []), (.aload_n 0, (1, 0, 0, 0, 0, 0), 0, []), (.sipush 9600, (3, 0, 0, 0, 0, 0), 9600, []), (.newarray .int, (2, 0, 20, 0, 0, 0), 0, []), (.putfield 44, (3, 0, 10, 30, 4210, 1), 0, []), (.aload_n 0, (1, 0, 0, 0, 0, 0), 0, []), (.iconst 4, (1, 0, 0, 0, 0, 0), 4, []), (.newarray .int, (2, 0, 20, 0, 0, 0), 0, []), (.putfield 47, (3, 0, 10, 31, 4211, 1), 0, []), (.aload_n 0, (1, 0, 0, 0, 0, 0), 0, []), (.iconst 4, (1, 0, 0, 0, 0, 0), 4, []), (.newarray .int, (2, 0, 20, 0, 0, 0), 0, []), (.putfield 50, (3, 0, 10, 32, 4212, 1), 0, []), (.aload_n 0, (1, 0, 0, 0, 0, 0), 0, []), (.bipush 24, (2, 0, 0, 0, 0, 0), 24, []), (.newarray .int, (2, 0, 20, 0, 0, 0), 0, []), (.putfield 53, (3, 0, 10, 36, 4216, 1), 0, []), (.aload_n 0, (1, 0, 0, 0, 0, 0), 0, []), (.bipush 24, (2, 0, 0, 0, 0, 0), 24, []), (.newarray .int, (2, 0, 20, 0, 0, 0), 0, []), (.putfield 56, (3, 0, 10, 37, 4217, 1), 0, []), (.aload_n 0, (1, 0, 0, 0, 0, 0), 0, []), (.iconst 4, (1, 0, 0, 0, 0, 0), 4, []), (.newarray .int, (2, 0, 20, 0, 0, 0), 0, []), (.putfield 59, (3, 0, 10, 43, 4223, 1), 0, []), (.aload_n 0, (1, 0, 0, 0, 0, 0), 0, []), (.bipush 24, (2, 0, 0, 0, 0, 0), 24, []), (.newarray .int, (2, 0, 20, 0, 0, 0), 0, []), (.putfield 62, (3, 0, 10, 44, 4224, 1), 0, []), (.aload_n 0, (1, 0, 0, 0, 0, 0), 0, []), (.bipush 8, (2, 0, 0, 0, 0, 0), 8, []), (.newarray .int, (2, 0, 20, 0, 0, 0), 0, []), (.putfield 65, (3, 0, 10, 45, 4225, 1), 0, []), (.aload_n 0, (1, 0, 0, 0, 0, 0), 0, []), (.bipush 6, (2, 0, 0, 0, 0, 0), 6, []), (.newarray .int, (2, 0, 20, 0, 0, 0), 0, []), (.putfield 68, (3, 0, 10, 46, 4226, 1), 0, []), (.aload_n 0, (1, 0, 0, 0, 0, 0), 0, []), (.iconst (-1), (1, 0, 0, 0, 0, 0), (-1), []), (.putfield 71, (3, 0, 10, 47, 4227, 0), 0, []), (.aload_n 0, (1, 0, 0, 0, 0, 0), 0, []), (.iconst 4, (1, 0, 0, 0, 0, 0), 4, []), (.newarray .boolean, (2, 0, 21, 0, 0, 0), 0, []), (.putfield 74, (3, 0, 10, 51, 4231, 1), 0, []), (.aload_n 0, (1, 0, 0, 0, 0, 0), 0, []), (.iconst 4, (1, 0, 0, 0, 0, 0), 4, []), (.newarray .int, (2, 0, 20, 0, 0, 0), 0, []), (.putfield 78, (3, 0, 10, 52, 4232, 1), 0, []), (.aload_n 0, (1, 0, 0, 0, 0, 0), 0, []), (.iconst 4, (1, 0, 0, 0, 0, 0), 4, []), (.newarray .int, (2, 0, 20, 0, 0, 0), 0, []), (.putfield 81, (3, 0, 10, 53, 4233, 1), 0, []), (.aload_n 0, (1, 0, 0, 0, 0, 0), 0, []), (.sipush 160, (3, 0, 0, 0, 0, 0), 160, []), (.newarray .int, (2, 0, 20, 0, 0, 0), 0, []), (.putfield 84, (3, 0, 10, 54, 4234, 1), 0, []), (.aload_n 0, (1, 0, 0, 0, 0, 0), 0, []), (.iconst 0, (1, 0, 0, 0, 0, 0), 0, []), (.bipush 115, (2, 0, 0, 0, 0, 0), 115, []), (.bipush 116, (2, 0, 0, 0, 0, 0), 116, []), (.bipush 114, (2, 0, 0, 0, 0, 0), 114, []), (.bipush 111, (2, 0, 0, 0, 0, 0), 111, []), (.bipush 110, (2, 0, 0, 0, 0, 0), 110, []), (.bipush 103, (2, 0, 0, 0, 0, 0), 103, []), (.bipush 32, (2, 0, 0, 0, 0, 0), 32, []), (.bipush 100, (2, 0, 0, 0, 0, 0), 100, []), (.invokevirtual 87, (3, 2, 130, 1, 10, 11), 4177, [])],
  [(.aload_n 0, (1, 0, 0, 0, 0, 0), 0, []), (.bipush 8, (2, 0, 0, 0, 0, 0), 8, []), (.bipush 114, (2, 0, 0, 0, 0, 0), 114, []), (.bipush 105, (2, 0, 0, 0, 0, 0), 105, []), (.bipush 98, (2, 0, 0, 0, 0, 0), 98, []), (.bipush 32, (2, 0, 0, 0, 0, 0), 32, []), (.bipush 43, (2, 0, 0, 0, 0, 0), 43, []), (.bipush 32, (2, 0, 0, 0, 0, 0), 32, []), (.bipush 49, (2, 0, 0, 0, 0, 0), 49, []), (.bipush 32, (2, 0, 0, 0, 0, 0), 32, []), (.invokevirtual 87, (3, 2, 130, 2, 10, 11), 4177, [])],
  [(.aload_n 0, (1, 0, 0, 0, 0, 0), 0, []), (.bipush 16, (2, 0, 0, 0, 0, 0), 16, []), (.bipush 59, (2, 0, 0, 0, 0, 0), 59, []), (.bipush 32, (2, 0, 0, 0, 0, 0), 32, []), (.bipush 100, (2, 0, 0, 0, 0, 0), 100, []), (.bipush 114, (2, 0, 0, 0, 0, 0), 114, []), (.bipush 105, (2, 0, 0, 0, 0, 0), 105, []), (.bipush 112, (2, 0, 0, 0, 0, 0), 112, []), (.bipush 115, (2, 0, 0, 0, 0, 0), 115, []), (.bipush 32, (2, 0, 0, 0, 0, 0), 32, []), (.invokevirtual 87, (3, 2, 130, 3, 10, 11), 4177, [])],
  [(.aload_n 0, (1, 0, 0, 0, 0, 0), 0, []), (.bipush 24, (2, 0, 0, 0, 0, 0), 24, []), (.bipush 48, (2, 0, 0, 0, 0, 0), 48, []), (.bipush 32, (2, 0, 0, 0, 0, 0), 32, []), (.bipush 59, (2, 0, 0, 0, 0, 0), 59, []), (.bipush 32, (2, 0, 0, 0, 0, 0), 32, []), (.bipush 108, (2, 0, 0, 0, 0, 0), 108, []), (.bipush 105, (2, 0, 0, 0, 0, 0), 105, []), (.bipush 107, (2, 0, 0, 0, 0, 0), 107, []), (.bipush 101, (2, 0, 0, 0, 0, 0), 101, []), (.invokevirtual 87, (3, 2, 130, 4, 10, 11), 4177, [])],
  [(.aload_n 0, (1, 0, 0, 0, 0, 0), 0, []), (.bipush 32, (2, 0, 0, 0, 0, 0), 32, []), (.bipush 100, (2, 0, 0, 0, 0, 0), 100, []), (.bipush 32, (2, 0, 0, 0, 0, 0), 32, []), (.bipush 100, (2, 0, 0, 0, 0, 0), 100, []), (.bipush 114, (2, 0, 0, 0, 0, 0), 114, []), (.bipush 105, (2, 0, 0, 0, 0, 0), 105, []), (.bipush 98, (2, 0, 0, 0, 0, 0), 98, []), (.bipush 115, (2, 0, 0, 0, 0, 0), 115, []), (.bipush 32, (2, 0, 0, 0, 0, 0), 32, []), (.invokevirtual 87, (3, 2, 130, 5, 10, 11), 4177, [])],
  [(.aload_n 0, (1, 0, 0, 0, 0, 0), 0, []), (.bipush 40, (2, 0, 0, 0, 0, 0), 40, []), (.bipush 42, (2, 0, 0, 0, 0, 0), 42, []), (.bipush 32, (2, 0, 0, 0, 0, 0), 32, []), (.bipush 51, (2, 0, 0, 0, 0, 0), 51, []), (.bipush 32, (2, 0, 0, 0, 0, 0), 32, []), (.bipush 59, (2, 0, 0, 0, 0, 0), 59, []), (.bipush 32, (2, 0, 0, 0, 0, 0), 32, []), (.bipush 32, (2, 0, 0, 0, 0, 0), 32, []), (.bipush 32, (2, 0, 0, 0, 0, 0), 32, []), (.invokevirtual 87, (3, 2, 130, 6, 10, 11), 4177, [])],
  [(.aload_n 0, (1, 0, 0, 0, 0, 0), 0, []), (.getfield 17, (3, 0, 10, 2, 4182, 1), 0, []), (.iconst 0, (1, 0, 0, 0, 0, 0), 0, []), (.bipush 48, (2, 0, 0, 0, 0, 0), 48, []), (.iastore, (1, 0, 0, 0, 0, 0), 0, []), (.aload_n 0, (1, 0, 0, 0, 0, 0), 0, []), (.iconst 1, (1, 0, 0, 0, 0, 0), 1, []), (.putfield 91, (3, 0, 10, 3, 4183, 0), 0, []), (.return_, (1, 3, 0, 0, 0, 0), 0, [])]]
/-- EvenlyPouredModel.spell(IIIIIIIII)V -/
noncomputable def bk_130 : List (List am_P) := [[(.aload_n 0, (1, 0, 0, 0, 0, 0), 0, []), (.getfield 13, (3, 0, 10, 1, 4181, 1), 0, []), (.iload_n 1, (1, 0, 1, 0, 0, 0), 0, []), (.iload_n 2, (1, 0, 2, 0, 0, 0), 0, []), (.iastore, (1, 0, 0, 0, 0, 0), 0, []), (.aload_n 0, (1, 0, 0, 0, 0, 0), 0, []), (.getfield 13, (3, 0, 10, 1, 4181, 1), 0, []), (.iload_n 1, (1, 0, 1, 0, 0, 0), 0, []), (.iconst 1, (1, 0, 0, 0, 0, 0), 1, []), (.iadd, (1, 0, 0, 0, 0, 0), 0, []), (.iload_n 3, (1, 0, 3, 0, 0, 0), 0, []), (.iastore, (1, 0, 0, 0, 0, 0), 0, []), (.aload_n 0, (1, 0, 0, 0, 0, 0), 0, []), (.getfield 13, (3, 0, 10, 1, 4181, 1), 0, []), (.iload_n 1, (1, 0, 1, 0, 0, 0), 0, []), (.iconst 2, (1, 0, 0, 0, 0, 0), 2, []), (.iadd, (1, 0, 0, 0, 0, 0), 0, []), (.iload 4, (2, 0, 4, 0, 0, 0), 0, []), (.iastore, (1, 0, 0, 0, 0, 0), 0, []), (.aload_n 0, (1, 0, 0, 0, 0, 0), 0, []), (.getfield 13, (3, 0, 10, 1, 4181, 1), 0, []), (.iload_n 1, (1, 0, 1, 0, 0, 0), 0, []), (.iconst 3, (1, 0, 0, 0, 0, 0), 3, []), (.iadd, (1, 0, 0, 0, 0, 0), 0, []), (.iload 5, (2, 0, 5, 0, 0, 0), 0, []), (.iastore, (1, 0, 0, 0, 0, 0), 0, []), (.aload_n 0, (1, 0, 0, 0, 0, 0), 0, []), (.getfield 13, (3, 0, 10, 1, 4181, 1), 0, []), (.iload_n 1, (1, 0, 1, 0, 0, 0), 0, []), (.iconst 4, (1, 0, 0, 0, 0, 0), 4, []), (.iadd, (1, 0, 0, 0, 0, 0), 0, []), (.iload 6, (2, 0, 6, 0, 0, 0), 0, []), (.iastore, (1, 0, 0, 0, 0, 0), 0, []), (.aload_n 0, (1, 0, 0, 0, 0, 0), 0, []), (.getfield 13, (3, 0, 10, 1, 4181, 1), 0, []), (.iload_n 1, (1, 0, 1, 0, 0, 0), 0, []), (.iconst 5, (1, 0, 0, 0, 0, 0), 5, []), (.iadd, (1, 0, 0, 0, 0, 0), 0, []), (.iload 7, (2, 0, 7, 0, 0, 0), 0, []), (.iastore, (1, 0, 0, 0, 0, 0), 0, []), (.aload_n 0, (1, 0, 0, 0, 0, 0), 0, []), (.getfield 13, (3, 0, 10, 1, 4181, 1), 0, []), (.iload_n 1, (1, 0, 1, 0, 0, 0), 0, []), (.bipush 6, (2, 0, 0, 0, 0, 0), 6, []), (.iadd, (1, 0, 0, 0, 0, 0), 0, []), (.iload 8, (2, 0, 8, 0, 0, 0), 0, []), (.iastore, (1, 0, 0, 0, 0, 0), 0, []), (.aload_n 0, (1, 0, 0, 0, 0, 0), 0, []), (.getfield 13, (3, 0, 10, 1, 4181, 1), 0, []), (.iload_n 1, (1, 0, 1, 0, 0, 0), 0, []), (.bipush 7, (2, 0, 0, 0, 0, 0), 7, []), (.iadd, (1, 0, 0, 0, 0, 0), 0, []), (.iload 9, (2, 0, 9, 0, 0, 0), 0, []), (.iastore, (1, 0, 0, 0, 0, 0), 0, []), (.return_, (1, 3, 0, 0, 0, 0), 0, [])]]
/-- EvenlyPouredModel.isCup(I)Z -/
noncomputable def bk_131 : List (List am_P) := [[(.iload_n 1, (1, 0, 1, 0, 0, 0), 0, []), (.i2l, (1, 0, 0, 0, 0, 0), 0, []), (.lconst 0, (1, 0, 0, 0, 0, 0), 0, []), (.aload_n 0, (1, 0, 0, 0, 0, 0), 0, []), (.getfield 23, (3, 0, 10, 7, 4187, 0), 0, []), (.iconst 1, (1, 0, 0, 0, 0, 0), 1, []), (.isub, (1, 0, 0, 0, 0, 0), 0, []), (.i2l, (1, 0, 0, 0, 0, 0), 0, []), (.invokestatic 94, (3, 2, 127, 1, 3, 0), 5111, [])],
  [(.ireturn, (1, 3, 0, 0, 0, 1), 0, [])]]
/-- EvenlyPouredModel.isPourer(I)Z -/
noncomputable def bk_132 : List (List am_P) := [[(.iload_n 1, (1, 0, 1, 0, 0, 0), 0, []), (.i2l, (1, 0, 0, 0, 0, 0), 0, []), (.lconst 0, (1, 0, 0, 0, 0, 0), 0, []), (.aload_n 0, (1, 0, 0, 0, 0, 0), 0, []), (.getfield 98, (3, 0, 10, 12, 4192, 0), 0, []), (.iconst 1, (1, 0, 0, 0, 0, 0), 1, []), (.isub, (1, 0, 0, 0, 0, 0), 0, []), (.i2l, (1, 0, 0, 0, 0, 0), 0, []), (.invokestatic 94, (3, 2, 127, 1, 3, 0), 5111, [])],
  [(.ireturn, (1, 3, 0, 0, 0, 1), 0, [])]]
/-- EvenlyPouredModel.set(III)I -/
noncomputable def bk_133 : List (List am_P) := [[(.iload_n 1, (1, 0, 1, 0, 0, 0), 0, []), (.i2l, (1, 0, 0, 0, 0, 0), 0, []), (.lconst 0, (1, 0, 0, 0, 0, 0), 0, []), (.ldc2_w 101, (3, 0, 3, 0, 5110, 0), 0, []), (.invokestatic 94, (3, 2, 127, 1, 3, 0), 5111, [])],
  [(.ifCond .eq 85, (3, 1, 20, 2, 0, 0), 0, [])],
  [(.iload_n 1, (1, 0, 1, 0, 0, 0), 0, []), (.iconst 2, (1, 0, 0, 0, 0, 0), 2, []), (.if_icmp .ne 11, (3, 1, 5, 3, 0, 0), 0, [])],
  [(.aload_n 0, (1, 0, 0, 0, 0, 0), 0, []), (.iload_n 2, (1, 0, 2, 0, 0, 0), 0, []), (.invokevirtual 103, (3, 2, 132, 4, 2, 11), 5114, [])],
  [(.ifCond .eq 72, (3, 1, 20, 5, 0, 0), 0, [])],
  [(.iload_n 1, (1, 0, 1, 0, 0, 0), 0, []), (.iconst 3, (1, 0, 0, 0, 0, 0), 3, []), (.if_icmp .ne 15, (3, 1, 8, 6, 0, 0), 0, [])],
  [(.iload_n 2, (1, 0, 2, 0, 0, 0), 0, []), (.i2l, (1, 0, 0, 0, 0, 0), 0, []), (.lconst 0, (1, 0, 0, 0, 0, 0), 0, []), (.ldc2_w 107, (3, 0, 7, 0, 5118, 0), 0, []), (.invokestatic 94, (3, 2, 127, 7, 3, 0), 5111, [])],
  [(.ifCond .eq 55, (3, 1, 20, 8, 0, 0), 0, [])],
  [(.iload_n 3, (1, 0, 3, 0, 0, 0), 0, []), (.i2l, (1, 0, 0, 0, 0, 0), 0, []), (.iload_n 1, (1, 0, 1, 0, 0, 0), 0, []), (.ifCond .ne 7, (3, 1, 10, 9, 0, 0), 0, [])],
  [(.lconst 1, (1, 0, 1, 0, 0, 0), 0, []), (.goto 4, (3, 1, 11, 0, 0, 0), 0, [])],
  [(.lconst 0, (1, 0, 0, 0, 0, 0), 0, []), (.nop, (0, 1, 11, 0, 0, 0), 0, [])],
  [(.iload_n 1, (1, 0, 1, 0, 0, 0), 0, []), (.ifCond .ne 9, (3, 1, 13, 12, 0, 0), 0, [])],
  [(.ldc2_w 109, (3, 0, 4, 0, 5119, 0), 0, []), (.goto 28, (3, 1, 18, 0, 0, 0), 0, [])],
  [(.iload_n 1, (1, 0, 1, 0, 0, 0), 0, []), (.iconst 1, (1, 0, 0, 0, 0, 0), 1, []), (.if_icmp .ne 9, (3, 1, 15, 14, 0, 0), 0, [])],
  [(.ldc2_w 111, (3, 0, 24, 0, 5120, 0), 0, []), (.goto 17, (3, 1, 18, 0, 0, 0), 0, [])],
  [(.iload_n 1, (1, 0, 1, 0, 0, 0), 0, []), (.iconst 2, (1, 0, 0, 0, 0, 0), 2, []), (.if_icmp .ne 9, (3, 1, 17, 16, 0, 0), 0, [])],
  [(.ldc2_w 113, (3, 0, 9, 0, 5121, 0), 0, []), (.goto 6, (3, 1, 18, 0, 0, 0), 0, [])],
  [(.ldc2_w 115, (3, 0, 99, 0, 5122, 0), 0, []), (.nop, (0, 1, 18, 0, 0, 0), 0, [])],
  [(.invokestatic 94, (3, 2, 127, 19, 3, 0), 5111, [])],
  [(.ifCond .ne 6, (3, 1, 21, 20, 0, 0), 0, [])],
  [(.bipush (-2), (2, 0, 0, 0, 0, 0), (-2), []), (.ireturn, (1, 3, 0, 0, 0, 0), 0, [])],
  [(.iload_n 1, (1, 0, 1, 0, 0, 0), 0, []), (.ifCond .ne 10, (3, 1, 23, 22, 0, 0), 0, [])],
  [(.aload_n 0, (1, 0, 0, 0, 0, 0), 0, []), (.getfield 23, (3, 0, 10, 7, 4187, 0), 0, []), (.goto 35, (3, 1, 28, 0, 0, 0), 0, [])],
  [(.iload_n 1, (1, 0, 1, 0, 0, 0), 0, []), (.iconst 1, (1, 0, 0, 0, 0, 0), 1, []), (.if_icmp .ne 10, (3, 1, 25, 24, 0, 0), 0, [])],
  [(.aload_n 0, (1, 0, 0, 0, 0, 0), 0, []), (.getfield 26, (3, 0, 10, 8, 4188, 0), 0, []), (.goto 23, (3, 1, 28, 0, 0, 0), 0, [])],
  [(.iload_n 1, (1, 0, 1, 0, 0, 0), 0, []), (.iconst 2, (1, 0, 0, 0, 0, 0), 2, []), (.if_icmp .ne 12, (3, 1, 27, 26, 0, 0), 0, [])],
  [(.aload_n 0, (1, 0, 0, 0, 0, 0), 0, []), (.getfield 35, (3, 0, 10, 11, 4191, 1), 0, []), (.iload_n 2, (1, 0, 2, 0, 0, 0), 0, []), (.iaload, (1, 0, 0, 0, 0, 0), 0, []), (.goto 9, (3, 1, 28, 0, 0, 0), 0, [])],
  [(.aload_n 0, (1, 0, 0, 0, 0, 0), 0, []), (.getfield 38, (3, 0, 10, 13, 4193, 1), 0, []), (.iload_n 2, (1, 0, 2, 0, 0, 0), 0, []), (.iaload, (1, 0, 0, 0, 0, 0), 0, []), (.nop, (0, 1, 28, 0, 0, 0), 0, [])],
  [(.istore 4, (2, 0, 4, 0, 0, 0), 0, []), (.iload_n 1, (1, 0, 1, 0, 0, 0), 0, []), (.ifCond .ne 11, (3, 1, 30, 29, 0, 0), 0, [])],
  [(.aload_n 0, (1, 0, 0, 0, 0, 0), 0, []), (.iload_n 3, (1, 0, 3, 0, 0, 0), 0, []), (.putfield 23, (3, 0, 10, 7, 4187, 0), 0, []), (.goto 38, (3, 1, 35, 0, 0, 0), 0, [])],
  [(.iload_n 1, (1, 0, 1, 0, 0, 0), 0, []), (.iconst 1, (1, 0, 0, 0, 0, 0), 1, []), (.if_icmp .ne 11, (3, 1, 32, 31, 0, 0), 0, [])],
  [(.aload_n 0, (1, 0, 0, 0, 0, 0), 0, []), (.iload_n 3, (1, 0, 3, 0, 0, 0), 0, []), (.putfield 26, (3, 0, 10, 8, 4188, 0), 0, []), (.goto 25, (3, 1, 35, 0, 0, 0), 0, [])],
  [(.iload_n 1, (1, 0, 1, 0, 0, 0), 0, []), (.iconst 2, (1, 0, 0, 0, 0, 0), 2, []), (.if_icmp .ne 13, (3, 1, 34, 33, 0, 0), 0, [])],
  [(.aload_n 0, (1, 0, 0, 0, 0, 0), 0, []), (.getfield 35, (3, 0, 10, 11, 4191, 1), 0, []), (.iload_n 2, (1, 0, 2, 0, 0, 0), 0, []), (.iload_n 3, (1, 0, 3, 0, 0, 0), 0, []), (.iastore, (1, 0, 0, 0, 0, 0), 0, []), (.goto 10, (3, 1, 35, 0, 0, 0), 0, [])],
  [(.aload_n 0, (1, 0, 0, 0, 0, 0), 0, []), (.getfield 38, (3, 0, 10, 13, 4193, 1), 0, []), (.iload_n 2, (1, 0, 2, 0, 0, 0), 0, []), (.iload_n 3, (1, 0, 3, 0, 0, 0), 0, []), (.iastore, (1, 0, 0, 0, 0, 0), 0, []), (.nop, (0, 1, 35, 0, 0, 0), 0, [])],
  [(.iconst 0, (1, 0, 0, 0, 0, 0), 0, []), (.istore 5, (2, 0, 5, 0, 0, 0), 0, []), (.nop, (0, 1, 36, 0, 0, 0), 0, [])],
  [(.iload 5, (2, 0, 5, 0, 0, 0), 0, []), (.bipush 24, (2, 0, 0, 0, 0, 0), 24, []), (.if_icmp .ge 22, (3, 1, 39, 37, 0, 0), 0, [])],
  [(.iload_n 1, (1, 0, 1, 0, 0, 0), 0, []), (.iconst 2, (1, 0, 0, 0, 0, 0), 2, []), (.if_icmp .ge 17, (3, 1, 39, 38, 0, 0), 0, [])],
  [(.aload_n 0, (1, 0, 0, 0, 0, 0), 0, []), (.getfield 29, (3, 0, 10, 9, 4189, 1), 0, []), (.iload 5, (2, 0, 5, 0, 0, 0), 0, []), (.iconst 0, (1, 0, 0, 0, 0, 0), 0, []), (.iastore, (1, 0, 0, 0, 0, 0), 0, []), (.iinc 5 1, (3, 0, 5, 0, 0, 0), 1, []), (.goto (-23), (3, 1, 36, 0, 0, 0), 0, [])],
  [(.iload 4, (2, 0, 4, 0, 0, 0), 0, []), (.ireturn, (1, 3, 0, 0, 0, 0), 0, [])]]
/-- EvenlyPouredModel.told(II)I -/
noncomputable def bk_134 : List (List am_P) := [[(.iload_n 2, (1, 0, 2, 0, 0, 0), 0, []), (.i2l, (1, 0, 0, 0, 0, 0), 0, []), (.lconst 0, (1, 0, 0, 0, 0, 0), 0, []), (.ldc2_w 117, (3, 0, 2, 0, 5127, 0), 0, []), (.invokestatic 94, (3, 2, 127, 1, 3, 0), 5111, [])],
  [(.ifCond .eq 31, (3, 1, 8, 2, 0, 0), 0, [])],
  [(.iload_n 2, (1, 0, 2, 0, 0, 0), 0, []), (.iconst 2, (1, 0, 0, 0, 0, 0), 2, []), (.if_icmp .ge 14, (3, 1, 6, 3, 0, 0), 0, [])],
  [(.aload_n 0, (1, 0, 0, 0, 0, 0), 0, []), (.iload_n 1, (1, 0, 1, 0, 0, 0), 0, []), (.invokevirtual 103, (3, 2, 132, 4, 2, 11), 5114, [])],
  [(.ifCond .eq 18, (3, 1, 8, 5, 0, 0), 0, [])],
  [(.goto 18, (3, 1, 9, 0, 0, 0), 0, [])],
  [(.iload_n 1, (1, 0, 1, 0, 0, 0), 0, []), (.i2l, (1, 0, 0, 0, 0, 0), 0, []), (.lconst 0, (1, 0, 0, 0, 0, 0), 0, []), (.ldc2_w 107, (3, 0, 7, 0, 5118, 0), 0, []), (.invokestatic 94, (3, 2, 127, 7, 3, 0), 5111, [])],
  [(.ifCond .ne 6, (3, 1, 9, 8, 0, 0), 0, [])],
  [(.bipush (-2), (2, 0, 0, 0, 0, 0), (-2), []), (.ireturn, (1, 3, 0, 0, 0, 0), 0, [])],
  [(.iload_n 2, (1, 0, 2, 0, 0, 0), 0, []), (.ifCond .ne 12, (3, 1, 11, 10, 0, 0), 0, [])],
  [(.aload_n 0, (1, 0, 0, 0, 0, 0), 0, []), (.getfield 35, (3, 0, 10, 11, 4191, 1), 0, []), (.iload_n 1, (1, 0, 1, 0, 0, 0), 0, []), (.iaload, (1, 0, 0, 0, 0, 0), 0, []), (.goto 23, (3, 1, 14, 0, 0, 0), 0, [])],
  [(.iload_n 2, (1, 0, 2, 0, 0, 0), 0, []), (.iconst 1, (1, 0, 0, 0, 0, 0), 1, []), (.if_icmp .ne 12, (3, 1, 13, 12, 0, 0), 0, [])],
  [(.aload_n 0, (1, 0, 0, 0, 0, 0), 0, []), (.getfield 32, (3, 0, 10, 10, 4190, 1), 0, []), (.iload_n 1, (1, 0, 1, 0, 0, 0), 0, []), (.iaload, (1, 0, 0, 0, 0, 0), 0, []), (.goto 9, (3, 1, 14, 0, 0, 0), 0, [])],
  [(.aload_n 0, (1, 0, 0, 0, 0, 0), 0, []), (.getfield 38, (3, 0, 10, 13, 4193, 1), 0, []), (.iload_n 1, (1, 0, 1, 0, 0, 0), 0, []), (.iaload, (1, 0, 0, 0, 0, 0), 0, []), (.nop, (0, 1, 14, 0, 0, 0), 0, [])],
  [(.ireturn, (1, 3, 0, 0, 0, 0), 0, [])]]
/-- EvenlyPouredModel.lay(II)I -/
noncomputable def bk_135 : List (List am_P) := [[(.iload_n 1, (1, 0, 1, 0, 0, 0), 0, []), (.i2l, (1, 0, 0, 0, 0, 0), 0, []), (.lconst 0, (1, 0, 0, 0, 0, 0), 0, []), (.aload_n 0, (1, 0, 0, 0, 0, 0), 0, []), (.getfield 26, (3, 0, 10, 8, 4188, 0), 0, []), (.iconst 1, (1, 0, 0, 0, 0, 0), 1, []), (.isub, (1, 0, 0, 0, 0, 0), 0, []), (.i2l, (1, 0, 0, 0, 0, 0), 0, []), (.invokestatic 94, (3, 2, 127, 1, 3, 0), 5111, [])],
  [(.ifCond .eq 11, (3, 1, 4, 2, 0, 0), 0, [])],
  [(.aload_n 0, (1, 0, 0, 0, 0, 0), 0, []), (.iload_n 2, (1, 0, 2, 0, 0, 0), 0, []), (.invokevirtual 119, (3, 2, 131, 3, 2, 11), 5132, [])],
  [(.ifCond .ne 6, (3, 1, 5, 4, 0, 0), 0, [])],
  [(.bipush (-2), (2, 0, 0, 0, 0, 0), (-2), []), (.ireturn, (1, 3, 0, 0, 0, 0), 0, [])],
  [(.aload_n 0, (1, 0, 0, 0, 0, 0), 0, []), (.getfield 29, (3, 0, 10, 9, 4189, 1), 0, []), (.iload_n 1, (1, 0, 1, 0, 0, 0), 0, []), (.iaload, (1, 0, 0, 0, 0, 0), 0, []), (.istore_n 3, (1, 0, 3, 0, 0, 0), 0, []), (.aload_n 0, (1, 0, 0, 0, 0, 0), 0, []), (.getfield 29, (3, 0, 10, 9, 4189, 1), 0, []), (.iload_n 1, (1, 0, 1, 0, 0, 0), 0, []), (.iload_n 2, (1, 0, 2, 0, 0, 0), 0, []), (.iastore, (1, 0, 0, 0, 0, 0), 0, []), (.iload_n 3, (1, 0, 3, 0, 0, 0), 0, []), (.ireturn, (1, 3, 0, 0, 0, 0), 0, [])]]
/-- EvenlyPouredModel.at(I)I -/
noncomputable def bk_136 : List (List am_P) := [[(.iload_n 1, (1, 0, 1, 0, 0, 0), 0, []), (.i2l, (1, 0, 0, 0, 0, 0), 0, []), (.lconst 0, (1, 0, 0, 0, 0, 0), 0, []), (.aload_n 0, (1, 0, 0, 0, 0, 0), 0, []), (.getfield 26, (3, 0, 10, 8, 4188, 0), 0, []), (.iconst 1, (1, 0, 0, 0, 0, 0), 1, []), (.isub, (1, 0, 0, 0, 0, 0), 0, []), (.i2l, (1, 0, 0, 0, 0, 0), 0, []), (.invokestatic 94, (3, 2, 127, 1, 3, 0), 5111, [])],
  [(.ifCond .eq 12, (3, 1, 3, 2, 0, 0), 0, [])],
  [(.aload_n 0, (1, 0, 0, 0, 0, 0), 0, []), (.getfield 29, (3, 0, 10, 9, 4189, 1), 0, []), (.iload_n 1, (1, 0, 1, 0, 0, 0), 0, []), (.iaload, (1, 0, 0, 0, 0, 0), 0, []), (.goto 5, (3, 1, 4, 0, 0, 0), 0, [])],
  [(.bipush (-2), (2, 0, 0, 0, 0, 0), (-2), []), (.nop, (0, 1, 4, 0, 0, 0), 0, [])],
  [(.ireturn, (1, 3, 0, 0, 0, 0), 0, [])]]
/-- EvenlyPouredModel.pourer(II)I -/
noncomputable def bk_137 : List (List am_P) := [[(.iload_n 1, (1, 0, 1, 0, 0, 0), 0, []), (.i2l, (1, 0, 0, 0, 0, 0), 0, []), (.lconst 0, (1, 0, 0, 0, 0, 0), 0, []), (.ldc2_w 122, (3, 0, 5, 0, 5144, 0), 0, []), (.invokestatic 94, (3, 2, 127, 1, 3, 0), 5111, [])],
  [(.ifCond .eq 15, (3, 1, 4, 2, 0, 0), 0, [])],
  [(.iload_n 2, (1, 0, 2, 0, 0, 0), 0, []), (.i2l, (1, 0, 0, 0, 0, 0), 0, []), (.lconst 0, (1, 0, 0, 0, 0, 0), 0, []), (.ldc2_w 113, (3, 0, 9, 0, 5121, 0), 0, []), (.invokestatic 94, (3, 2, 127, 3, 3, 0), 5111, [])],
  [(.ifCond .ne 6, (3, 1, 5, 4, 0, 0), 0, [])],
  [(.bipush (-2), (2, 0, 0, 0, 0, 0), (-2), []), (.ireturn, (1, 3, 0, 0, 0, 0), 0, [])],
  [(.aload_n 0, (1, 0, 0, 0, 0, 0), 0, []), (.getfield 98, (3, 0, 10, 12, 4192, 0), 0, []), (.bipush 6, (2, 0, 0, 0, 0, 0), 6, []), (.if_icmp .ne 6, (3, 1, 7, 6, 0, 0), 0, [])],
  [(.bipush (-4), (2, 0, 0, 0, 0, 0), (-4), []), (.ireturn, (1, 3, 0, 0, 0, 0), 0, [])],
  [(.aload_n 0, (1, 0, 0, 0, 0, 0), 0, []), (.getfield 32, (3, 0, 10, 10, 4190, 1), 0, []), (.aload_n 0, (1, 0, 0, 0, 0, 0), 0, []), (.getfield 98, (3, 0, 10, 12, 4192, 0), 0, []), (.iload_n 1, (1, 0, 1, 0, 0, 0), 0, []), (.iastore, (1, 0, 0, 0, 0, 0), 0, []), (.aload_n 0, (1, 0, 0, 0, 0, 0), 0, []), (.getfield 35, (3, 0, 10, 11, 4191, 1), 0, []), (.aload_n 0, (1, 0, 0, 0, 0, 0), 0, []), (.getfield 98, (3, 0, 10, 12, 4192, 0), 0, []), (.iload_n 2, (1, 0, 2, 0, 0, 0), 0, []), (.iastore, (1, 0, 0, 0, 0, 0), 0, []), (.aload_n 0, (1, 0, 0, 0, 0, 0), 0, []), (.dup, (1, 0, 0, 0, 0, 0), 0, []), (.getfield 98, (3, 0, 10, 12, 4192, 0), 0, []), (.iconst 1, (1, 0, 0, 0, 0, 0), 1, []), (.iadd, (1, 0, 0, 0, 0, 0), 0, []), (.putfield 98, (3, 0, 10, 12, 4192, 0), 0, []), (.aload_n 0, (1, 0, 0, 0, 0, 0), 0, []), (.getfield 98, (3, 0, 10, 12, 4192, 0), 0, []), (.iconst 1, (1, 0, 0, 0, 0, 0), 1, []), (.isub, (1, 0, 0, 0, 0, 0), 0, []), (.ireturn, (1, 3, 0, 0, 0, 0), 0, [])]]
/-- EvenlyPouredModel.feed(I)I -/
noncomputable def bk_138 : List (List am_P) := [[(.iload_n 1, (1, 0, 1, 0, 0, 0), 0, []), (.i2l, (1, 0, 0, 0, 0, 0), 0, []), (.lconst 0, (1, 0, 0, 0, 0, 0), 0, []), (.ldc2_w 124, (3, 0, 255, 0, 5149, 0), 0, []), (.invokestatic 94, (3, 2, 127, 1, 3, 0), 5111, [])],
  [(.ifCond .ne 6, (3, 1, 3, 2, 0, 0), 0, [])],
  [(.bipush (-2), (2, 0, 0, 0, 0, 0), (-2), []), (.ireturn, (1, 3, 0, 0, 0, 0), 0, [])],
  [(.aload_n 0, (1, 0, 0, 0, 0, 0), 0, []), (.getfield 126, (3, 0, 10, 6, 4186, 0), 0, []), (.sipush 160, (3, 0, 0, 0, 0, 0), 160, []), (.if_icmp .ne 6, (3, 1, 5, 4, 0, 0), 0, [])],
  [(.bipush (-4), (2, 0, 0, 0, 0, 0), (-4), []), (.ireturn, (1, 3, 0, 0, 0, 0), 0, [])],
  [(.aload_n 0, (1, 0, 0, 0, 0, 0), 0, []), (.getfield 20, (3, 0, 10, 5, 4185, 1), 0, []), (.aload_n 0, (1, 0, 0, 0, 0, 0), 0, []), (.getfield 126, (3, 0, 10, 6, 4186, 0), 0, []), (.iload_n 1, (1, 0, 1, 0, 0, 0), 0, []), (.iastore, (1, 0, 0, 0, 0, 0), 0, []), (.aload_n 0, (1, 0, 0, 0, 0, 0), 0, []), (.dup, (1, 0, 0, 0, 0, 0), 0, []), (.getfield 126, (3, 0, 10, 6, 4186, 0), 0, []), (.iconst 1, (1, 0, 0, 0, 0, 0), 1, []), (.iadd, (1, 0, 0, 0, 0, 0), 0, []), (.putfield 126, (3, 0, 10, 6, 4186, 0), 0, []), (.aload_n 0, (1, 0, 0, 0, 0, 0), 0, []), (.getfield 126, (3, 0, 10, 6, 4186, 0), 0, []), (.ireturn, (1, 3, 0, 0, 0, 0), 0, [])]]
/-- EvenlyPouredModel.byteAt(I)I -/
noncomputable def bk_139 : List (List am_P) := [[(.iload_n 1, (1, 0, 1, 0, 0, 0), 0, []), (.aload_n 0, (1, 0, 0, 0, 0, 0), 0, []), (.getfield 129, (3, 0, 10, 21, 4201, 0), 0, []), (.if_icmp .ge 17, (3, 1, 2, 1, 0, 0), 0, [])],
  [(.aload_n 0, (1, 0, 0, 0, 0, 0), 0, []), (.getfield 13, (3, 0, 10, 1, 4181, 1), 0, []), (.aload_n 0, (1, 0, 0, 0, 0, 0), 0, []), (.getfield 132, (3, 0, 10, 20, 4200, 0), 0, []), (.iload_n 1, (1, 0, 1, 0, 0, 0), 0, []), (.iadd, (1, 0, 0, 0, 0, 0), 0, []), (.iaload, (1, 0, 0, 0, 0, 0), 0, []), (.goto 4, (3, 1, 3, 0, 0, 0), 0, [])],
  [(.iconst (-1), (1, 0, 0, 0, 0, 0), (-1), []), (.nop, (0, 1, 3, 0, 0, 0), 0, [])],
  [(.ireturn, (1, 3, 0, 0, 0, 0), 0, [])]]
/-- EvenlyPouredModel.nextToken()V -/
noncomputable def bk_140 : List (List am_P) := [[(.aload_n 0, (1, 0, 0, 0, 0, 0), 0, []), (.aload_n 0, (1, 0, 0, 0, 0, 0), 0, []), (.getfield 135, (3, 0, 10, 22, 4202, 0), 0, []), (.invokevirtual 138, (3, 2, 139, 1, 2, 11), 5162, [])],
  [(.bipush 32, (2, 0, 0, 0, 0, 0), 32, []), (.if_icmp .eq 16, (3, 1, 4, 2, 0, 0), 0, [])],
  [(.aload_n 0, (1, 0, 0, 0, 0, 0), 0, []), (.aload_n 0, (1, 0, 0, 0, 0, 0), 0, []), (.getfield 135, (3, 0, 10, 22, 4202, 0), 0, []), (.invokevirtual 138, (3, 2, 139, 3, 2, 11), 5162, [])],
  [(.bipush 10, (2, 0, 0, 0, 0, 0), 10, []), (.if_icmp .ne 16, (3, 1, 5, 4, 0, 0), 0, [])],
  [(.aload_n 0, (1, 0, 0, 0, 0, 0), 0, []), (.dup, (1, 0, 0, 0, 0, 0), 0, []), (.getfield 135, (3, 0, 10, 22, 4202, 0), 0, []), (.iconst 1, (1, 0, 0, 0, 0, 0), 1, []), (.iadd, (1, 0, 0, 0, 0, 0), 0, []), (.putfield 135, (3, 0, 10, 22, 4202, 0), 0, []), (.goto (-36), (3, 1, 0, 0, 0, 0), 0, [])],
  [(.aload_n 0, (1, 0, 0, 0, 0, 0), 0, []), (.aload_n 0, (1, 0, 0, 0, 0, 0), 0, []), (.getfield 135, (3, 0, 10, 22, 4202, 0), 0, []), (.putfield 142, (3, 0, 10, 24, 4204, 0), 0, []), (.aload_n 0, (1, 0, 0, 0, 0, 0), 0, []), (.aload_n 0, (1, 0, 0, 0, 0, 0), 0, []), (.getfield 135, (3, 0, 10, 22, 4202, 0), 0, []), (.invokevirtual 138, (3, 2, 139, 6, 2, 11), 5162, [])],
  [(.istore_n 1, (1, 0, 1, 0, 0, 0), 0, []), (.aload_n 0, (1, 0, 0, 0, 0, 0), 0, []), (.iconst 4, (1, 0, 0, 0, 0, 0), 4, []), (.putfield 145, (3, 0, 10, 23, 4203, 0), 0, []), (.iload_n 1, (1, 0, 1, 0, 0, 0), 0, []), (.ifCond .ge 19, (3, 1, 8, 7, 0, 0), 0, [])],
  [(.aload_n 0, (1, 0, 0, 0, 0, 0), 0, []), (.iconst 0, (1, 0, 0, 0, 0, 0), 0, []), (.putfield 145, (3, 0, 10, 23, 4203, 0), 0, []), (.aload_n 0, (1, 0, 0, 0, 0, 0), 0, []), (.aload_n 0, (1, 0, 0, 0, 0, 0), 0, []), (.getfield 129, (3, 0, 10, 21, 4201, 0), 0, []), (.putfield 142, (3, 0, 10, 24, 4204, 0), 0, []), (.goto 243, (3, 1, 39, 0, 0, 0), 0, [])],
  [(.iload_n 1, (1, 0, 1, 0, 0, 0), 0, []), (.i2l, (1, 0, 0, 0, 0, 0), 0, []), (.ldc2_w 148, (3, 0, 97, 0, 5166, 0), 0, []), (.ldc2_w 150, (3, 0, 122, 0, 5167, 0), 0, []), (.invokestatic 94, (3, 2, 127, 9, 3, 0), 5111, [])],
  [(.ifCond .eq 42, (3, 1, 15, 10, 0, 0), 0, [])],
  [(.aload_n 0, (1, 0, 0, 0, 0, 0), 0, []), (.iconst 1, (1, 0, 0, 0, 0, 0), 1, []), (.putfield 145, (3, 0, 10, 23, 4203, 0), 0, []), (.nop, (0, 1, 11, 0, 0, 0), 0, [])],
  [(.aload_n 0, (1, 0, 0, 0, 0, 0), 0, []), (.aload_n 0, (1, 0, 0, 0, 0, 0), 0, []), (.getfield 135, (3, 0, 10, 22, 4202, 0), 0, []), (.invokevirtual 138, (3, 2, 139, 12, 2, 11), 5162, [])],
  [(.i2l, (1, 0, 0, 0, 0, 0), 0, []), (.ldc2_w 148, (3, 0, 97, 0, 5166, 0), 0, []), (.ldc2_w 150, (3, 0, 122, 0, 5167, 0), 0, []), (.invokestatic 94, (3, 2, 127, 13, 3, 0), 5111, [])],
  [(.ifCond .eq 203, (3, 1, 39, 14, 0, 0), 0, [])],
  [(.aload_n 0, (1, 0, 0, 0, 0, 0), 0, []), (.dup, (1, 0, 0, 0, 0, 0), 0, []), (.getfield 135, (3, 0, 10, 22, 4202, 0), 0, []), (.iconst 1, (1, 0, 0, 0, 0, 0), 1, []), (.iadd, (1, 0, 0, 0, 0, 0), 0, []), (.putfield 135, (3, 0, 10, 22, 4202, 0), 0, []), (.goto (-31), (3, 1, 11, 0, 0, 0), 0, [])],
  [(.iload_n 1, (1, 0, 1, 0, 0, 0), 0, []), (.i2l, (1, 0, 0, 0, 0, 0), 0, []), (.ldc2_w 152, (3, 0, 48, 0, 5168, 0), 0, []), (.ldc2_w 154, (3, 0, 57, 0, 5169, 0), 0, []), (.invokestatic 94, (3, 2, 127, 16, 3, 0), 5111, [])],
  [(.ifCond .eq 107, (3, 1, 30, 17, 0, 0), 0, [])],
  [(.aload_n 0, (1, 0, 0, 0, 0, 0), 0, []), (.iconst 2, (1, 0, 0, 0, 0, 0), 2, []), (.putfield 145, (3, 0, 10, 23, 4203, 0), 0, []), (.aload_n 0, (1, 0, 0, 0, 0, 0), 0, []), (.lconst 0, (1, 0, 0, 0, 0, 0), 0, []), (.putfield 156, (3, 0, 10, 25, 4205, 2), 0, []), (.iconst 0, (1, 0, 0, 0, 0, 0), 0, []), (.istore_n 2, (1, 0, 2, 0, 0, 0), 0, []), (.nop, (0, 1, 18, 0, 0, 0), 0, [])],
  [(.aload_n 0, (1, 0, 0, 0, 0, 0), 0, []), (.aload_n 0, (1, 0, 0, 0, 0, 0), 0, []), (.getfield 135, (3, 0, 10, 22, 4202, 0), 0, []), (.invokevirtual 138, (3, 2, 139, 19, 2, 11), 5162, [])],
  [(.i2l, (1, 0, 0, 0, 0, 0), 0, []), (.ldc2_w 152, (3, 0, 48, 0, 5168, 0), 0, []), (.ldc2_w 154, (3, 0, 57, 0, 5169, 0), 0, []), (.invokestatic 94, (3, 2, 127, 20, 3, 0), 5111, [])],
  [(.ifCond .eq 57, (3, 1, 26, 21, 0, 0), 0, [])],
  [(.aload_n 0, (1, 0, 0, 0, 0, 0), 0, []), (.iload_n 2, (1, 0, 2, 0, 0, 0), 0, []), (.iconst 4, (1, 0, 0, 0, 0, 0), 4, []), (.if_icmp .ge 28, (3, 1, 24, 22, 0, 0), 0, [])],
  [(.ldc2_w 160, (3, 0, 10, 0, 5170, 0), 0, []), (.aload_n 0, (1, 0, 0, 0, 0, 0), 0, []), (.getfield 156, (3, 0, 10, 25, 4205, 2), 0, []), (.lmul, (1, 0, 0, 0, 0, 0), 0, []), (.aload_n 0, (1, 0, 0, 0, 0, 0), 0, []), (.aload_n 0, (1, 0, 0, 0, 0, 0), 0, []), (.getfield 135, (3, 0, 10, 22, 4202, 0), 0, []), (.invokevirtual 138, (3, 2, 139, 23, 2, 11), 5162, [])],
  [(.i2l, (1, 0, 0, 0, 0, 0), 0, []), (.ladd, (1, 0, 0, 0, 0, 0), 0, []), (.ldc2_w 152, (3, 0, 48, 0, 5168, 0), 0, []), (.lsub, (1, 0, 0, 0, 0, 0), 0, []), (.goto 7, (3, 1, 25, 0, 0, 0), 0, [])],
  [(.aload_n 0, (1, 0, 0, 0, 0, 0), 0, []), (.getfield 156, (3, 0, 10, 25, 4205, 2), 0, []), (.nop, (0, 1, 25, 0, 0, 0), 0, [])],
  [(.putfield 156, (3, 0, 10, 25, 4205, 2), 0, []), (.iinc 2 1, (3, 0, 2, 0, 0, 0), 1, []), (.aload_n 0, (1, 0, 0, 0, 0, 0), 0, []), (.dup, (1, 0, 0, 0, 0, 0), 0, []), (.getfield 135, (3, 0, 10, 22, 4202, 0), 0, []), (.iconst 1, (1, 0, 0, 0, 0, 0), 1, []), (.iadd, (1, 0, 0, 0, 0, 0), 0, []), (.putfield 135, (3, 0, 10, 22, 4202, 0), 0, []), (.goto (-72), (3, 1, 18, 0, 0, 0), 0, [])],
  [(.aload_n 0, (1, 0, 0, 0, 0, 0), 0, []), (.iload_n 2, (1, 0, 2, 0, 0, 0), 0, []), (.iconst 4, (1, 0, 0, 0, 0, 0), 4, []), (.if_icmp .le 7, (3, 1, 28, 27, 0, 0), 0, [])],
  [(.iconst 4, (1, 0, 0, 0, 0, 0), 4, []), (.goto 4, (3, 1, 29, 0, 0, 0), 0, [])],
  [(.iconst 2, (1, 0, 0, 0, 0, 0), 2, []), (.nop, (0, 1, 29, 0, 0, 0), 0, [])],
  [(.putfield 145, (3, 0, 10, 23, 4203, 0), 0, []), (.goto 72, (3, 1, 39, 0, 0, 0), 0, [])],
  [(.iload_n 1, (1, 0, 1, 0, 0, 0), 0, []), (.bipush 40, (2, 0, 0, 0, 0, 0), 40, []), (.if_icmp .eq 45, (3, 1, 38, 31, 0, 0), 0, [])],
  [(.iload_n 1, (1, 0, 1, 0, 0, 0), 0, []), (.bipush 41, (2, 0, 0, 0, 0, 0), 41, []), (.if_icmp .eq 39, (3, 1, 38, 32, 0, 0), 0, [])],
  [(.iload_n 1, (1, 0, 1, 0, 0, 0), 0, []), (.bipush 59, (2, 0, 0, 0, 0, 0), 59, []), (.if_icmp .eq 33, (3, 1, 38, 33, 0, 0), 0, [])],
  [(.iload_n 1, (1, 0, 1, 0, 0, 0), 0, []), (.bipush 43, (2, 0, 0, 0, 0, 0), 43, []), (.if_icmp .eq 27, (3, 1, 38, 34, 0, 0), 0, [])],
  [(.iload_n 1, (1, 0, 1, 0, 0, 0), 0, []), (.bipush 45, (2, 0, 0, 0, 0, 0), 45, []), (.if_icmp .eq 21, (3, 1, 38, 35, 0, 0), 0, [])],
  [(.iload_n 1, (1, 0, 1, 0, 0, 0), 0, []), (.bipush 42, (2, 0, 0, 0, 0, 0), 42, []), (.if_icmp .eq 15, (3, 1, 38, 36, 0, 0), 0, [])],
  [(.iload_n 1, (1, 0, 1, 0, 0, 0), 0, []), (.bipush 60, (2, 0, 0, 0, 0, 0), 60, []), (.if_icmp .eq 9, (3, 1, 38, 37, 0, 0), 0, [])],
  [(.iload_n 1, (1, 0, 1, 0, 0, 0), 0, []), (.bipush 61, (2, 0, 0, 0, 0, 0), 61, []), (.if_icmp .ne 24, (3, 1, 39, 38, 0, 0), 0, [])],
  [(.aload_n 0, (1, 0, 0, 0, 0, 0), 0, []), (.iconst 3, (1, 0, 0, 0, 0, 0), 3, []), (.putfield 145, (3, 0, 10, 23, 4203, 0), 0, []), (.aload_n 0, (1, 0, 0, 0, 0, 0), 0, []), (.iload_n 1, (1, 0, 1, 0, 0, 0), 0, []), (.i2l, (1, 0, 0, 0, 0, 0), 0, []), (.putfield 156, (3, 0, 10, 25, 4205, 2), 0, []), (.aload_n 0, (1, 0, 0, 0, 0, 0), 0, []), (.dup, (1, 0, 0, 0, 0, 0), 0, []), (.getfield 135, (3, 0, 10, 22, 4202, 0), 0, []), (.iconst 1, (1, 0, 0, 0, 0, 0), 1, []), (.iadd, (1, 0, 0, 0, 0, 0), 0, []), (.putfield 135, (3, 0, 10, 22, 4202, 0), 0, []), (.nop, (0, 1, 39, 0, 0, 0), 0, [])],
  [(.return_, (1, 3, 0, 0, 0, 0), 0, [])]]
/-- EvenlyPouredModel.fail()V -/
noncomputable def bk_141 : List (List am_P) := [[(.aload_n 0, (1, 0, 0, 0, 0, 0), 0, []), (.getfield 162, (3, 0, 10, 27, 4207, 3), 0, []), (.ifCond .ne 16, (3, 1, 2, 1, 0, 0), 0, [])],
  [(.aload_n 0, (1, 0, 0, 0, 0, 0), 0, []), (.iconst 1, (1, 0, 0, 0, 0, 0), 1, []), (.putfield 162, (3, 0, 10, 27, 4207, 3), 0, []), (.aload_n 0, (1, 0, 0, 0, 0, 0), 0, []), (.aload_n 0, (1, 0, 0, 0, 0, 0), 0, []), (.getfield 142, (3, 0, 10, 24, 4204, 0), 0, []), (.putfield 166, (3, 0, 10, 28, 4208, 0), 0, []), (.nop, (0, 1, 2, 0, 0, 0), 0, [])],
  [(.return_, (1, 3, 0, 0, 0, 0), 0, [])]]
/-- EvenlyPouredModel.isLetter(II)Z -/
noncomputable def bk_142 : List (List am_P) := [[(.aload_n 0, (1, 0, 0, 0, 0, 0), 0, []), (.getfield 142, (3, 0, 10, 24, 4204, 0), 0, []), (.iload_n 1, (1, 0, 1, 0, 0, 0), 0, []), (.iadd, (1, 0, 0, 0, 0, 0), 0, []), (.aload_n 0, (1, 0, 0, 0, 0, 0), 0, []), (.getfield 135, (3, 0, 10, 22, 4202, 0), 0, []), (.if_icmp .ge 25, (3, 1, 5, 1, 0, 0), 0, [])],
  [(.aload_n 0, (1, 0, 0, 0, 0, 0), 0, []), (.aload_n 0, (1, 0, 0, 0, 0, 0), 0, []), (.getfield 142, (3, 0, 10, 24, 4204, 0), 0, []), (.iload_n 1, (1, 0, 1, 0, 0, 0), 0, []), (.iadd, (1, 0, 0, 0, 0, 0), 0, []), (.invokevirtual 138, (3, 2, 139, 2, 2, 11), 5162, [])],
  [(.iload_n 2, (1, 0, 2, 0, 0, 0), 0, []), (.if_icmp .ne 7, (3, 1, 4, 3, 0, 0), 0, [])],
  [(.iconst 1, (1, 0, 0, 0, 0, 0), 1, []), (.goto 16, (3, 1, 8, 0, 0, 0), 0, [])],
  [(.iconst 0, (1, 0, 0, 0, 0, 0), 0, []), (.goto 12, (3, 1, 8, 0, 0, 0), 0, [])],
  [(.iload_n 2, (1, 0, 2, 0, 0, 0), 0, []), (.ifCond .ne 7, (3, 1, 7, 6, 0, 0), 0, [])],
  [(.iconst 1, (1, 0, 0, 0, 0, 0), 1, []), (.goto 4, (3, 1, 8, 0, 0, 0), 0, [])],
  [(.iconst 0, (1, 0, 0, 0, 0, 0), 0, []), (.nop, (0, 1, 8, 0, 0, 0), 0, [])],
  [(.ireturn, (1, 3, 0, 0, 0, 1), 0, [])]]
/-- EvenlyPouredModel.isWord(IIIIIIII)Z -/
noncomputable def bk_143 : List (List am_P) := [[(.aload_n 0, (1, 0, 0, 0, 0, 0), 0, []), (.getfield 162, (3, 0, 10, 27, 4207, 3), 0, []), (.ifCond .ne 108, (3, 1, 20, 1, 0, 0), 0, [])],
  [(.aload_n 0, (1, 0, 0, 0, 0, 0), 0, []), (.getfield 145, (3, 0, 10, 23, 4203, 0), 0, []), (.iconst 1, (1, 0, 0, 0, 0, 0), 1, []), (.if_icmp .ne 100, (3, 1, 20, 2, 0, 0), 0, [])],
  [(.aload_n 0, (1, 0, 0, 0, 0, 0), 0, []), (.getfield 135, (3, 0, 10, 22, 4202, 0), 0, []), (.aload_n 0, (1, 0, 0, 0, 0, 0), 0, []), (.getfield 142, (3, 0, 10, 24, 4204, 0), 0, []), (.bipush 8, (2, 0, 0, 0, 0, 0), 8, []), (.iadd, (1, 0, 0, 0, 0, 0), 0, []), (.if_icmp .gt 86, (3, 1, 20, 3, 0, 0), 0, [])],
  [(.aload_n 0, (1, 0, 0, 0, 0, 0), 0, []), (.iconst 0, (1, 0, 0, 0, 0, 0), 0, []), (.iload_n 1, (1, 0, 1, 0, 0, 0), 0, []), (.invokevirtual 169, (3, 2, 142, 4, 3, 11), 5175, [])],
  [(.ifCond .eq 77, (3, 1, 20, 5, 0, 0), 0, [])],
  [(.aload_n 0, (1, 0, 0, 0, 0, 0), 0, []), (.iconst 1, (1, 0, 0, 0, 0, 0), 1, []), (.iload_n 2, (1, 0, 2, 0, 0, 0), 0, []), (.invokevirtual 169, (3, 2, 142, 6, 3, 11), 5175, [])],
  [(.ifCond .eq 68, (3, 1, 20, 7, 0, 0), 0, [])],
  [(.aload_n 0, (1, 0, 0, 0, 0, 0), 0, []), (.iconst 2, (1, 0, 0, 0, 0, 0), 2, []), (.iload_n 3, (1, 0, 3, 0, 0, 0), 0, []), (.invokevirtual 169, (3, 2, 142, 8, 3, 11), 5175, [])],
  [(.ifCond .eq 59, (3, 1, 20, 9, 0, 0), 0, [])],
  [(.aload_n 0, (1, 0, 0, 0, 0, 0), 0, []), (.iconst 3, (1, 0, 0, 0, 0, 0), 3, []), (.iload 4, (2, 0, 4, 0, 0, 0), 0, []), (.invokevirtual 169, (3, 2, 142, 10, 3, 11), 5175, [])],
  [(.ifCond .eq 49, (3, 1, 20, 11, 0, 0), 0, [])],
  [(.aload_n 0, (1, 0, 0, 0, 0, 0), 0, []), (.iconst 4, (1, 0, 0, 0, 0, 0), 4, []), (.iload 5, (2, 0, 5, 0, 0, 0), 0, []), (.invokevirtual 169, (3, 2, 142, 12, 3, 11), 5175, [])],
  [(.ifCond .eq 39, (3, 1, 20, 13, 0, 0), 0, [])],
  [(.aload_n 0, (1, 0, 0, 0, 0, 0), 0, []), (.iconst 5, (1, 0, 0, 0, 0, 0), 5, []), (.iload 6, (2, 0, 6, 0, 0, 0), 0, []), (.invokevirtual 169, (3, 2, 142, 14, 3, 11), 5175, [])],
  [(.ifCond .eq 29, (3, 1, 20, 15, 0, 0), 0, [])],
  [(.aload_n 0, (1, 0, 0, 0, 0, 0), 0, []), (.bipush 6, (2, 0, 0, 0, 0, 0), 6, []), (.iload 7, (2, 0, 7, 0, 0, 0), 0, []), (.invokevirtual 169, (3, 2, 142, 16, 3, 11), 5175, [])],
  [(.ifCond .eq 18, (3, 1, 20, 17, 0, 0), 0, [])],
  [(.aload_n 0, (1, 0, 0, 0, 0, 0), 0, []), (.bipush 7, (2, 0, 0, 0, 0, 0), 7, []), (.iload 8, (2, 0, 8, 0, 0, 0), 0, []), (.invokevirtual 169, (3, 2, 142, 18, 3, 11), 5175, [])],
  [(.ifCond .eq 7, (3, 1, 20, 19, 0, 0), 0, [])],
  [(.iconst 1, (1, 0, 0, 0, 0, 0), 1, []), (.goto 4, (3, 1, 21, 0, 0, 0), 0, [])],
  [(.iconst 0, (1, 0, 0, 0, 0, 0), 0, []), (.nop, (0, 1, 21, 0, 0, 0), 0, [])],
  [(.ireturn, (1, 3, 0, 0, 0, 1), 0, [])]]
/-- EvenlyPouredModel.isSign(I)Z -/
noncomputable def bk_144 : List (List am_P) := [[(.aload_n 0, (1, 0, 0, 0, 0, 0), 0, []), (.getfield 162, (3, 0, 10, 27, 4207, 3), 0, []), (.ifCond .ne 25, (3, 1, 4, 1, 0, 0), 0, [])],
  [(.aload_n 0, (1, 0, 0, 0, 0, 0), 0, []), (.getfield 145, (3, 0, 10, 23, 4203, 0), 0, []), (.iconst 3, (1, 0, 0, 0, 0, 0), 3, []), (.if_icmp .ne 17, (3, 1, 4, 2, 0, 0), 0, [])],
  [(.aload_n 0, (1, 0, 0, 0, 0, 0), 0, []), (.getfield 156, (3, 0, 10, 25, 4205, 2), 0, []), (.iload_n 1, (1, 0, 1, 0, 0, 0), 0, []), (.i2l, (1, 0, 0, 0, 0, 0), 0, []), (.lcmp, (1, 0, 0, 0, 0, 0), 0, []), (.ifCond .ne 7, (3, 1, 4, 3, 0, 0), 0, [])],
  [(.iconst 1, (1, 0, 0, 0, 0, 0), 1, []), (.goto 4, (3, 1, 5, 0, 0, 0), 0, [])],
  [(.iconst 0, (1, 0, 0, 0, 0, 0), 0, []), (.nop, (0, 1, 5, 0, 0, 0), 0, [])],
  [(.ireturn, (1, 3, 0, 0, 0, 1), 0, [])]]
/-- EvenlyPouredModel.opens()Z -/
noncomputable def bk_145 : List (List am_P) := [[(.aload_n 0, (1, 0, 0, 0, 0, 0), 0, []), (.getfield 173, (3, 0, 10, 26, 4206, 0), 0, []), (.iconst 5, (1, 0, 0, 0, 0, 0), 5, []), (.if_icmp .ne 9, (3, 1, 3, 1, 0, 0), 0, [])],
  [(.aload_n 0, (1, 0, 0, 0, 0, 0), 0, []), (.invokevirtual 176, (3, 2, 141, 2, 1, 11), 5183, [])],
  [(.iconst 0, (1, 0, 0, 0, 0, 0), 0, []), (.ireturn, (1, 3, 0, 0, 0, 1), 0, [])],
  [(.aload_n 0, (1, 0, 0, 0, 0, 0), 0, []), (.dup, (1, 0, 0, 0, 0, 0), 0, []), (.getfield 173, (3, 0, 10, 26, 4206, 0), 0, []), (.iconst 1, (1, 0, 0, 0, 0, 0), 1, []), (.iadd, (1, 0, 0, 0, 0, 0), 0, []), (.putfield 173, (3, 0, 10, 26, 4206, 0), 0, []), (.aload_n 0, (1, 0, 0, 0, 0, 0), 0, []), (.invokevirtual 179, (3, 2, 140, 4, 1, 11), 5158, [])],
  [(.iconst 1, (1, 0, 0, 0, 0, 0), 1, []), (.ireturn, (1, 3, 0, 0, 0, 1), 0, [])]]
/-- EvenlyPouredModel.name()I -/
noncomputable def bk_146 : List (List am_P) := [[(.aload_n 0, (1, 0, 0, 0, 0, 0), 0, []), (.bipush 100, (2, 0, 0, 0, 0, 0), 100, []), (.bipush 114, (2, 0, 0, 0, 0, 0), 114, []), (.bipush 105, (2, 0, 0, 0, 0, 0), 105, []), (.bipush 98, (2, 0, 0, 0, 0, 0), 98, []), (.iconst 0, (1, 0, 0, 0, 0, 0), 0, []), (.iconst 0, (1, 0, 0, 0, 0, 0), 0, []), (.iconst 0, (1, 0, 0, 0, 0, 0), 0, []), (.iconst 0, (1, 0, 0, 0, 0, 0), 0, []), (.invokevirtual 182, (3, 2, 143, 1, 9, 11), 5171, [])],
  [(.ifCond .eq 8, (3, 1, 3, 2, 0, 0), 0, [])],
  [(.aload_n 0, (1, 0, 0, 0, 0, 0), 0, []), (.getfield 186, (3, 0, 10, 14, 4194, 0), 0, []), (.ireturn, (1, 3, 0, 0, 0, 0), 0, [])],
  [(.aload_n 0, (1, 0, 0, 0, 0, 0), 0, []), (.bipush 100, (2, 0, 0, 0, 0, 0), 100, []), (.bipush 114, (2, 0, 0, 0, 0, 0), 114, []), (.bipush 105, (2, 0, 0, 0, 0, 0), 105, []), (.bipush 98, (2, 0, 0, 0, 0, 0), 98, []), (.bipush 115, (2, 0, 0, 0, 0, 0), 115, []), (.iconst 0, (1, 0, 0, 0, 0, 0), 0, []), (.iconst 0, (1, 0, 0, 0, 0, 0), 0, []), (.iconst 0, (1, 0, 0, 0, 0, 0), 0, []), (.invokevirtual 182, (3, 2, 143, 4, 9, 11), 5171, [])],
  [(.ifCond .eq 8, (3, 1, 6, 5, 0, 0), 0, [])],
  [(.aload_n 0, (1, 0, 0, 0, 0, 0), 0, []), (.getfield 189, (3, 0, 10, 15, 4195, 0), 0, []), (.ireturn, (1, 3, 0, 0, 0, 0), 0, [])],
  [(.aload_n 0, (1, 0, 0, 0, 0, 0), 0, []), (.bipush 99, (2, 0, 0, 0, 0, 0), 99, []), (.bipush 117, (2, 0, 0, 0, 0, 0), 117, []), (.bipush 112, (2, 0, 0, 0, 0, 0), 112, []), (.bipush 115, (2, 0, 0, 0, 0, 0), 115, []), (.iconst 0, (1, 0, 0, 0, 0, 0), 0, []), (.iconst 0, (1, 0, 0, 0, 0, 0), 0, []), (.iconst 0, (1, 0, 0, 0, 0, 0), 0, []), (.iconst 0, (1, 0, 0, 0, 0, 0), 0, []), (.invokevirtual 182, (3, 2, 143, 7, 9, 11), 5171, [])],
  [(.ifCond .eq 8, (3, 1, 9, 8, 0, 0), 0, [])],
  [(.aload_n 0, (1, 0, 0, 0, 0, 0), 0, []), (.getfield 192, (3, 0, 10, 16, 4196, 0), 0, []), (.ireturn, (1, 3, 0, 0, 0, 0), 0, [])],
  [(.aload_n 0, (1, 0, 0, 0, 0, 0), 0, []), (.bipush 99, (2, 0, 0, 0, 0, 0), 99, []), (.bipush 117, (2, 0, 0, 0, 0, 0), 117, []), (.bipush 112, (2, 0, 0, 0, 0, 0), 112, []), (.iconst 0, (1, 0, 0, 0, 0, 0), 0, []), (.iconst 0, (1, 0, 0, 0, 0, 0), 0, []), (.iconst 0, (1, 0, 0, 0, 0, 0), 0, []), (.iconst 0, (1, 0, 0, 0, 0, 0), 0, []), (.iconst 0, (1, 0, 0, 0, 0, 0), 0, []), (.invokevirtual 182, (3, 2, 143, 10, 9, 11), 5171, [])],
  [(.ifCond .eq 8, (3, 1, 12, 11, 0, 0), 0, [])],
  [(.aload_n 0, (1, 0, 0, 0, 0, 0), 0, []), (.getfield 195, (3, 0, 10, 17, 4197, 0), 0, []), (.ireturn, (1, 3, 0, 0, 0, 0), 0, [])],
  [(.aload_n 0, (1, 0, 0, 0, 0, 0), 0, []), (.bipush 102, (2, 0, 0, 0, 0, 0), 102, []), (.bipush 117, (2, 0, 0, 0, 0, 0), 117, []), (.bipush 108, (2, 0, 0, 0, 0, 0), 108, []), (.bipush 108, (2, 0, 0, 0, 0, 0), 108, []), (.iconst 0, (1, 0, 0, 0, 0, 0), 0, []), (.iconst 0, (1, 0, 0, 0, 0, 0), 0, []), (.iconst 0, (1, 0, 0, 0, 0, 0), 0, []), (.iconst 0, (1, 0, 0, 0, 0, 0), 0, []), (.invokevirtual 182, (3, 2, 143, 13, 9, 11), 5171, [])],
  [(.ifCond .eq 8, (3, 1, 15, 14, 0, 0), 0, [])],
  [(.aload_n 0, (1, 0, 0, 0, 0, 0), 0, []), (.getfield 198, (3, 0, 10, 18, 4198, 0), 0, []), (.ireturn, (1, 3, 0, 0, 0, 0), 0, [])],
  [(.aload_n 0, (1, 0, 0, 0, 0, 0), 0, []), (.bipush 119, (2, 0, 0, 0, 0, 0), 119, []), (.bipush 97, (2, 0, 0, 0, 0, 0), 97, []), (.bipush 115, (2, 0, 0, 0, 0, 0), 115, []), (.iconst 0, (1, 0, 0, 0, 0, 0), 0, []), (.iconst 0, (1, 0, 0, 0, 0, 0), 0, []), (.iconst 0, (1, 0, 0, 0, 0, 0), 0, []), (.iconst 0, (1, 0, 0, 0, 0, 0), 0, []), (.iconst 0, (1, 0, 0, 0, 0, 0), 0, []), (.invokevirtual 182, (3, 2, 143, 16, 9, 11), 5171, [])],
  [(.ifCond .eq 8, (3, 1, 18, 17, 0, 0), 0, [])],
  [(.aload_n 0, (1, 0, 0, 0, 0, 0), 0, []), (.getfield 201, (3, 0, 10, 19, 4199, 0), 0, []), (.ireturn, (1, 3, 0, 0, 0, 0), 0, [])],
  [(.aload_n 0, (1, 0, 0, 0, 0, 0), 0, []), (.invokevirtual 176, (3, 2, 141, 19, 1, 11), 5183, [])],
  [(.iconst 0, (1, 0, 0, 0, 0, 0), 0, []), (.ireturn, (1, 3, 0, 0, 0, 0), 0, [])]]
/-- EvenlyPouredModel.atom()I -/
noncomputable def bk_147 : List (List am_P) := [[(.iconst 0, (1, 0, 0, 0, 0, 0), 0, []), (.istore_n 1, (1, 0, 1, 0, 0, 0), 0, []), (.aload_n 0, (1, 0, 0, 0, 0, 0), 0, []), (.bipush 45, (2, 0, 0, 0, 0, 0), 45, []), (.invokevirtual 204, (3, 2, 144, 1, 2, 11), 5215, [])],
  [(.ifCond .eq 29, (3, 1, 6, 2, 0, 0), 0, [])],
  [(.aload_n 0, (1, 0, 0, 0, 0, 0), 0, []), (.invokevirtual 207, (3, 2, 145, 3, 1, 11), 5199, [])],
  [(.ifCond .eq 146, (3, 1, 28, 4, 0, 0), 0, [])],
  [(.aload_n 0, (1, 0, 0, 0, 0, 0), 0, []), (.invokevirtual 211, (3, 2, 147, 5, 1, 11), 5211, [])],
  [(.ineg, (1, 0, 0, 0, 0, 0), 0, []), (.istore_n 1, (1, 0, 1, 0, 0, 0), 0, []), (.aload_n 0, (1, 0, 0, 0, 0, 0), 0, []), (.dup, (1, 0, 0, 0, 0, 0), 0, []), (.getfield 173, (3, 0, 10, 26, 4206, 0), 0, []), (.iconst 1, (1, 0, 0, 0, 0, 0), 1, []), (.isub, (1, 0, 0, 0, 0, 0), 0, []), (.putfield 173, (3, 0, 10, 26, 4206, 0), 0, []), (.goto 127, (3, 1, 28, 0, 0, 0), 0, [])],
  [(.aload_n 0, (1, 0, 0, 0, 0, 0), 0, []), (.bipush 40, (2, 0, 0, 0, 0, 0), 40, []), (.invokevirtual 204, (3, 2, 144, 7, 2, 11), 5215, [])],
  [(.ifCond .eq 52, (3, 1, 17, 8, 0, 0), 0, [])],
  [(.aload_n 0, (1, 0, 0, 0, 0, 0), 0, []), (.invokevirtual 207, (3, 2, 145, 9, 1, 11), 5199, [])],
  [(.ifCond .eq 111, (3, 1, 28, 10, 0, 0), 0, [])],
  [(.aload_n 0, (1, 0, 0, 0, 0, 0), 0, []), (.invokevirtual 215, (3, 2, 152, 11, 1, 11), 5187, [])],
  [(.istore_n 1, (1, 0, 1, 0, 0, 0), 0, []), (.aload_n 0, (1, 0, 0, 0, 0, 0), 0, []), (.bipush 41, (2, 0, 0, 0, 0, 0), 41, []), (.invokevirtual 204, (3, 2, 144, 12, 2, 11), 5215, [])],
  [(.ifCond .ne 7, (3, 1, 14, 13, 0, 0), 0, [])],
  [(.aload_n 0, (1, 0, 0, 0, 0, 0), 0, []), (.invokevirtual 176, (3, 2, 141, 14, 1, 11), 5183, [])],
  [(.aload_n 0, (1, 0, 0, 0, 0, 0), 0, []), (.dup, (1, 0, 0, 0, 0, 0), 0, []), (.getfield 173, (3, 0, 10, 26, 4206, 0), 0, []), (.iconst 1, (1, 0, 0, 0, 0, 0), 1, []), (.isub, (1, 0, 0, 0, 0, 0), 0, []), (.putfield 173, (3, 0, 10, 26, 4206, 0), 0, []), (.aload_n 0, (1, 0, 0, 0, 0, 0), 0, []), (.getfield 162, (3, 0, 10, 27, 4207, 3), 0, []), (.ifCond .ne 76, (3, 1, 28, 15, 0, 0), 0, [])],
  [(.aload_n 0, (1, 0, 0, 0, 0, 0), 0, []), (.invokevirtual 179, (3, 2, 140, 16, 1, 11), 5158, [])],
  [(.goto 69, (3, 1, 28, 0, 0, 0), 0, [])],
  [(.aload_n 0, (1, 0, 0, 0, 0, 0), 0, []), (.getfield 162, (3, 0, 10, 27, 4207, 3), 0, []), (.ifCond .ne 24, (3, 1, 21, 18, 0, 0), 0, [])],
  [(.aload_n 0, (1, 0, 0, 0, 0, 0), 0, []), (.getfield 145, (3, 0, 10, 23, 4203, 0), 0, []), (.iconst 2, (1, 0, 0, 0, 0, 0), 2, []), (.if_icmp .ne 16, (3, 1, 21, 19, 0, 0), 0, [])],
  [(.aload_n 0, (1, 0, 0, 0, 0, 0), 0, []), (.getfield 156, (3, 0, 10, 25, 4205, 2), 0, []), (.l2i, (1, 0, 0, 0, 0, 0), 0, []), (.istore_n 1, (1, 0, 1, 0, 0, 0), 0, []), (.aload_n 0, (1, 0, 0, 0, 0, 0), 0, []), (.invokevirtual 179, (3, 2, 140, 20, 1, 11), 5158, [])],
  [(.goto 41, (3, 1, 28, 0, 0, 0), 0, [])],
  [(.aload_n 0, (1, 0, 0, 0, 0, 0), 0, []), (.getfield 162, (3, 0, 10, 27, 4207, 3), 0, []), (.ifCond .ne 30, (3, 1, 27, 22, 0, 0), 0, [])],
  [(.aload_n 0, (1, 0, 0, 0, 0, 0), 0, []), (.getfield 145, (3, 0, 10, 23, 4203, 0), 0, []), (.iconst 1, (1, 0, 0, 0, 0, 0), 1, []), (.if_icmp .ne 22, (3, 1, 27, 23, 0, 0), 0, [])],
  [(.aload_n 0, (1, 0, 0, 0, 0, 0), 0, []), (.invokevirtual 218, (3, 2, 146, 24, 1, 11), 5219, [])],
  [(.istore_n 1, (1, 0, 1, 0, 0, 0), 0, []), (.aload_n 0, (1, 0, 0, 0, 0, 0), 0, []), (.getfield 162, (3, 0, 10, 27, 4207, 3), 0, []), (.ifCond .ne 14, (3, 1, 28, 25, 0, 0), 0, [])],
  [(.aload_n 0, (1, 0, 0, 0, 0, 0), 0, []), (.invokevirtual 179, (3, 2, 140, 26, 1, 11), 5158, [])],
  [(.goto 7, (3, 1, 28, 0, 0, 0), 0, [])],
  [(.aload_n 0, (1, 0, 0, 0, 0, 0), 0, []), (.invokevirtual 176, (3, 2, 141, 28, 1, 11), 5183, [])],
  [(.iload_n 1, (1, 0, 1, 0, 0, 0), 0, []), (.ireturn, (1, 3, 0, 0, 0, 0), 0, [])]]
/-- EvenlyPouredModel.term()I -/
noncomputable def bk_148 : List (List am_P) := [[(.aload_n 0, (1, 0, 0, 0, 0, 0), 0, []), (.invokevirtual 211, (3, 2, 147, 1, 1, 11), 5211, [])],
  [(.istore_n 1, (1, 0, 1, 0, 0, 0), 0, []), (.nop, (0, 1, 2, 0, 0, 0), 0, [])],
  [(.aload_n 0, (1, 0, 0, 0, 0, 0), 0, []), (.bipush 42, (2, 0, 0, 0, 0, 0), 42, []), (.invokevirtual 204, (3, 2, 144, 3, 2, 11), 5215, [])],
  [(.ifCond .eq 17, (3, 1, 7, 4, 0, 0), 0, [])],
  [(.aload_n 0, (1, 0, 0, 0, 0, 0), 0, []), (.invokevirtual 179, (3, 2, 140, 5, 1, 11), 5158, [])],
  [(.iload_n 1, (1, 0, 1, 0, 0, 0), 0, []), (.aload_n 0, (1, 0, 0, 0, 0, 0), 0, []), (.invokevirtual 211, (3, 2, 147, 6, 1, 11), 5211, [])],
  [(.imul, (1, 0, 0, 0, 0, 0), 0, []), (.istore_n 1, (1, 0, 1, 0, 0, 0), 0, []), (.goto (-20), (3, 1, 2, 0, 0, 0), 0, [])],
  [(.iload_n 1, (1, 0, 1, 0, 0, 0), 0, []), (.ireturn, (1, 3, 0, 0, 0, 0), 0, [])]]
/-- EvenlyPouredModel.added()I -/
noncomputable def bk_149 : List (List am_P) := [[(.aload_n 0, (1, 0, 0, 0, 0, 0), 0, []), (.invokevirtual 221, (3, 2, 148, 1, 1, 11), 5207, [])],
  [(.istore_n 1, (1, 0, 1, 0, 0, 0), 0, []), (.nop, (0, 1, 2, 0, 0, 0), 0, [])],
  [(.aload_n 0, (1, 0, 0, 0, 0, 0), 0, []), (.bipush 43, (2, 0, 0, 0, 0, 0), 43, []), (.invokevirtual 204, (3, 2, 144, 3, 2, 11), 5215, [])],
  [(.ifCond .ne 12, (3, 1, 6, 4, 0, 0), 0, [])],
  [(.aload_n 0, (1, 0, 0, 0, 0, 0), 0, []), (.bipush 45, (2, 0, 0, 0, 0, 0), 45, []), (.invokevirtual 204, (3, 2, 144, 5, 2, 11), 5215, [])],
  [(.ifCond .eq 46, (3, 1, 15, 6, 0, 0), 0, [])],
  [(.aload_n 0, (1, 0, 0, 0, 0, 0), 0, []), (.getfield 156, (3, 0, 10, 25, 4205, 2), 0, []), (.ldc2_w 224, (3, 0, 43, 0, 5223, 0), 0, []), (.lcmp, (1, 0, 0, 0, 0, 0), 0, []), (.ifCond .ne 7, (3, 1, 8, 7, 0, 0), 0, [])],
  [(.iconst 1, (1, 0, 0, 0, 0, 0), 1, []), (.goto 4, (3, 1, 9, 0, 0, 0), 0, [])],
  [(.iconst 0, (1, 0, 0, 0, 0, 0), 0, []), (.nop, (0, 1, 9, 0, 0, 0), 0, [])],
  [(.istore_n 2, (1, 0, 2, 0, 0, 0), 0, []), (.aload_n 0, (1, 0, 0, 0, 0, 0), 0, []), (.invokevirtual 179, (3, 2, 140, 10, 1, 11), 5158, [])],
  [(.aload_n 0, (1, 0, 0, 0, 0, 0), 0, []), (.invokevirtual 221, (3, 2, 148, 11, 1, 11), 5207, [])],
  [(.istore_n 3, (1, 0, 3, 0, 0, 0), 0, []), (.iload_n 2, (1, 0, 2, 0, 0, 0), 0, []), (.ifCond .eq 9, (3, 1, 13, 12, 0, 0), 0, [])],
  [(.iload_n 1, (1, 0, 1, 0, 0, 0), 0, []), (.iload_n 3, (1, 0, 3, 0, 0, 0), 0, []), (.iadd, (1, 0, 0, 0, 0, 0), 0, []), (.goto 6, (3, 1, 14, 0, 0, 0), 0, [])],
  [(.iload_n 1, (1, 0, 1, 0, 0, 0), 0, []), (.iload_n 3, (1, 0, 3, 0, 0, 0), 0, []), (.isub, (1, 0, 0, 0, 0, 0), 0, []), (.nop, (0, 1, 14, 0, 0, 0), 0, [])],
  [(.istore_n 1, (1, 0, 1, 0, 0, 0), 0, []), (.goto (-58), (3, 1, 2, 0, 0, 0), 0, [])],
  [(.iload_n 1, (1, 0, 1, 0, 0, 0), 0, []), (.ireturn, (1, 3, 0, 0, 0, 0), 0, [])]]
/-- EvenlyPouredModel.not()I -/
noncomputable def bk_150 : List (List am_P) := [[(.aload_n 0, (1, 0, 0, 0, 0, 0), 0, []), (.bipush 110, (2, 0, 0, 0, 0, 0), 110, []), (.bipush 111, (2, 0, 0, 0, 0, 0), 111, []), (.bipush 116, (2, 0, 0, 0, 0, 0), 116, []), (.iconst 0, (1, 0, 0, 0, 0, 0), 0, []), (.iconst 0, (1, 0, 0, 0, 0, 0), 0, []), (.iconst 0, (1, 0, 0, 0, 0, 0), 0, []), (.iconst 0, (1, 0, 0, 0, 0, 0), 0, []), (.iconst 0, (1, 0, 0, 0, 0, 0), 0, []), (.invokevirtual 182, (3, 2, 143, 1, 9, 11), 5171, [])],
  [(.ifCond .eq 37, (3, 1, 10, 2, 0, 0), 0, [])],
  [(.aload_n 0, (1, 0, 0, 0, 0, 0), 0, []), (.invokevirtual 207, (3, 2, 145, 3, 1, 11), 5199, [])],
  [(.ifCond .ne 5, (3, 1, 5, 4, 0, 0), 0, [])],
  [(.iconst 0, (1, 0, 0, 0, 0, 0), 0, []), (.ireturn, (1, 3, 0, 0, 0, 0), 0, [])],
  [(.aload_n 0, (1, 0, 0, 0, 0, 0), 0, []), (.invokevirtual 226, (3, 2, 150, 6, 1, 11), 5195, [])],
  [(.istore_n 1, (1, 0, 1, 0, 0, 0), 0, []), (.aload_n 0, (1, 0, 0, 0, 0, 0), 0, []), (.dup, (1, 0, 0, 0, 0, 0), 0, []), (.getfield 173, (3, 0, 10, 26, 4206, 0), 0, []), (.iconst 1, (1, 0, 0, 0, 0, 0), 1, []), (.isub, (1, 0, 0, 0, 0, 0), 0, []), (.putfield 173, (3, 0, 10, 26, 4206, 0), 0, []), (.iload_n 1, (1, 0, 1, 0, 0, 0), 0, []), (.ifCond .ne 7, (3, 1, 8, 7, 0, 0), 0, [])],
  [(.iconst 1, (1, 0, 0, 0, 0, 0), 1, []), (.goto 4, (3, 1, 9, 0, 0, 0), 0, [])],
  [(.iconst 0, (1, 0, 0, 0, 0, 0), 0, []), (.nop, (0, 1, 9, 0, 0, 0), 0, [])],
  [(.ireturn, (1, 3, 0, 0, 0, 0), 0, [])],
  [(.aload_n 0, (1, 0, 0, 0, 0, 0), 0, []), (.invokevirtual 229, (3, 2, 149, 11, 1, 11), 5203, [])],
  [(.istore_n 1, (1, 0, 1, 0, 0, 0), 0, []), (.aload_n 0, (1, 0, 0, 0, 0, 0), 0, []), (.bipush 60, (2, 0, 0, 0, 0, 0), 60, []), (.invokevirtual 204, (3, 2, 144, 12, 2, 11), 5215, [])],
  [(.ifCond .ne 14, (3, 1, 16, 13, 0, 0), 0, [])],
  [(.aload_n 0, (1, 0, 0, 0, 0, 0), 0, []), (.bipush 61, (2, 0, 0, 0, 0, 0), 61, []), (.invokevirtual 204, (3, 2, 144, 14, 2, 11), 5215, [])],
  [(.ifCond .ne 5, (3, 1, 16, 15, 0, 0), 0, [])],
  [(.iload_n 1, (1, 0, 1, 0, 0, 0), 0, []), (.ireturn, (1, 3, 0, 0, 0, 0), 0, [])],
  [(.aload_n 0, (1, 0, 0, 0, 0, 0), 0, []), (.getfield 156, (3, 0, 10, 25, 4205, 2), 0, []), (.ldc2_w 232, (3, 0, 60, 0, 5224, 0), 0, []), (.lcmp, (1, 0, 0, 0, 0, 0), 0, []), (.ifCond .ne 7, (3, 1, 18, 17, 0, 0), 0, [])],
  [(.iconst 1, (1, 0, 0, 0, 0, 0), 1, []), (.goto 4, (3, 1, 19, 0, 0, 0), 0, [])],
  [(.iconst 0, (1, 0, 0, 0, 0, 0), 0, []), (.nop, (0, 1, 19, 0, 0, 0), 0, [])],
  [(.istore_n 2, (1, 0, 2, 0, 0, 0), 0, []), (.aload_n 0, (1, 0, 0, 0, 0, 0), 0, []), (.invokevirtual 179, (3, 2, 140, 20, 1, 11), 5158, [])],
  [(.aload_n 0, (1, 0, 0, 0, 0, 0), 0, []), (.invokevirtual 229, (3, 2, 149, 21, 1, 11), 5203, [])],
  [(.istore_n 3, (1, 0, 3, 0, 0, 0), 0, []), (.iload_n 2, (1, 0, 2, 0, 0, 0), 0, []), (.ifCond .eq 11, (3, 1, 24, 22, 0, 0), 0, [])],
  [(.iload_n 1, (1, 0, 1, 0, 0, 0), 0, []), (.iload_n 3, (1, 0, 3, 0, 0, 0), 0, []), (.if_icmp .ge 15, (3, 1, 26, 23, 0, 0), 0, [])],
  [(.goto 8, (3, 1, 25, 0, 0, 0), 0, [])],
  [(.iload_n 1, (1, 0, 1, 0, 0, 0), 0, []), (.iload_n 3, (1, 0, 3, 0, 0, 0), 0, []), (.if_icmp .ne 7, (3, 1, 26, 25, 0, 0), 0, [])],
  [(.iconst 1, (1, 0, 0, 0, 0, 0), 1, []), (.goto 4, (3, 1, 27, 0, 0, 0), 0, [])],
  [(.iconst 0, (1, 0, 0, 0, 0, 0), 0, []), (.nop, (0, 1, 27, 0, 0, 0), 0, [])],
  [(.ireturn, (1, 3, 0, 0, 0, 0), 0, [])]]
/-- EvenlyPouredModel.both()I -/
noncomputable def bk_151 : List (List am_P) := [[(.aload_n 0, (1, 0, 0, 0, 0, 0), 0, []), (.invokevirtual 226, (3, 2, 150, 1, 1, 11), 5195, [])],
  [(.istore_n 1, (1, 0, 1, 0, 0, 0), 0, []), (.nop, (0, 1, 2, 0, 0, 0), 0, [])],
  [(.aload_n 0, (1, 0, 0, 0, 0, 0), 0, []), (.bipush 97, (2, 0, 0, 0, 0, 0), 97, []), (.bipush 110, (2, 0, 0, 0, 0, 0), 110, []), (.bipush 100, (2, 0, 0, 0, 0, 0), 100, []), (.iconst 0, (1, 0, 0, 0, 0, 0), 0, []), (.iconst 0, (1, 0, 0, 0, 0, 0), 0, []), (.iconst 0, (1, 0, 0, 0, 0, 0), 0, []), (.iconst 0, (1, 0, 0, 0, 0, 0), 0, []), (.iconst 0, (1, 0, 0, 0, 0, 0), 0, []), (.invokevirtual 182, (3, 2, 143, 3, 9, 11), 5171, [])],
  [(.ifCond .eq 29, (3, 1, 11, 4, 0, 0), 0, [])],
  [(.aload_n 0, (1, 0, 0, 0, 0, 0), 0, []), (.invokevirtual 179, (3, 2, 140, 5, 1, 11), 5158, [])],
  [(.aload_n 0, (1, 0, 0, 0, 0, 0), 0, []), (.invokevirtual 226, (3, 2, 150, 6, 1, 11), 5195, [])],
  [(.istore_n 2, (1, 0, 2, 0, 0, 0), 0, []), (.iload_n 1, (1, 0, 1, 0, 0, 0), 0, []), (.ifCond .eq 11, (3, 1, 9, 7, 0, 0), 0, [])],
  [(.iload_n 2, (1, 0, 2, 0, 0, 0), 0, []), (.ifCond .eq 7, (3, 1, 9, 8, 0, 0), 0, [])],
  [(.iconst 1, (1, 0, 0, 0, 0, 0), 1, []), (.goto 4, (3, 1, 10, 0, 0, 0), 0, [])],
  [(.iconst 0, (1, 0, 0, 0, 0, 0), 0, []), (.nop, (0, 1, 10, 0, 0, 0), 0, [])],
  [(.istore_n 1, (1, 0, 1, 0, 0, 0), 0, []), (.goto (-41), (3, 1, 2, 0, 0, 0), 0, [])],
  [(.iload_n 1, (1, 0, 1, 0, 0, 0), 0, []), (.ireturn, (1, 3, 0, 0, 0, 0), 0, [])]]
/-- EvenlyPouredModel.either()I -/
noncomputable def bk_152 : List (List am_P) := [[(.aload_n 0, (1, 0, 0, 0, 0, 0), 0, []), (.invokevirtual 234, (3, 2, 151, 1, 1, 11), 5191, [])],
  [(.istore_n 1, (1, 0, 1, 0, 0, 0), 0, []), (.nop, (0, 1, 2, 0, 0, 0), 0, [])],
  [(.aload_n 0, (1, 0, 0, 0, 0, 0), 0, []), (.bipush 111, (2, 0, 0, 0, 0, 0), 111, []), (.bipush 114, (2, 0, 0, 0, 0, 0), 114, []), (.iconst 0, (1, 0, 0, 0, 0, 0), 0, []), (.iconst 0, (1, 0, 0, 0, 0, 0), 0, []), (.iconst 0, (1, 0, 0, 0, 0, 0), 0, []), (.iconst 0, (1, 0, 0, 0, 0, 0), 0, []), (.iconst 0, (1, 0, 0, 0, 0, 0), 0, []), (.iconst 0, (1, 0, 0, 0, 0, 0), 0, []), (.invokevirtual 182, (3, 2, 143, 3, 9, 11), 5171, [])],
  [(.ifCond .eq 29, (3, 1, 11, 4, 0, 0), 0, [])],
  [(.aload_n 0, (1, 0, 0, 0, 0, 0), 0, []), (.invokevirtual 179, (3, 2, 140, 5, 1, 11), 5158, [])],
  [(.aload_n 0, (1, 0, 0, 0, 0, 0), 0, []), (.invokevirtual 234, (3, 2, 151, 6, 1, 11), 5191, [])],
  [(.istore_n 2, (1, 0, 2, 0, 0, 0), 0, []), (.iload_n 1, (1, 0, 1, 0, 0, 0), 0, []), (.ifCond .ne 7, (3, 1, 8, 7, 0, 0), 0, [])],
  [(.iload_n 2, (1, 0, 2, 0, 0, 0), 0, []), (.ifCond .eq 7, (3, 1, 9, 8, 0, 0), 0, [])],
  [(.iconst 1, (1, 0, 0, 0, 0, 0), 1, []), (.goto 4, (3, 1, 10, 0, 0, 0), 0, [])],
  [(.iconst 0, (1, 0, 0, 0, 0, 0), 0, []), (.nop, (0, 1, 10, 0, 0, 0), 0, [])],
  [(.istore_n 1, (1, 0, 1, 0, 0, 0), 0, []), (.goto (-40), (3, 1, 2, 0, 0, 0), 0, [])],
  [(.iload_n 1, (1, 0, 1, 0, 0, 0), 0, []), (.ireturn, (1, 3, 0, 0, 0, 0), 0, [])]]
/-- EvenlyPouredModel.part(Z)I -/
noncomputable def bk_153 : List (List am_P) := [[(.iload_n 1, (1, 0, 1, 0, 0, 0), 0, []), (.ifCond .ne 7, (3, 1, 2, 1, 0, 0), 0, [])],
  [(.aload_n 0, (1, 0, 0, 0, 0, 0), 0, []), (.invokevirtual 176, (3, 2, 141, 2, 1, 11), 5183, [])],
  [(.aload_n 0, (1, 0, 0, 0, 0, 0), 0, []), (.getfield 162, (3, 0, 10, 27, 4207, 3), 0, []), (.ifCond .ne 7, (3, 1, 4, 3, 0, 0), 0, [])],
  [(.aload_n 0, (1, 0, 0, 0, 0, 0), 0, []), (.invokevirtual 179, (3, 2, 140, 4, 1, 11), 5158, [])],
  [(.aload_n 0, (1, 0, 0, 0, 0, 0), 0, []), (.getfield 162, (3, 0, 10, 27, 4207, 3), 0, []), (.ifCond .eq 7, (3, 1, 6, 5, 0, 0), 0, [])],
  [(.iconst 0, (1, 0, 0, 0, 0, 0), 0, []), (.goto 7, (3, 1, 7, 0, 0, 0), 0, [])],
  [(.aload_n 0, (1, 0, 0, 0, 0, 0), 0, []), (.invokevirtual 215, (3, 2, 152, 7, 1, 11), 5187, [])],
  [(.istore_n 2, (1, 0, 2, 0, 0, 0), 0, []), (.aload_n 0, (1, 0, 0, 0, 0, 0), 0, []), (.bipush 59, (2, 0, 0, 0, 0, 0), 59, []), (.invokevirtual 204, (3, 2, 144, 8, 2, 11), 5215, [])],
  [(.ifCond .ne 7, (3, 1, 10, 9, 0, 0), 0, [])],
  [(.aload_n 0, (1, 0, 0, 0, 0, 0), 0, []), (.invokevirtual 176, (3, 2, 141, 10, 1, 11), 5183, [])],
  [(.aload_n 0, (1, 0, 0, 0, 0, 0), 0, []), (.getfield 162, (3, 0, 10, 27, 4207, 3), 0, []), (.ifCond .ne 7, (3, 1, 12, 11, 0, 0), 0, [])],
  [(.aload_n 0, (1, 0, 0, 0, 0, 0), 0, []), (.invokevirtual 179, (3, 2, 140, 12, 1, 11), 5158, [])],
  [(.iload_n 2, (1, 0, 2, 0, 0, 0), 0, []), (.ireturn, (1, 3, 0, 0, 0, 0), 0, [])]]
/-- EvenlyPouredModel.read(II)I -/
noncomputable def bk_154 : List (List am_P) := [[(.aload_n 0, (1, 0, 0, 0, 0, 0), 0, []), (.sipush 160, (3, 0, 0, 0, 0, 0), 160, []), (.iload_n 1, (1, 0, 1, 0, 0, 0), 0, []), (.imul, (1, 0, 0, 0, 0, 0), 0, []), (.putfield 132, (3, 0, 10, 20, 4200, 0), 0, []), (.aload_n 0, (1, 0, 0, 0, 0, 0), 0, []), (.aload_n 0, (1, 0, 0, 0, 0, 0), 0, []), (.getfield 17, (3, 0, 10, 2, 4182, 1), 0, []), (.iload_n 1, (1, 0, 1, 0, 0, 0), 0, []), (.iaload, (1, 0, 0, 0, 0, 0), 0, []), (.putfield 129, (3, 0, 10, 21, 4201, 0), 0, []), (.aload_n 0, (1, 0, 0, 0, 0, 0), 0, []), (.iconst 0, (1, 0, 0, 0, 0, 0), 0, []), (.putfield 135, (3, 0, 10, 22, 4202, 0), 0, []), (.aload_n 0, (1, 0, 0, 0, 0, 0), 0, []), (.iconst 0, (1, 0, 0, 0, 0, 0), 0, []), (.putfield 173, (3, 0, 10, 26, 4206, 0), 0, []), (.aload_n 0, (1, 0, 0, 0, 0, 0), 0, []), (.iconst 0, (1, 0, 0, 0, 0, 0), 0, []), (.putfield 162, (3, 0, 10, 27, 4207, 3), 0, []), (.aload_n 0, (1, 0, 0, 0, 0, 0), 0, []), (.invokevirtual 179, (3, 2, 140, 1, 1, 11), 5158, [])],
  [(.aload_n 0, (1, 0, 0, 0, 0, 0), 0, []), (.aload_n 0, (1, 0, 0, 0, 0, 0), 0, []), (.bipush 115, (2, 0, 0, 0, 0, 0), 115, []), (.bipush 116, (2, 0, 0, 0, 0, 0), 116, []), (.bipush 114, (2, 0, 0, 0, 0, 0), 114, []), (.bipush 111, (2, 0, 0, 0, 0, 0), 111, []), (.bipush 110, (2, 0, 0, 0, 0, 0), 110, []), (.bipush 103, (2, 0, 0, 0, 0, 0), 103, []), (.iconst 0, (1, 0, 0, 0, 0, 0), 0, []), (.iconst 0, (1, 0, 0, 0, 0, 0), 0, []), (.invokevirtual 182, (3, 2, 143, 2, 9, 11), 5171, [])],
  [(.invokevirtual 237, (3, 2, 153, 3, 2, 11), 5179, [])],
  [(.istore_n 3, (1, 0, 3, 0, 0, 0), 0, []), (.aload_n 0, (1, 0, 0, 0, 0, 0), 0, []), (.getfield 162, (3, 0, 10, 27, 4207, 3), 0, []), (.ifCond .eq 7, (3, 1, 5, 4, 0, 0), 0, [])],
  [(.iconst 0, (1, 0, 0, 0, 0, 0), 0, []), (.goto 24, (3, 1, 7, 0, 0, 0), 0, [])],
  [(.aload_n 0, (1, 0, 0, 0, 0, 0), 0, []), (.aload_n 0, (1, 0, 0, 0, 0, 0), 0, []), (.bipush 100, (2, 0, 0, 0, 0, 0), 100, []), (.bipush 114, (2, 0, 0, 0, 0, 0), 114, []), (.bipush 105, (2, 0, 0, 0, 0, 0), 105, []), (.bipush 112, (2, 0, 0, 0, 0, 0), 112, []), (.bipush 115, (2, 0, 0, 0, 0, 0), 115, []), (.iconst 0, (1, 0, 0, 0, 0, 0), 0, []), (.iconst 0, (1, 0, 0, 0, 0, 0), 0, []), (.iconst 0, (1, 0, 0, 0, 0, 0), 0, []), (.invokevirtual 182, (3, 2, 143, 6, 9, 11), 5171, [])],
  [(.invokevirtual 237, (3, 2, 153, 7, 2, 11), 5179, [])],
  [(.istore 4, (2, 0, 4, 0, 0, 0), 0, []), (.aload_n 0, (1, 0, 0, 0, 0, 0), 0, []), (.getfield 162, (3, 0, 10, 27, 4207, 3), 0, []), (.ifCond .eq 7, (3, 1, 9, 8, 0, 0), 0, [])],
  [(.iconst 0, (1, 0, 0, 0, 0, 0), 0, []), (.goto 24, (3, 1, 11, 0, 0, 0), 0, [])],
  [(.aload_n 0, (1, 0, 0, 0, 0, 0), 0, []), (.aload_n 0, (1, 0, 0, 0, 0, 0), 0, []), (.bipush 108, (2, 0, 0, 0, 0, 0), 108, []), (.bipush 105, (2, 0, 0, 0, 0, 0), 105, []), (.bipush 107, (2, 0, 0, 0, 0, 0), 107, []), (.bipush 101, (2, 0, 0, 0, 0, 0), 101, []), (.bipush 100, (2, 0, 0, 0, 0, 0), 100, []), (.iconst 0, (1, 0, 0, 0, 0, 0), 0, []), (.iconst 0, (1, 0, 0, 0, 0, 0), 0, []), (.iconst 0, (1, 0, 0, 0, 0, 0), 0, []), (.invokevirtual 182, (3, 2, 143, 10, 9, 11), 5171, [])],
  [(.invokevirtual 237, (3, 2, 153, 11, 2, 11), 5179, [])],
  [(.istore 5, (2, 0, 5, 0, 0, 0), 0, []), (.aload_n 0, (1, 0, 0, 0, 0, 0), 0, []), (.getfield 162, (3, 0, 10, 27, 4207, 3), 0, []), (.ifCond .ne 14, (3, 1, 14, 12, 0, 0), 0, [])],
  [(.aload_n 0, (1, 0, 0, 0, 0, 0), 0, []), (.getfield 145, (3, 0, 10, 23, 4203, 0), 0, []), (.ifCond .eq 7, (3, 1, 14, 13, 0, 0), 0, [])],
  [(.aload_n 0, (1, 0, 0, 0, 0, 0), 0, []), (.invokevirtual 176, (3, 2, 141, 14, 1, 11), 5183, [])],
  [(.iload_n 2, (1, 0, 2, 0, 0, 0), 0, []), (.ifCond .ne 7, (3, 1, 16, 15, 0, 0), 0, [])],
  [(.iload_n 3, (1, 0, 3, 0, 0, 0), 0, []), (.goto 15, (3, 1, 19, 0, 0, 0), 0, [])],
  [(.iload_n 2, (1, 0, 2, 0, 0, 0), 0, []), (.iconst 1, (1, 0, 0, 0, 0, 0), 1, []), (.if_icmp .ne 8, (3, 1, 18, 17, 0, 0), 0, [])],
  [(.iload 4, (2, 0, 4, 0, 0, 0), 0, []), (.goto 5, (3, 1, 19, 0, 0, 0), 0, [])],
  [(.iload 5, (2, 0, 5, 0, 0, 0), 0, []), (.nop, (0, 1, 19, 0, 0, 0), 0, [])],
  [(.ireturn, (1, 3, 0, 0, 0, 0), 0, [])]]
/-- EvenlyPouredModel.text()I -/
noncomputable def bk_155 : List (List am_P) := [[(.aload_n 0, (1, 0, 0, 0, 0, 0), 0, []), (.getfield 91, (3, 0, 10, 3, 4183, 0), 0, []), (.bipush 6, (2, 0, 0, 0, 0, 0), 6, []), (.if_icmp .ne 6, (3, 1, 2, 1, 0, 0), 0, [])],
  [(.bipush (-4), (2, 0, 0, 0, 0, 0), (-4), []), (.ireturn, (1, 3, 0, 0, 0, 0), 0, [])],
  [(.iconst 0, (1, 0, 0, 0, 0, 0), 0, []), (.istore_n 1, (1, 0, 1, 0, 0, 0), 0, []), (.nop, (0, 1, 3, 0, 0, 0), 0, [])],
  [(.iload_n 1, (1, 0, 1, 0, 0, 0), 0, []), (.aload_n 0, (1, 0, 0, 0, 0, 0), 0, []), (.getfield 126, (3, 0, 10, 6, 4186, 0), 0, []), (.if_icmp .ge 30, (3, 1, 5, 4, 0, 0), 0, [])],
  [(.aload_n 0, (1, 0, 0, 0, 0, 0), 0, []), (.getfield 13, (3, 0, 10, 1, 4181, 1), 0, []), (.sipush 160, (3, 0, 0, 0, 0, 0), 160, []), (.aload_n 0, (1, 0, 0, 0, 0, 0), 0, []), (.getfield 91, (3, 0, 10, 3, 4183, 0), 0, []), (.imul, (1, 0, 0, 0, 0, 0), 0, []), (.iload_n 1, (1, 0, 1, 0, 0, 0), 0, []), (.iadd, (1, 0, 0, 0, 0, 0), 0, []), (.aload_n 0, (1, 0, 0, 0, 0, 0), 0, []), (.getfield 20, (3, 0, 10, 5, 4185, 1), 0, []), (.iload_n 1, (1, 0, 1, 0, 0, 0), 0, []), (.iaload, (1, 0, 0, 0, 0, 0), 0, []), (.iastore, (1, 0, 0, 0, 0, 0), 0, []), (.iinc 1 1, (3, 0, 1, 0, 0, 0), 1, []), (.goto (-32), (3, 1, 3, 0, 0, 0), 0, [])],
  [(.aload_n 0, (1, 0, 0, 0, 0, 0), 0, []), (.getfield 17, (3, 0, 10, 2, 4182, 1), 0, []), (.aload_n 0, (1, 0, 0, 0, 0, 0), 0, []), (.getfield 91, (3, 0, 10, 3, 4183, 0), 0, []), (.aload_n 0, (1, 0, 0, 0, 0, 0), 0, []), (.getfield 126, (3, 0, 10, 6, 4186, 0), 0, []), (.iastore, (1, 0, 0, 0, 0, 0), 0, []), (.aload_n 0, (1, 0, 0, 0, 0, 0), 0, []), (.iconst 0, (1, 0, 0, 0, 0, 0), 0, []), (.putfield 126, (3, 0, 10, 6, 4186, 0), 0, []), (.aload_n 0, (1, 0, 0, 0, 0, 0), 0, []), (.aload_n 0, (1, 0, 0, 0, 0, 0), 0, []), (.getfield 91, (3, 0, 10, 3, 4183, 0), 0, []), (.iconst 0, (1, 0, 0, 0, 0, 0), 0, []), (.invokevirtual 241, (3, 2, 154, 6, 3, 11), 5154, [])],
  [(.istore_n 1, (1, 0, 1, 0, 0, 0), 0, []), (.aload_n 0, (1, 0, 0, 0, 0, 0), 0, []), (.getfield 162, (3, 0, 10, 27, 4207, 3), 0, []), (.ifCond .eq 11, (3, 1, 8, 7, 0, 0), 0, [])],
  [(.bipush (-100), (2, 0, 0, 0, 0, 0), (-100), []), (.aload_n 0, (1, 0, 0, 0, 0, 0), 0, []), (.getfield 166, (3, 0, 10, 28, 4208, 0), 0, []), (.isub, (1, 0, 0, 0, 0, 0), 0, []), (.ireturn, (1, 3, 0, 0, 0, 0), 0, [])],
  [(.aload_n 0, (1, 0, 0, 0, 0, 0), 0, []), (.dup, (1, 0, 0, 0, 0, 0), 0, []), (.getfield 91, (3, 0, 10, 3, 4183, 0), 0, []), (.iconst 1, (1, 0, 0, 0, 0, 0), 1, []), (.iadd, (1, 0, 0, 0, 0, 0), 0, []), (.putfield 91, (3, 0, 10, 3, 4183, 0), 0, []), (.aload_n 0, (1, 0, 0, 0, 0, 0), 0, []), (.getfield 91, (3, 0, 10, 3, 4183, 0), 0, []), (.iconst 1, (1, 0, 0, 0, 0, 0), 1, []), (.isub, (1, 0, 0, 0, 0, 0), 0, []), (.ireturn, (1, 3, 0, 0, 0, 0), 0, [])]]
/-- EvenlyPouredModel.force(I)I -/
noncomputable def bk_156 : List (List am_P) := [[(.iload_n 1, (1, 0, 1, 0, 0, 0), 0, []), (.i2l, (1, 0, 0, 0, 0, 0), 0, []), (.lconst 0, (1, 0, 0, 0, 0, 0), 0, []), (.aload_n 0, (1, 0, 0, 0, 0, 0), 0, []), (.getfield 91, (3, 0, 10, 3, 4183, 0), 0, []), (.iconst 1, (1, 0, 0, 0, 0, 0), 1, []), (.isub, (1, 0, 0, 0, 0, 0), 0, []), (.i2l, (1, 0, 0, 0, 0, 0), 0, []), (.invokestatic 94, (3, 2, 127, 1, 3, 0), 5111, [])],
  [(.ifCond .ne 6, (3, 1, 3, 2, 0, 0), 0, [])],
  [(.bipush (-2), (2, 0, 0, 0, 0, 0), (-2), []), (.ireturn, (1, 3, 0, 0, 0, 0), 0, [])],
  [(.aload_n 0, (1, 0, 0, 0, 0, 0), 0, []), (.getfield 245, (3, 0, 10, 4, 4184, 0), 0, []), (.istore_n 2, (1, 0, 2, 0, 0, 0), 0, []), (.aload_n 0, (1, 0, 0, 0, 0, 0), 0, []), (.iload_n 1, (1, 0, 1, 0, 0, 0), 0, []), (.putfield 245, (3, 0, 10, 4, 4184, 0), 0, []), (.iload_n 2, (1, 0, 2, 0, 0, 0), 0, []), (.ireturn, (1, 3, 0, 0, 0, 0), 0, [])]]
/-- EvenlyPouredModel.says(IIIII)I -/
noncomputable def bk_157 : List (List am_P) := [[(.aload_n 0, (1, 0, 0, 0, 0, 0), 0, []), (.iload_n 2, (1, 0, 2, 0, 0, 0), 0, []), (.putfield 186, (3, 0, 10, 14, 4194, 0), 0, []), (.aload_n 0, (1, 0, 0, 0, 0, 0), 0, []), (.aload_n 0, (1, 0, 0, 0, 0, 0), 0, []), (.getfield 26, (3, 0, 10, 8, 4188, 0), 0, []), (.putfield 189, (3, 0, 10, 15, 4195, 0), 0, []), (.aload_n 0, (1, 0, 0, 0, 0, 0), 0, []), (.aload_n 0, (1, 0, 0, 0, 0, 0), 0, []), (.getfield 23, (3, 0, 10, 7, 4187, 0), 0, []), (.putfield 192, (3, 0, 10, 16, 4196, 0), 0, []), (.aload_n 0, (1, 0, 0, 0, 0, 0), 0, []), (.iload_n 3, (1, 0, 3, 0, 0, 0), 0, []), (.putfield 195, (3, 0, 10, 17, 4197, 0), 0, []), (.aload_n 0, (1, 0, 0, 0, 0, 0), 0, []), (.iload 4, (2, 0, 4, 0, 0, 0), 0, []), (.putfield 198, (3, 0, 10, 18, 4198, 0), 0, []), (.aload_n 0, (1, 0, 0, 0, 0, 0), 0, []), (.iload 5, (2, 0, 5, 0, 0, 0), 0, []), (.putfield 201, (3, 0, 10, 19, 4199, 0), 0, []), (.aload_n 0, (1, 0, 0, 0, 0, 0), 0, []), (.aload_n 0, (1, 0, 0, 0, 0, 0), 0, []), (.getfield 245, (3, 0, 10, 4, 4184, 0), 0, []), (.iload_n 1, (1, 0, 1, 0, 0, 0), 0, []), (.invokevirtual 241, (3, 2, 154, 1, 3, 11), 5154, [])],
  [(.iconst 0, (1, 0, 0, 0, 0, 0), 0, []), (.iload_n 1, (1, 0, 1, 0, 0, 0), 0, []), (.iconst 2, (1, 0, 0, 0, 0, 0), 2, []), (.if_icmp .ne 9, (3, 1, 3, 2, 0, 0), 0, [])],
  [(.sipush 9999, (3, 0, 0, 0, 0, 0), 9999, []), (.goto 6, (3, 1, 4, 0, 0, 0), 0, [])],
  [(.sipush 999, (3, 0, 0, 0, 0, 0), 999, []), (.nop, (0, 1, 4, 0, 0, 0), 0, [])],
  [(.invokestatic 248, (3, 2, 128, 5, 3, 0), 6020, [])],
  [(.ireturn, (1, 3, 0, 0, 0, 0), 0, [])]]
/-- EvenlyPouredModel.forgets()V -/
noncomputable def bk_158 : List (List am_P) := [[(.iconst 0, (1, 0, 0, 0, 0, 0), 0, []), (.istore_n 1, (1, 0, 1, 0, 0, 0), 0, []), (.nop, (0, 1, 1, 0, 0, 0), 0, [])],
  [(.iload_n 1, (1, 0, 1, 0, 0, 0), 0, []), (.sipush 9600, (3, 0, 0, 0, 0, 0), 9600, []), (.if_icmp .ge 23, (3, 1, 3, 2, 0, 0), 0, [])],
  [(.aload_n 0, (1, 0, 0, 0, 0, 0), 0, []), (.getfield 41, (3, 0, 10, 29, 4209, 1), 0, []), (.iload_n 1, (1, 0, 1, 0, 0, 0), 0, []), (.iconst (-1), (1, 0, 0, 0, 0, 0), (-1), []), (.iastore, (1, 0, 0, 0, 0, 0), 0, []), (.aload_n 0, (1, 0, 0, 0, 0, 0), 0, []), (.getfield 44, (3, 0, 10, 30, 4210, 1), 0, []), (.iload_n 1, (1, 0, 1, 0, 0, 0), 0, []), (.iconst (-1), (1, 0, 0, 0, 0, 0), (-1), []), (.iastore, (1, 0, 0, 0, 0, 0), 0, []), (.iinc 1 1, (3, 0, 1, 0, 0, 0), 1, []), (.goto (-24), (3, 1, 1, 0, 0, 0), 0, [])],
  [(.return_, (1, 3, 0, 0, 0, 0), 0, [])]]
/-- EvenlyPouredModel.noteOf(IIII)I -/
noncomputable def bk_159 : List (List am_P) := [[(.iload_n 0, (1, 0, 0, 0, 0, 0), 0, []), (.iconst 4, (1, 0, 0, 0, 0, 0), 4, []), (.imul, (1, 0, 0, 0, 0, 0), 0, []), (.iload_n 1, (1, 0, 1, 0, 0, 0), 0, []), (.iadd, (1, 0, 0, 0, 0, 0), 0, []), (.bipush 25, (2, 0, 0, 0, 0, 0), 25, []), (.imul, (1, 0, 0, 0, 0, 0), 0, []), (.iload_n 2, (1, 0, 2, 0, 0, 0), 0, []), (.iadd, (1, 0, 0, 0, 0, 0), 0, []), (.iconst 4, (1, 0, 0, 0, 0, 0), 4, []), (.imul, (1, 0, 0, 0, 0, 0), 0, []), (.iload_n 3, (1, 0, 3, 0, 0, 0), 0, []), (.iadd, (1, 0, 0, 0, 0, 0), 0, []), (.ireturn, (1, 3, 0, 0, 0, 0), 0, [])]]
/-- EvenlyPouredModel.strong(IIII)I -/
noncomputable def bk_160 : List (List am_P) := [[(.iload_n 1, (1, 0, 1, 0, 0, 0), 0, []), (.iload_n 2, (1, 0, 2, 0, 0, 0), 0, []), (.iload_n 3, (1, 0, 3, 0, 0, 0), 0, []), (.iload 4, (2, 0, 4, 0, 0, 0), 0, []), (.invokestatic 252, (3, 2, 159, 1, 4, 0), 6013, [])],
  [(.istore 5, (2, 0, 5, 0, 0, 0), 0, []), (.aload_n 0, (1, 0, 0, 0, 0, 0), 0, []), (.getfield 41, (3, 0, 10, 29, 4209, 1), 0, []), (.iload 5, (2, 0, 5, 0, 0, 0), 0, []), (.iaload, (1, 0, 0, 0, 0, 0), 0, []), (.iconst (-1), (1, 0, 0, 0, 0, 0), (-1), []), (.if_icmp .ne 20, (3, 1, 4, 2, 0, 0), 0, [])],
  [(.aload_n 0, (1, 0, 0, 0, 0, 0), 0, []), (.getfield 41, (3, 0, 10, 29, 4209, 1), 0, []), (.iload 5, (2, 0, 5, 0, 0, 0), 0, []), (.aload_n 0, (1, 0, 0, 0, 0, 0), 0, []), (.iconst 0, (1, 0, 0, 0, 0, 0), 0, []), (.iload_n 1, (1, 0, 1, 0, 0, 0), 0, []), (.iload_n 2, (1, 0, 2, 0, 0, 0), 0, []), (.iload_n 3, (1, 0, 3, 0, 0, 0), 0, []), (.iload 4, (2, 0, 4, 0, 0, 0), 0, []), (.invokevirtual 256, (3, 2, 157, 3, 6, 11), 6016, [])],
  [(.iastore, (1, 0, 0, 0, 0, 0), 0, []), (.nop, (0, 1, 4, 0, 0, 0), 0, [])],
  [(.aload_n 0, (1, 0, 0, 0, 0, 0), 0, []), (.getfield 41, (3, 0, 10, 29, 4209, 1), 0, []), (.iload 5, (2, 0, 5, 0, 0, 0), 0, []), (.iaload, (1, 0, 0, 0, 0, 0), 0, []), (.ireturn, (1, 3, 0, 0, 0, 0), 0, [])]]
/-- EvenlyPouredModel.drips(IIII)I -/
noncomputable def bk_161 : List (List am_P) := [[(.iload_n 1, (1, 0, 1, 0, 0, 0), 0, []), (.iload_n 2, (1, 0, 2, 0, 0, 0), 0, []), (.iload_n 3, (1, 0, 3, 0, 0, 0), 0, []), (.iload 4, (2, 0, 4, 0, 0, 0), 0, []), (.invokestatic 252, (3, 2, 159, 1, 4, 0), 6013, [])],
  [(.istore 5, (2, 0, 5, 0, 0, 0), 0, []), (.aload_n 0, (1, 0, 0, 0, 0, 0), 0, []), (.getfield 44, (3, 0, 10, 30, 4210, 1), 0, []), (.iload 5, (2, 0, 5, 0, 0, 0), 0, []), (.iaload, (1, 0, 0, 0, 0, 0), 0, []), (.iconst (-1), (1, 0, 0, 0, 0, 0), (-1), []), (.if_icmp .ne 20, (3, 1, 4, 2, 0, 0), 0, [])],
  [(.aload_n 0, (1, 0, 0, 0, 0, 0), 0, []), (.getfield 44, (3, 0, 10, 30, 4210, 1), 0, []), (.iload 5, (2, 0, 5, 0, 0, 0), 0, []), (.aload_n 0, (1, 0, 0, 0, 0, 0), 0, []), (.iconst 1, (1, 0, 0, 0, 0, 0), 1, []), (.iload_n 1, (1, 0, 1, 0, 0, 0), 0, []), (.iload_n 2, (1, 0, 2, 0, 0, 0), 0, []), (.iload_n 3, (1, 0, 3, 0, 0, 0), 0, []), (.iload 4, (2, 0, 4, 0, 0, 0), 0, []), (.invokevirtual 256, (3, 2, 157, 3, 6, 11), 6016, [])],
  [(.iastore, (1, 0, 0, 0, 0, 0), 0, []), (.nop, (0, 1, 4, 0, 0, 0), 0, [])],
  [(.aload_n 0, (1, 0, 0, 0, 0, 0), 0, []), (.getfield 44, (3, 0, 10, 30, 4210, 1), 0, []), (.iload 5, (2, 0, 5, 0, 0, 0), 0, []), (.iaload, (1, 0, 0, 0, 0, 0), 0, []), (.ireturn, (1, 3, 0, 0, 0, 0), 0, [])]]
/-- EvenlyPouredModel.begins()V -/
noncomputable def bk_162 : List (List am_P) := [[(.iconst 0, (1, 0, 0, 0, 0, 0), 0, []), (.istore_n 1, (1, 0, 1, 0, 0, 0), 0, []), (.nop, (0, 1, 1, 0, 0, 0), 0, [])],
  [(.iload_n 1, (1, 0, 1, 0, 0, 0), 0, []), (.iconst 4, (1, 0, 0, 0, 0, 0), 4, []), (.if_icmp .ge 23, (3, 1, 3, 2, 0, 0), 0, [])],
  [(.aload_n 0, (1, 0, 0, 0, 0, 0), 0, []), (.getfield 47, (3, 0, 10, 31, 4211, 1), 0, []), (.iload_n 1, (1, 0, 1, 0, 0, 0), 0, []), (.iconst 0, (1, 0, 0, 0, 0, 0), 0, []), (.iastore, (1, 0, 0, 0, 0, 0), 0, []), (.aload_n 0, (1, 0, 0, 0, 0, 0), 0, []), (.getfield 50, (3, 0, 10, 32, 4212, 1), 0, []), (.iload_n 1, (1, 0, 1, 0, 0, 0), 0, []), (.iconst 0, (1, 0, 0, 0, 0, 0), 0, []), (.iastore, (1, 0, 0, 0, 0, 0), 0, []), (.iinc 1 1, (3, 0, 1, 0, 0, 0), 1, []), (.goto (-22), (3, 1, 1, 0, 0, 0), 0, [])],
  [(.aload_n 0, (1, 0, 0, 0, 0, 0), 0, []), (.iconst (-1), (1, 0, 0, 0, 0, 0), (-1), []), (.putfield 260, (3, 0, 10, 33, 4213, 0), 0, []), (.aload_n 0, (1, 0, 0, 0, 0, 0), 0, []), (.iconst 0, (1, 0, 0, 0, 0, 0), 0, []), (.putfield 263, (3, 0, 10, 34, 4214, 0), 0, []), (.aload_n 0, (1, 0, 0, 0, 0, 0), 0, []), (.iconst 0, (1, 0, 0, 0, 0, 0), 0, []), (.putfield 266, (3, 0, 10, 35, 4215, 0), 0, []), (.return_, (1, 3, 0, 0, 0, 0), 0, [])]]
/-- EvenlyPouredModel.pours(III)V -/
noncomputable def bk_163 : List (List am_P) := [[(.aload_n 0, (1, 0, 0, 0, 0, 0), 0, []), (.getfield 260, (3, 0, 10, 33, 4213, 0), 0, []), (.iconst (-1), (1, 0, 0, 0, 0, 0), (-1), []), (.if_icmp .ne 7, (3, 1, 2, 1, 0, 0), 0, [])],
  [(.iload_n 2, (1, 0, 2, 0, 0, 0), 0, []), (.goto 7, (3, 1, 3, 0, 0, 0), 0, [])],
  [(.aload_n 0, (1, 0, 0, 0, 0, 0), 0, []), (.getfield 260, (3, 0, 10, 33, 4213, 0), 0, []), (.nop, (0, 1, 3, 0, 0, 0), 0, [])],
  [(.istore 4, (2, 0, 4, 0, 0, 0), 0, []), (.aload_n 0, (1, 0, 0, 0, 0, 0), 0, []), (.iload_n 1, (1, 0, 1, 0, 0, 0), 0, []), (.iload_n 2, (1, 0, 2, 0, 0, 0), 0, []), (.aload_n 0, (1, 0, 0, 0, 0, 0), 0, []), (.getfield 47, (3, 0, 10, 31, 4211, 1), 0, []), (.iload_n 2, (1, 0, 2, 0, 0, 0), 0, []), (.iaload, (1, 0, 0, 0, 0, 0), 0, []), (.iload 4, (2, 0, 4, 0, 0, 0), 0, []), (.invokevirtual 269, (3, 2, 160, 4, 5, 11), 6009, [])],
  [(.iload_n 3, (1, 0, 3, 0, 0, 0), 0, []), (.iadd, (1, 0, 0, 0, 0, 0), 0, []), (.istore 5, (2, 0, 5, 0, 0, 0), 0, []), (.iload 4, (2, 0, 4, 0, 0, 0), 0, []), (.iload_n 2, (1, 0, 2, 0, 0, 0), 0, []), (.if_icmp .eq 63, (3, 1, 10, 5, 0, 0), 0, [])],
  [(.aload_n 0, (1, 0, 0, 0, 0, 0), 0, []), (.iload_n 1, (1, 0, 1, 0, 0, 0), 0, []), (.iload_n 2, (1, 0, 2, 0, 0, 0), 0, []), (.aload_n 0, (1, 0, 0, 0, 0, 0), 0, []), (.getfield 47, (3, 0, 10, 31, 4211, 1), 0, []), (.iload_n 2, (1, 0, 2, 0, 0, 0), 0, []), (.iaload, (1, 0, 0, 0, 0, 0), 0, []), (.iload 4, (2, 0, 4, 0, 0, 0), 0, []), (.invokevirtual 272, (3, 2, 161, 6, 5, 11), 6023, [])],
  [(.istore 6, (2, 0, 6, 0, 0, 0), 0, []), (.iload 6, (2, 0, 6, 0, 0, 0), 0, []), (.iload 5, (2, 0, 5, 0, 0, 0), 0, []), (.if_icmp .ge 8, (3, 1, 8, 7, 0, 0), 0, [])],
  [(.iload 6, (2, 0, 6, 0, 0, 0), 0, []), (.goto 5, (3, 1, 9, 0, 0, 0), 0, [])],
  [(.iload 5, (2, 0, 5, 0, 0, 0), 0, []), (.nop, (0, 1, 9, 0, 0, 0), 0, [])],
  [(.istore 6, (2, 0, 6, 0, 0, 0), 0, []), (.aload_n 0, (1, 0, 0, 0, 0, 0), 0, []), (.dup, (1, 0, 0, 0, 0, 0), 0, []), (.getfield 266, (3, 0, 10, 35, 4215, 0), 0, []), (.iload 6, (2, 0, 6, 0, 0, 0), 0, []), (.iadd, (1, 0, 0, 0, 0, 0), 0, []), (.putfield 266, (3, 0, 10, 35, 4215, 0), 0, []), (.iload 5, (2, 0, 5, 0, 0, 0), 0, []), (.iload 6, (2, 0, 6, 0, 0, 0), 0, []), (.isub, (1, 0, 0, 0, 0, 0), 0, []), (.istore 5, (2, 0, 5, 0, 0, 0), 0, []), (.aload_n 0, (1, 0, 0, 0, 0, 0), 0, []), (.dup, (1, 0, 0, 0, 0, 0), 0, []), (.getfield 263, (3, 0, 10, 34, 4214, 0), 0, []), (.iconst 1, (1, 0, 0, 0, 0, 0), 1, []), (.iadd, (1, 0, 0, 0, 0, 0), 0, []), (.putfield 263, (3, 0, 10, 34, 4214, 0), 0, []), (.nop, (0, 1, 10, 0, 0, 0), 0, [])],
  [(.aload_n 0, (1, 0, 0, 0, 0, 0), 0, []), (.getfield 47, (3, 0, 10, 31, 4211, 1), 0, []), (.iload_n 2, (1, 0, 2, 0, 0, 0), 0, []), (.dup2, (1, 0, 0, 0, 0, 0), 0, []), (.iaload, (1, 0, 0, 0, 0, 0), 0, []), (.iconst 1, (1, 0, 0, 0, 0, 0), 1, []), (.iadd, (1, 0, 0, 0, 0, 0), 0, []), (.iastore, (1, 0, 0, 0, 0, 0), 0, []), (.aload_n 0, (1, 0, 0, 0, 0, 0), 0, []), (.getfield 50, (3, 0, 10, 32, 4212, 1), 0, []), (.iload_n 2, (1, 0, 2, 0, 0, 0), 0, []), (.dup2, (1, 0, 0, 0, 0, 0), 0, []), (.iaload, (1, 0, 0, 0, 0, 0), 0, []), (.iload 5, (2, 0, 5, 0, 0, 0), 0, []), (.iadd, (1, 0, 0, 0, 0, 0), 0, []), (.iastore, (1, 0, 0, 0, 0, 0), 0, []), (.aload_n 0, (1, 0, 0, 0, 0, 0), 0, []), (.iload_n 2, (1, 0, 2, 0, 0, 0), 0, []), (.putfield 260, (3, 0, 10, 33, 4213, 0), 0, []), (.return_, (1, 3, 0, 0, 0, 0), 0, [])]]
/-- EvenlyPouredModel.uneven()I -/
noncomputable def bk_164 : List (List am_P) := [[(.aload_n 0, (1, 0, 0, 0, 0, 0), 0, []), (.getfield 50, (3, 0, 10, 32, 4212, 1), 0, []), (.iconst 0, (1, 0, 0, 0, 0, 0), 0, []), (.iaload, (1, 0, 0, 0, 0, 0), 0, []), (.istore_n 1, (1, 0, 1, 0, 0, 0), 0, []), (.aload_n 0, (1, 0, 0, 0, 0, 0), 0, []), (.getfield 50, (3, 0, 10, 32, 4212, 1), 0, []), (.iconst 0, (1, 0, 0, 0, 0, 0), 0, []), (.iaload, (1, 0, 0, 0, 0, 0), 0, []), (.istore_n 2, (1, 0, 2, 0, 0, 0), 0, []), (.iconst 1, (1, 0, 0, 0, 0, 0), 1, []), (.istore_n 3, (1, 0, 3, 0, 0, 0), 0, []), (.nop, (0, 1, 1, 0, 0, 0), 0, [])],
  [(.iload_n 3, (1, 0, 3, 0, 0, 0), 0, []), (.aload_n 0, (1, 0, 0, 0, 0, 0), 0, []), (.getfield 23, (3, 0, 10, 7, 4187, 0), 0, []), (.if_icmp .ge 51, (3, 1, 9, 2, 0, 0), 0, [])],
  [(.aload_n 0, (1, 0, 0, 0, 0, 0), 0, []), (.getfield 50, (3, 0, 10, 32, 4212, 1), 0, []), (.iload_n 3, (1, 0, 3, 0, 0, 0), 0, []), (.iaload, (1, 0, 0, 0, 0, 0), 0, []), (.iload_n 1, (1, 0, 1, 0, 0, 0), 0, []), (.if_icmp .le 12, (3, 1, 4, 3, 0, 0), 0, [])],
  [(.aload_n 0, (1, 0, 0, 0, 0, 0), 0, []), (.getfield 50, (3, 0, 10, 32, 4212, 1), 0, []), (.iload_n 3, (1, 0, 3, 0, 0, 0), 0, []), (.iaload, (1, 0, 0, 0, 0, 0), 0, []), (.goto 4, (3, 1, 5, 0, 0, 0), 0, [])],
  [(.iload_n 1, (1, 0, 1, 0, 0, 0), 0, []), (.nop, (0, 1, 5, 0, 0, 0), 0, [])],
  [(.istore_n 1, (1, 0, 1, 0, 0, 0), 0, []), (.aload_n 0, (1, 0, 0, 0, 0, 0), 0, []), (.getfield 50, (3, 0, 10, 32, 4212, 1), 0, []), (.iload_n 3, (1, 0, 3, 0, 0, 0), 0, []), (.iaload, (1, 0, 0, 0, 0, 0), 0, []), (.iload_n 2, (1, 0, 2, 0, 0, 0), 0, []), (.if_icmp .ge 12, (3, 1, 7, 6, 0, 0), 0, [])],
  [(.aload_n 0, (1, 0, 0, 0, 0, 0), 0, []), (.getfield 50, (3, 0, 10, 32, 4212, 1), 0, []), (.iload_n 3, (1, 0, 3, 0, 0, 0), 0, []), (.iaload, (1, 0, 0, 0, 0, 0), 0, []), (.goto 4, (3, 1, 8, 0, 0, 0), 0, [])],
  [(.iload_n 2, (1, 0, 2, 0, 0, 0), 0, []), (.nop, (0, 1, 8, 0, 0, 0), 0, [])],
  [(.istore_n 2, (1, 0, 2, 0, 0, 0), 0, []), (.iinc 3 1, (3, 0, 3, 0, 0, 0), 1, []), (.goto (-53), (3, 1, 1, 0, 0, 0), 0, [])],
  [(.iload_n 1, (1, 0, 1, 0, 0, 0), 0, []), (.iload_n 2, (1, 0, 2, 0, 0, 0), 0, []), (.isub, (1, 0, 0, 0, 0, 0), 0, []), (.ireturn, (1, 3, 0, 0, 0, 0), 0, [])]]
/-- EvenlyPouredModel.poursRow()V -/
noncomputable def bk_165 : List (List am_P) := [[(.aload_n 0, (1, 0, 0, 0, 0, 0), 0, []), (.invokevirtual 275, (3, 2, 158, 1, 1, 11), 5237, [])],
  [(.aload_n 0, (1, 0, 0, 0, 0, 0), 0, []), (.invokevirtual 278, (3, 2, 162, 2, 1, 11), 6001, [])],
  [(.iconst 0, (1, 0, 0, 0, 0, 0), 0, []), (.istore_n 1, (1, 0, 1, 0, 0, 0), 0, []), (.nop, (0, 1, 3, 0, 0, 0), 0, [])],
  [(.iload_n 1, (1, 0, 1, 0, 0, 0), 0, []), (.aload_n 0, (1, 0, 0, 0, 0, 0), 0, []), (.getfield 26, (3, 0, 10, 8, 4188, 0), 0, []), (.if_icmp .ge 21, (3, 1, 6, 4, 0, 0), 0, [])],
  [(.aload_n 0, (1, 0, 0, 0, 0, 0), 0, []), (.iload_n 1, (1, 0, 1, 0, 0, 0), 0, []), (.aload_n 0, (1, 0, 0, 0, 0, 0), 0, []), (.getfield 29, (3, 0, 10, 9, 4189, 1), 0, []), (.iload_n 1, (1, 0, 1, 0, 0, 0), 0, []), (.iaload, (1, 0, 0, 0, 0, 0), 0, []), (.iconst 0, (1, 0, 0, 0, 0, 0), 0, []), (.invokevirtual 281, (3, 2, 163, 5, 4, 11), 6005, [])],
  [(.iinc 1 1, (3, 0, 1, 0, 0, 0), 1, []), (.goto (-23), (3, 1, 3, 0, 0, 0), 0, [])],
  [(.return_, (1, 3, 0, 0, 0, 0), 0, [])]]
/-- EvenlyPouredModel.cup(II)I -/
noncomputable def bk_166 : List (List am_P) := [[(.aload_n 0, (1, 0, 0, 0, 0, 0), 0, []), (.iload_n 1, (1, 0, 1, 0, 0, 0), 0, []), (.invokevirtual 119, (3, 2, 131, 1, 2, 11), 5132, [])],
  [(.ifCond .eq 15, (3, 1, 4, 2, 0, 0), 0, [])],
  [(.iload_n 2, (1, 0, 2, 0, 0, 0), 0, []), (.i2l, (1, 0, 0, 0, 0, 0), 0, []), (.lconst 0, (1, 0, 0, 0, 0, 0), 0, []), (.ldc2_w 117, (3, 0, 2, 0, 5127, 0), 0, []), (.invokestatic 94, (3, 2, 127, 3, 3, 0), 5111, [])],
  [(.ifCond .ne 6, (3, 1, 5, 4, 0, 0), 0, [])],
  [(.bipush (-2), (2, 0, 0, 0, 0, 0), (-2), []), (.ireturn, (1, 3, 0, 0, 0, 0), 0, [])],
  [(.aload_n 0, (1, 0, 0, 0, 0, 0), 0, []), (.invokevirtual 285, (3, 2, 165, 6, 1, 11), 5233, [])],
  [(.iload_n 2, (1, 0, 2, 0, 0, 0), 0, []), (.ifCond .ne 12, (3, 1, 8, 7, 0, 0), 0, [])],
  [(.aload_n 0, (1, 0, 0, 0, 0, 0), 0, []), (.getfield 47, (3, 0, 10, 31, 4211, 1), 0, []), (.iload_n 1, (1, 0, 1, 0, 0, 0), 0, []), (.iaload, (1, 0, 0, 0, 0, 0), 0, []), (.goto 34, (3, 1, 11, 0, 0, 0), 0, [])],
  [(.iload_n 2, (1, 0, 2, 0, 0, 0), 0, []), (.iconst 1, (1, 0, 0, 0, 0, 0), 1, []), (.if_icmp .ne 12, (3, 1, 10, 9, 0, 0), 0, [])],
  [(.aload_n 0, (1, 0, 0, 0, 0, 0), 0, []), (.getfield 50, (3, 0, 10, 32, 4212, 1), 0, []), (.iload_n 1, (1, 0, 1, 0, 0, 0), 0, []), (.iaload, (1, 0, 0, 0, 0, 0), 0, []), (.goto 20, (3, 1, 11, 0, 0, 0), 0, [])],
  [(.aload_n 0, (1, 0, 0, 0, 0, 0), 0, []), (.iconst 2, (1, 0, 0, 0, 0, 0), 2, []), (.aload_n 0, (1, 0, 0, 0, 0, 0), 0, []), (.getfield 26, (3, 0, 10, 8, 4188, 0), 0, []), (.iload_n 1, (1, 0, 1, 0, 0, 0), 0, []), (.aload_n 0, (1, 0, 0, 0, 0, 0), 0, []), (.getfield 47, (3, 0, 10, 31, 4211, 1), 0, []), (.iload_n 1, (1, 0, 1, 0, 0, 0), 0, []), (.iaload, (1, 0, 0, 0, 0, 0), 0, []), (.iload_n 1, (1, 0, 1, 0, 0, 0), 0, []), (.invokevirtual 256, (3, 2, 157, 11, 6, 11), 6016, [])],
  [(.ireturn, (1, 3, 0, 0, 0, 0), 0, [])]]
/-- EvenlyPouredModel.power()I -/
noncomputable def bk_167 : List (List am_P) := [[(.iconst 0, (1, 0, 0, 0, 0, 0), 0, []), (.istore_n 1, (1, 0, 1, 0, 0, 0), 0, []), (.nop, (0, 1, 1, 0, 0, 0), 0, [])],
  [(.iload_n 1, (1, 0, 1, 0, 0, 0), 0, []), (.iconst 5, (1, 0, 0, 0, 0, 0), 5, []), (.if_icmp .ge 46, (3, 1, 10, 2, 0, 0), 0, [])],
  [(.aload_n 0, (1, 0, 0, 0, 0, 0), 0, []), (.iconst 0, (1, 0, 0, 0, 0, 0), 0, []), (.iload_n 1, (1, 0, 1, 0, 0, 0), 0, []), (.invokevirtual 288, (3, 2, 168, 3, 3, 11), 6035, [])],
  [(.istore_n 2, (1, 0, 2, 0, 0, 0), 0, []), (.iconst 1, (1, 0, 0, 0, 0, 0), 1, []), (.istore_n 3, (1, 0, 3, 0, 0, 0), 0, []), (.nop, (0, 1, 4, 0, 0, 0), 0, [])],
  [(.iload_n 3, (1, 0, 3, 0, 0, 0), 0, []), (.aload_n 0, (1, 0, 0, 0, 0, 0), 0, []), (.getfield 23, (3, 0, 10, 7, 4187, 0), 0, []), (.if_icmp .ge 23, (3, 1, 9, 5, 0, 0), 0, [])],
  [(.aload_n 0, (1, 0, 0, 0, 0, 0), 0, []), (.iload_n 3, (1, 0, 3, 0, 0, 0), 0, []), (.iload_n 1, (1, 0, 1, 0, 0, 0), 0, []), (.invokevirtual 288, (3, 2, 168, 6, 3, 11), 6035, [])],
  [(.iload_n 2, (1, 0, 2, 0, 0, 0), 0, []), (.if_icmp .eq 7, (3, 1, 8, 7, 0, 0), 0, [])],
  [(.iload_n 1, (1, 0, 1, 0, 0, 0), 0, []), (.iconst 1, (1, 0, 0, 0, 0, 0), 1, []), (.isub, (1, 0, 0, 0, 0, 0), 0, []), (.ireturn, (1, 3, 0, 0, 0, 0), 0, [])],
  [(.iinc 3 1, (3, 0, 3, 0, 0, 0), 1, []), (.goto (-25), (3, 1, 4, 0, 0, 0), 0, [])],
  [(.iinc 1 1, (3, 0, 1, 0, 0, 0), 1, []), (.goto (-45), (3, 1, 1, 0, 0, 0), 0, [])],
  [(.iconst 4, (1, 0, 0, 0, 0, 0), 4, []), (.ireturn, (1, 3, 0, 0, 0, 0), 0, [])]]
/-- EvenlyPouredModel.sumOf(II)I -/
noncomputable def bk_168 : List (List am_P) := [[(.iconst 0, (1, 0, 0, 0, 0, 0), 0, []), (.istore_n 3, (1, 0, 3, 0, 0, 0), 0, []), (.iconst 0, (1, 0, 0, 0, 0, 0), 0, []), (.istore 4, (2, 0, 4, 0, 0, 0), 0, []), (.nop, (0, 1, 1, 0, 0, 0), 0, [])],
  [(.iload 4, (2, 0, 4, 0, 0, 0), 0, []), (.aload_n 0, (1, 0, 0, 0, 0, 0), 0, []), (.getfield 26, (3, 0, 10, 8, 4188, 0), 0, []), (.if_icmp .ge 54, (3, 1, 9, 2, 0, 0), 0, [])],
  [(.iconst 1, (1, 0, 0, 0, 0, 0), 1, []), (.istore 5, (2, 0, 5, 0, 0, 0), 0, []), (.iconst 0, (1, 0, 0, 0, 0, 0), 0, []), (.istore 6, (2, 0, 6, 0, 0, 0), 0, []), (.nop, (0, 1, 3, 0, 0, 0), 0, [])],
  [(.iload 6, (2, 0, 6, 0, 0, 0), 0, []), (.iload_n 2, (1, 0, 2, 0, 0, 0), 0, []), (.if_icmp .ge 16, (3, 1, 5, 4, 0, 0), 0, [])],
  [(.iload 5, (2, 0, 5, 0, 0, 0), 0, []), (.iload 4, (2, 0, 4, 0, 0, 0), 0, []), (.imul, (1, 0, 0, 0, 0, 0), 0, []), (.istore 5, (2, 0, 5, 0, 0, 0), 0, []), (.iinc 6 1, (3, 0, 6, 0, 0, 0), 1, []), (.goto (-16), (3, 1, 3, 0, 0, 0), 0, [])],
  [(.iload_n 3, (1, 0, 3, 0, 0, 0), 0, []), (.aload_n 0, (1, 0, 0, 0, 0, 0), 0, []), (.getfield 29, (3, 0, 10, 9, 4189, 1), 0, []), (.iload 4, (2, 0, 4, 0, 0, 0), 0, []), (.iaload, (1, 0, 0, 0, 0, 0), 0, []), (.iload_n 1, (1, 0, 1, 0, 0, 0), 0, []), (.if_icmp .ne 8, (3, 1, 7, 6, 0, 0), 0, [])],
  [(.iload 5, (2, 0, 5, 0, 0, 0), 0, []), (.goto 4, (3, 1, 8, 0, 0, 0), 0, [])],
  [(.iconst 0, (1, 0, 0, 0, 0, 0), 0, []), (.nop, (0, 1, 8, 0, 0, 0), 0, [])],
  [(.iadd, (1, 0, 0, 0, 0, 0), 0, []), (.istore_n 3, (1, 0, 3, 0, 0, 0), 0, []), (.iinc 4 1, (3, 0, 4, 0, 0, 0), 1, []), (.goto (-57), (3, 1, 1, 0, 0, 0), 0, [])],
  [(.iload_n 3, (1, 0, 3, 0, 0, 0), 0, []), (.ireturn, (1, 3, 0, 0, 0, 0), 0, [])]]
/-- EvenlyPouredModel.all(I)I -/
noncomputable def bk_169 : List (List am_P) := [[(.iload_n 1, (1, 0, 1, 0, 0, 0), 0, []), (.i2l, (1, 0, 0, 0, 0, 0), 0, []), (.lconst 0, (1, 0, 0, 0, 0, 0), 0, []), (.ldc2_w 109, (3, 0, 4, 0, 5119, 0), 0, []), (.invokestatic 94, (3, 2, 127, 1, 3, 0), 5111, [])],
  [(.ifCond .ne 6, (3, 1, 3, 2, 0, 0), 0, [])],
  [(.bipush (-2), (2, 0, 0, 0, 0, 0), (-2), []), (.ireturn, (1, 3, 0, 0, 0, 0), 0, [])],
  [(.iload_n 1, (1, 0, 1, 0, 0, 0), 0, []), (.iconst 4, (1, 0, 0, 0, 0, 0), 4, []), (.if_icmp .ne 8, (3, 1, 6, 4, 0, 0), 0, [])],
  [(.aload_n 0, (1, 0, 0, 0, 0, 0), 0, []), (.invokevirtual 291, (3, 2, 167, 5, 1, 11), 6031, [])],
  [(.ireturn, (1, 3, 0, 0, 0, 0), 0, [])],
  [(.aload_n 0, (1, 0, 0, 0, 0, 0), 0, []), (.invokevirtual 285, (3, 2, 165, 7, 1, 11), 5233, [])],
  [(.iload_n 1, (1, 0, 1, 0, 0, 0), 0, []), (.iconst 1, (1, 0, 0, 0, 0, 0), 1, []), (.if_icmp .eq 31, (3, 1, 15, 8, 0, 0), 0, [])],
  [(.iload_n 1, (1, 0, 1, 0, 0, 0), 0, []), (.ifCond .ne 10, (3, 1, 11, 9, 0, 0), 0, [])],
  [(.aload_n 0, (1, 0, 0, 0, 0, 0), 0, []), (.invokevirtual 294, (3, 2, 164, 10, 1, 11), 6039, [])],
  [(.goto 19, (3, 1, 14, 0, 0, 0), 0, [])],
  [(.iload_n 1, (1, 0, 1, 0, 0, 0), 0, []), (.iconst 2, (1, 0, 0, 0, 0, 0), 2, []), (.if_icmp .ne 10, (3, 1, 13, 12, 0, 0), 0, [])],
  [(.aload_n 0, (1, 0, 0, 0, 0, 0), 0, []), (.getfield 263, (3, 0, 10, 34, 4214, 0), 0, []), (.goto 7, (3, 1, 14, 0, 0, 0), 0, [])],
  [(.aload_n 0, (1, 0, 0, 0, 0, 0), 0, []), (.getfield 266, (3, 0, 10, 35, 4215, 0), 0, []), (.nop, (0, 1, 14, 0, 0, 0), 0, [])],
  [(.ireturn, (1, 3, 0, 0, 0, 0), 0, [])],
  [(.iconst 0, (1, 0, 0, 0, 0, 0), 0, []), (.istore_n 2, (1, 0, 2, 0, 0, 0), 0, []), (.iconst 0, (1, 0, 0, 0, 0, 0), 0, []), (.istore_n 3, (1, 0, 3, 0, 0, 0), 0, []), (.nop, (0, 1, 16, 0, 0, 0), 0, [])],
  [(.iload_n 3, (1, 0, 3, 0, 0, 0), 0, []), (.aload_n 0, (1, 0, 0, 0, 0, 0), 0, []), (.getfield 23, (3, 0, 10, 7, 4187, 0), 0, []), (.if_icmp .ge 51, (3, 1, 22, 17, 0, 0), 0, [])],
  [(.aload_n 0, (1, 0, 0, 0, 0, 0), 0, []), (.getfield 50, (3, 0, 10, 32, 4212, 1), 0, []), (.iload_n 3, (1, 0, 3, 0, 0, 0), 0, []), (.iaload, (1, 0, 0, 0, 0, 0), 0, []), (.aload_n 0, (1, 0, 0, 0, 0, 0), 0, []), (.iconst 2, (1, 0, 0, 0, 0, 0), 2, []), (.aload_n 0, (1, 0, 0, 0, 0, 0), 0, []), (.getfield 26, (3, 0, 10, 8, 4188, 0), 0, []), (.iload_n 3, (1, 0, 3, 0, 0, 0), 0, []), (.aload_n 0, (1, 0, 0, 0, 0, 0), 0, []), (.getfield 47, (3, 0, 10, 31, 4211, 1), 0, []), (.iload_n 3, (1, 0, 3, 0, 0, 0), 0, []), (.iaload, (1, 0, 0, 0, 0, 0), 0, []), (.iload_n 3, (1, 0, 3, 0, 0, 0), 0, []), (.invokevirtual 256, (3, 2, 157, 18, 6, 11), 6016, [])],
  [(.isub, (1, 0, 0, 0, 0, 0), 0, []), (.istore 4, (2, 0, 4, 0, 0, 0), 0, []), (.iload_n 2, (1, 0, 2, 0, 0, 0), 0, []), (.iload 4, (2, 0, 4, 0, 0, 0), 0, []), (.ifCond .ge 9, (3, 1, 20, 19, 0, 0), 0, [])],
  [(.iload 4, (2, 0, 4, 0, 0, 0), 0, []), (.ineg, (1, 0, 0, 0, 0, 0), 0, []), (.goto 5, (3, 1, 21, 0, 0, 0), 0, [])],
  [(.iload 4, (2, 0, 4, 0, 0, 0), 0, []), (.nop, (0, 1, 21, 0, 0, 0), 0, [])],
  [(.iadd, (1, 0, 0, 0, 0, 0), 0, []), (.istore_n 2, (1, 0, 2, 0, 0, 0), 0, []), (.iinc 3 1, (3, 0, 3, 0, 0, 0), 1, []), (.goto (-53), (3, 1, 16, 0, 0, 0), 0, [])],
  [(.iload_n 2, (1, 0, 2, 0, 0, 0), 0, []), (.ireturn, (1, 3, 0, 0, 0, 0), 0, [])]]
/-- EvenlyPouredModel.lowest(JJI)J -/
noncomputable def bk_170 : List (List am_P) := [[(.lload_n 0, (1, 0, 0, 0, 0, 0), 0, []), (.lstore 5, (2, 0, 5, 0, 0, 0), 0, []), (.lload_n 2, (1, 0, 2, 0, 0, 0), 0, []), (.lstore 7, (2, 0, 7, 0, 0, 0), 0, []), (.nop, (0, 1, 1, 0, 0, 0), 0, [])],
  [(.lload 7, (2, 0, 7, 0, 0, 0), 0, []), (.lconst 0, (1, 0, 0, 0, 0, 0), 0, []), (.lcmp, (1, 0, 0, 0, 0, 0), 0, []), (.ifCond .eq 21, (3, 1, 3, 2, 0, 0), 0, [])],
  [(.lload 5, (2, 0, 5, 0, 0, 0), 0, []), (.lload 7, (2, 0, 7, 0, 0, 0), 0, []), (.lrem, (1, 0, 0, 0, 0, 0), 0, []), (.lstore 9, (2, 0, 9, 0, 0, 0), 0, []), (.lload 7, (2, 0, 7, 0, 0, 0), 0, []), (.lstore 5, (2, 0, 5, 0, 0, 0), 0, []), (.lload 9, (2, 0, 9, 0, 0, 0), 0, []), (.lstore 7, (2, 0, 7, 0, 0, 0), 0, []), (.goto (-22), (3, 1, 1, 0, 0, 0), 0, [])],
  [(.iload 4, (2, 0, 4, 0, 0, 0), 0, []), (.ifCond .ne 10, (3, 1, 5, 4, 0, 0), 0, [])],
  [(.lload_n 0, (1, 0, 0, 0, 0, 0), 0, []), (.lload 5, (2, 0, 5, 0, 0, 0), 0, []), (.ldiv, (1, 0, 0, 0, 0, 0), 0, []), (.goto 7, (3, 1, 6, 0, 0, 0), 0, [])],
  [(.lload_n 2, (1, 0, 2, 0, 0, 0), 0, []), (.lload 5, (2, 0, 5, 0, 0, 0), 0, []), (.ldiv, (1, 0, 0, 0, 0, 0), 0, []), (.nop, (0, 1, 6, 0, 0, 0), 0, [])],
  [(.lreturn, (1, 3, 0, 0, 0, 0), 0, [])]]
/-- EvenlyPouredModel.mean(II)J -/
noncomputable def bk_171 : List (List am_P) := [[(.aload_n 0, (1, 0, 0, 0, 0, 0), 0, []), (.iload_n 1, (1, 0, 1, 0, 0, 0), 0, []), (.invokevirtual 119, (3, 2, 131, 1, 2, 11), 5132, [])],
  [(.ifCond .eq 13, (3, 1, 4, 2, 0, 0), 0, [])],
  [(.iload_n 2, (1, 0, 2, 0, 0, 0), 0, []), (.i2l, (1, 0, 0, 0, 0, 0), 0, []), (.lconst 0, (1, 0, 0, 0, 0, 0), 0, []), (.lconst 1, (1, 0, 1, 0, 0, 0), 0, []), (.invokestatic 94, (3, 2, 127, 3, 3, 0), 5111, [])],
  [(.ifCond .ne 7, (3, 1, 5, 4, 0, 0), 0, [])],
  [(.ldc2_w 297, (3, 0, 100000, 0, 6047, 0), 0, []), (.lreturn, (1, 3, 0, 0, 0, 0), 0, [])],
  [(.aload_n 0, (1, 0, 0, 0, 0, 0), 0, []), (.invokevirtual 285, (3, 2, 165, 6, 1, 11), 5233, [])],
  [(.aload_n 0, (1, 0, 0, 0, 0, 0), 0, []), (.getfield 47, (3, 0, 10, 31, 4211, 1), 0, []), (.iload_n 1, (1, 0, 1, 0, 0, 0), 0, []), (.iaload, (1, 0, 0, 0, 0, 0), 0, []), (.ifCond .ne 9, (3, 1, 8, 7, 0, 0), 0, [])],
  [(.ldc2_w 297, (3, 0, 100000, 0, 6047, 0), 0, []), (.goto 21, (3, 1, 9, 0, 0, 0), 0, [])],
  [(.aload_n 0, (1, 0, 0, 0, 0, 0), 0, []), (.getfield 50, (3, 0, 10, 32, 4212, 1), 0, []), (.iload_n 1, (1, 0, 1, 0, 0, 0), 0, []), (.iaload, (1, 0, 0, 0, 0, 0), 0, []), (.i2l, (1, 0, 0, 0, 0, 0), 0, []), (.aload_n 0, (1, 0, 0, 0, 0, 0), 0, []), (.getfield 47, (3, 0, 10, 31, 4211, 1), 0, []), (.iload_n 1, (1, 0, 1, 0, 0, 0), 0, []), (.iaload, (1, 0, 0, 0, 0, 0), 0, []), (.i2l, (1, 0, 0, 0, 0, 0), 0, []), (.iload_n 2, (1, 0, 2, 0, 0, 0), 0, []), (.invokestatic 299, (3, 2, 170, 9, 3, 0), 6048, [])],
  [(.lreturn, (1, 3, 0, 0, 0, 0), 0, [])]]
/-- EvenlyPouredModel.areMany()Z -/
noncomputable def bk_172 : List (List am_P) := [[(.iconst 1, (1, 0, 0, 0, 0, 0), 1, []), (.istore_n 1, (1, 0, 1, 0, 0, 0), 0, []), (.iconst 0, (1, 0, 0, 0, 0, 0), 0, []), (.istore_n 2, (1, 0, 2, 0, 0, 0), 0, []), (.nop, (0, 1, 1, 0, 0, 0), 0, [])],
  [(.iload_n 2, (1, 0, 2, 0, 0, 0), 0, []), (.aload_n 0, (1, 0, 0, 0, 0, 0), 0, []), (.getfield 26, (3, 0, 10, 8, 4188, 0), 0, []), (.if_icmp .ge 23, (3, 1, 4, 2, 0, 0), 0, [])],
  [(.iload_n 1, (1, 0, 1, 0, 0, 0), 0, []), (.ldc_w 303, (3, 0, 0, 0, 6060, 0), 65536, []), (.if_icmp .gt 16, (3, 1, 4, 3, 0, 0), 0, [])],
  [(.iload_n 1, (1, 0, 1, 0, 0, 0), 0, []), (.aload_n 0, (1, 0, 0, 0, 0, 0), 0, []), (.getfield 23, (3, 0, 10, 7, 4187, 0), 0, []), (.imul, (1, 0, 0, 0, 0, 0), 0, []), (.istore_n 1, (1, 0, 1, 0, 0, 0), 0, []), (.iinc 2 1, (3, 0, 2, 0, 0, 0), 1, []), (.goto (-25), (3, 1, 1, 0, 0, 0), 0, [])],
  [(.iload_n 1, (1, 0, 1, 0, 0, 0), 0, []), (.ldc_w 303, (3, 0, 0, 0, 6060, 0), 65536, []), (.if_icmp .le 7, (3, 1, 6, 5, 0, 0), 0, [])],
  [(.iconst 1, (1, 0, 0, 0, 0, 0), 1, []), (.goto 4, (3, 1, 7, 0, 0, 0), 0, [])],
  [(.iconst 0, (1, 0, 0, 0, 0, 0), 0, []), (.nop, (0, 1, 7, 0, 0, 0), 0, [])],
  [(.ireturn, (1, 3, 0, 0, 0, 1), 0, [])]]
/-- EvenlyPouredModel.goes(I)V -/
noncomputable def bk_173 : List (List am_P) := [[(.iload_n 1, (1, 0, 1, 0, 0, 0), 0, []), (.aload_n 0, (1, 0, 0, 0, 0, 0), 0, []), (.getfield 26, (3, 0, 10, 8, 4188, 0), 0, []), (.if_icmp .ne 8, (3, 1, 3, 1, 0, 0), 0, [])],
  [(.aload_n 0, (1, 0, 0, 0, 0, 0), 0, []), (.invokevirtual 304, (3, 2, 175, 2, 1, 11), 6069, [])],
  [(.return_, (1, 3, 0, 0, 0, 0), 0, [])],
  [(.aload_n 0, (1, 0, 0, 0, 0, 0), 0, []), (.getfield 26, (3, 0, 10, 8, 4188, 0), 0, []), (.aload_n 0, (1, 0, 0, 0, 0, 0), 0, []), (.getfield 23, (3, 0, 10, 7, 4187, 0), 0, []), (.iadd, (1, 0, 0, 0, 0, 0), 0, []), (.iconst 1, (1, 0, 0, 0, 0, 0), 1, []), (.isub, (1, 0, 0, 0, 0, 0), 0, []), (.aload_n 0, (1, 0, 0, 0, 0, 0), 0, []), (.getfield 23, (3, 0, 10, 7, 4187, 0), 0, []), (.idiv, (1, 0, 0, 0, 0, 0), 0, []), (.istore_n 2, (1, 0, 2, 0, 0, 0), 0, []), (.iconst 0, (1, 0, 0, 0, 0, 0), 0, []), (.istore_n 3, (1, 0, 3, 0, 0, 0), 0, []), (.nop, (0, 1, 4, 0, 0, 0), 0, [])],
  [(.iload_n 3, (1, 0, 3, 0, 0, 0), 0, []), (.aload_n 0, (1, 0, 0, 0, 0, 0), 0, []), (.getfield 23, (3, 0, 10, 7, 4187, 0), 0, []), (.if_icmp .ge 98, (3, 1, 11, 5, 0, 0), 0, [])],
  [(.aload_n 0, (1, 0, 0, 0, 0, 0), 0, []), (.getfield 307, (3, 0, 10, 40, 4220, 0), 0, []), (.iconst 2, (1, 0, 0, 0, 0, 0), 2, []), (.if_icmp .eq 13, (3, 1, 7, 6, 0, 0), 0, [])],
  [(.aload_n 0, (1, 0, 0, 0, 0, 0), 0, []), (.getfield 47, (3, 0, 10, 31, 4211, 1), 0, []), (.iload_n 3, (1, 0, 3, 0, 0, 0), 0, []), (.iaload, (1, 0, 0, 0, 0, 0), 0, []), (.iload_n 2, (1, 0, 2, 0, 0, 0), 0, []), (.if_icmp .ge 74, (3, 1, 10, 7, 0, 0), 0, [])],
  [(.aload_n 0, (1, 0, 0, 0, 0, 0), 0, []), (.getfield 50, (3, 0, 10, 32, 4212, 1), 0, []), (.iload_n 3, (1, 0, 3, 0, 0, 0), 0, []), (.iaload, (1, 0, 0, 0, 0, 0), 0, []), (.istore 4, (2, 0, 4, 0, 0, 0), 0, []), (.aload_n 0, (1, 0, 0, 0, 0, 0), 0, []), (.getfield 260, (3, 0, 10, 33, 4213, 0), 0, []), (.istore 5, (2, 0, 5, 0, 0, 0), 0, []), (.aload_n 0, (1, 0, 0, 0, 0, 0), 0, []), (.getfield 263, (3, 0, 10, 34, 4214, 0), 0, []), (.istore 6, (2, 0, 6, 0, 0, 0), 0, []), (.aload_n 0, (1, 0, 0, 0, 0, 0), 0, []), (.iload_n 1, (1, 0, 1, 0, 0, 0), 0, []), (.iload_n 3, (1, 0, 3, 0, 0, 0), 0, []), (.iconst 0, (1, 0, 0, 0, 0, 0), 0, []), (.invokevirtual 281, (3, 2, 163, 8, 4, 11), 6005, [])],
  [(.aload_n 0, (1, 0, 0, 0, 0, 0), 0, []), (.getfield 53, (3, 0, 10, 36, 4216, 1), 0, []), (.iload_n 1, (1, 0, 1, 0, 0, 0), 0, []), (.iload_n 3, (1, 0, 3, 0, 0, 0), 0, []), (.iastore, (1, 0, 0, 0, 0, 0), 0, []), (.aload_n 0, (1, 0, 0, 0, 0, 0), 0, []), (.iload_n 1, (1, 0, 1, 0, 0, 0), 0, []), (.iconst 1, (1, 0, 0, 0, 0, 0), 1, []), (.iadd, (1, 0, 0, 0, 0, 0), 0, []), (.invokevirtual 310, (3, 2, 173, 9, 2, 11), 6065, [])],
  [(.aload_n 0, (1, 0, 0, 0, 0, 0), 0, []), (.getfield 50, (3, 0, 10, 32, 4212, 1), 0, []), (.iload_n 3, (1, 0, 3, 0, 0, 0), 0, []), (.iload 4, (2, 0, 4, 0, 0, 0), 0, []), (.iastore, (1, 0, 0, 0, 0, 0), 0, []), (.aload_n 0, (1, 0, 0, 0, 0, 0), 0, []), (.getfield 47, (3, 0, 10, 31, 4211, 1), 0, []), (.iload_n 3, (1, 0, 3, 0, 0, 0), 0, []), (.dup2, (1, 0, 0, 0, 0, 0), 0, []), (.iaload, (1, 0, 0, 0, 0, 0), 0, []), (.iconst 1, (1, 0, 0, 0, 0, 0), 1, []), (.isub, (1, 0, 0, 0, 0, 0), 0, []), (.iastore, (1, 0, 0, 0, 0, 0), 0, []), (.aload_n 0, (1, 0, 0, 0, 0, 0), 0, []), (.iload 5, (2, 0, 5, 0, 0, 0), 0, []), (.putfield 260, (3, 0, 10, 33, 4213, 0), 0, []), (.aload_n 0, (1, 0, 0, 0, 0, 0), 0, []), (.iload 6, (2, 0, 6, 0, 0, 0), 0, []), (.putfield 263, (3, 0, 10, 34, 4214, 0), 0, []), (.nop, (0, 1, 10, 0, 0, 0), 0, [])],
  [(.iinc 3 1, (3, 0, 3, 0, 0, 0), 1, []), (.goto (-100), (3, 1, 4, 0, 0, 0), 0, [])],
  [(.return_, (1, 3, 0, 0, 0, 0), 0, [])]]
/-- EvenlyPouredModel.areBalanced()Z -/
noncomputable def bk_174 : List (List am_P) := [[(.iconst 0, (1, 0, 0, 0, 0, 0), 0, []), (.istore_n 1, (1, 0, 1, 0, 0, 0), 0, []), (.nop, (0, 1, 1, 0, 0, 0), 0, [])],
  [(.iload_n 1, (1, 0, 1, 0, 0, 0), 0, []), (.aload_n 0, (1, 0, 0, 0, 0, 0), 0, []), (.getfield 23, (3, 0, 10, 7, 4187, 0), 0, []), (.if_icmp .ge 29, (3, 1, 5, 2, 0, 0), 0, [])],
  [(.aload_n 0, (1, 0, 0, 0, 0, 0), 0, []), (.getfield 47, (3, 0, 10, 31, 4211, 1), 0, []), (.iload_n 1, (1, 0, 1, 0, 0, 0), 0, []), (.iaload, (1, 0, 0, 0, 0, 0), 0, []), (.aload_n 0, (1, 0, 0, 0, 0, 0), 0, []), (.getfield 26, (3, 0, 10, 8, 4188, 0), 0, []), (.aload_n 0, (1, 0, 0, 0, 0, 0), 0, []), (.getfield 23, (3, 0, 10, 7, 4187, 0), 0, []), (.idiv, (1, 0, 0, 0, 0, 0), 0, []), (.if_icmp .ge 5, (3, 1, 4, 3, 0, 0), 0, [])],
  [(.iconst 0, (1, 0, 0, 0, 0, 0), 0, []), (.ireturn, (1, 3, 0, 0, 0, 1), 0, [])],
  [(.iinc 1 1, (3, 0, 1, 0, 0, 0), 1, []), (.goto (-31), (3, 1, 1, 0, 0, 0), 0, [])],
  [(.iconst 1, (1, 0, 0, 0, 0, 0), 1, []), (.ireturn, (1, 3, 0, 0, 0, 1), 0, [])]]
/-- EvenlyPouredModel.ends()V -/
noncomputable def bk_175 : List (List am_P) := [[(.aload_n 0, (1, 0, 0, 0, 0, 0), 0, []), (.getfield 307, (3, 0, 10, 40, 4220, 0), 0, []), (.iconst 2, (1, 0, 0, 0, 0, 0), 2, []), (.if_icmp .ne 81, (3, 1, 12, 1, 0, 0), 0, [])],
  [(.iconst 1, (1, 0, 0, 0, 0, 0), 1, []), (.istore_n 1, (1, 0, 1, 0, 0, 0), 0, []), (.iconst 0, (1, 0, 0, 0, 0, 0), 0, []), (.istore_n 2, (1, 0, 2, 0, 0, 0), 0, []), (.nop, (0, 1, 2, 0, 0, 0), 0, [])],
  [(.iload_n 2, (1, 0, 2, 0, 0, 0), 0, []), (.aload_n 0, (1, 0, 0, 0, 0, 0), 0, []), (.getfield 23, (3, 0, 10, 7, 4187, 0), 0, []), (.if_icmp .ge 42, (3, 1, 8, 3, 0, 0), 0, [])],
  [(.iload_n 1, (1, 0, 1, 0, 0, 0), 0, []), (.ifCond .eq 30, (3, 1, 6, 4, 0, 0), 0, [])],
  [(.aload_n 0, (1, 0, 0, 0, 0, 0), 0, []), (.getfield 50, (3, 0, 10, 32, 4212, 1), 0, []), (.iload_n 2, (1, 0, 2, 0, 0, 0), 0, []), (.iaload, (1, 0, 0, 0, 0, 0), 0, []), (.aload_n 0, (1, 0, 0, 0, 0, 0), 0, []), (.getfield 84, (3, 0, 10, 54, 4234, 1), 0, []), (.bipush 40, (2, 0, 0, 0, 0, 0), 40, []), (.aload_n 0, (1, 0, 0, 0, 0, 0), 0, []), (.getfield 314, (3, 0, 10, 41, 4221, 0), 0, []), (.imul, (1, 0, 0, 0, 0, 0), 0, []), (.iload_n 2, (1, 0, 2, 0, 0, 0), 0, []), (.iadd, (1, 0, 0, 0, 0, 0), 0, []), (.iaload, (1, 0, 0, 0, 0, 0), 0, []), (.if_icmp .ne 7, (3, 1, 6, 5, 0, 0), 0, [])],
  [(.iconst 1, (1, 0, 0, 0, 0, 0), 1, []), (.goto 4, (3, 1, 7, 0, 0, 0), 0, [])],
  [(.iconst 0, (1, 0, 0, 0, 0, 0), 0, []), (.nop, (0, 1, 7, 0, 0, 0), 0, [])],
  [(.istore_n 1, (1, 0, 1, 0, 0, 0), 0, []), (.iinc 2 1, (3, 0, 2, 0, 0, 0), 1, []), (.goto (-44), (3, 1, 2, 0, 0, 0), 0, [])],
  [(.iload_n 1, (1, 0, 1, 0, 0, 0), 0, []), (.ifCond .eq 25, (3, 1, 11, 9, 0, 0), 0, [])],
  [(.aload_n 0, (1, 0, 0, 0, 0, 0), 0, []), (.dup, (1, 0, 0, 0, 0, 0), 0, []), (.getfield 317, (3, 0, 10, 42, 4222, 0), 0, []), (.iconst 1, (1, 0, 0, 0, 0, 0), 1, []), (.iadd, (1, 0, 0, 0, 0, 0), 0, []), (.putfield 317, (3, 0, 10, 42, 4222, 0), 0, []), (.aload_n 0, (1, 0, 0, 0, 0, 0), 0, []), (.getfield 317, (3, 0, 10, 42, 4222, 0), 0, []), (.iconst 1, (1, 0, 0, 0, 0, 0), 1, []), (.if_icmp .ne 7, (3, 1, 11, 10, 0, 0), 0, [])],
  [(.aload_n 0, (1, 0, 0, 0, 0, 0), 0, []), (.invokevirtual 320, (3, 2, 176, 11, 1, 11), 6073, [])],
  [(.return_, (1, 3, 0, 0, 0, 0), 0, [])],
  [(.aload_n 0, (1, 0, 0, 0, 0, 0), 0, []), (.invokevirtual 323, (3, 2, 174, 13, 1, 11), 6077, [])],
  [(.ifCond .ne 4, (3, 1, 15, 14, 0, 0), 0, [])],
  [(.return_, (1, 3, 0, 0, 0, 0), 0, [])],
  [(.aload_n 0, (1, 0, 0, 0, 0, 0), 0, []), (.invokevirtual 294, (3, 2, 164, 16, 1, 11), 6039, [])],
  [(.istore_n 1, (1, 0, 1, 0, 0, 0), 0, []), (.aload_n 0, (1, 0, 0, 0, 0, 0), 0, []), (.getfield 307, (3, 0, 10, 40, 4220, 0), 0, []), (.iconst 1, (1, 0, 0, 0, 0, 0), 1, []), (.if_icmp .ne 39, (3, 1, 22, 17, 0, 0), 0, [])],
  [(.iload_n 1, (1, 0, 1, 0, 0, 0), 0, []), (.aload_n 0, (1, 0, 0, 0, 0, 0), 0, []), (.getfield 314, (3, 0, 10, 41, 4221, 0), 0, []), (.if_icmp .gt 30, (3, 1, 21, 18, 0, 0), 0, [])],
  [(.aload_n 0, (1, 0, 0, 0, 0, 0), 0, []), (.getfield 317, (3, 0, 10, 42, 4222, 0), 0, []), (.iconst (-1), (1, 0, 0, 0, 0, 0), (-1), []), (.if_icmp .eq 14, (3, 1, 20, 19, 0, 0), 0, [])],
  [(.aload_n 0, (1, 0, 0, 0, 0, 0), 0, []), (.getfield 263, (3, 0, 10, 34, 4214, 0), 0, []), (.aload_n 0, (1, 0, 0, 0, 0, 0), 0, []), (.getfield 317, (3, 0, 10, 42, 4222, 0), 0, []), (.if_icmp .ge 11, (3, 1, 21, 20, 0, 0), 0, [])],
  [(.aload_n 0, (1, 0, 0, 0, 0, 0), 0, []), (.aload_n 0, (1, 0, 0, 0, 0, 0), 0, []), (.getfield 263, (3, 0, 10, 34, 4214, 0), 0, []), (.putfield 317, (3, 0, 10, 42, 4222, 0), 0, []), (.nop, (0, 1, 21, 0, 0, 0), 0, [])],
  [(.return_, (1, 3, 0, 0, 0, 0), 0, [])],
  [(.aload_n 0, (1, 0, 0, 0, 0, 0), 0, []), (.getfield 317, (3, 0, 10, 42, 4222, 0), 0, []), (.iconst (-1), (1, 0, 0, 0, 0, 0), (-1), []), (.if_icmp .eq 30, (3, 1, 26, 23, 0, 0), 0, [])],
  [(.iload_n 1, (1, 0, 1, 0, 0, 0), 0, []), (.aload_n 0, (1, 0, 0, 0, 0, 0), 0, []), (.getfield 326, (3, 0, 10, 38, 4218, 0), 0, []), (.if_icmp .lt 22, (3, 1, 26, 24, 0, 0), 0, [])],
  [(.iload_n 1, (1, 0, 1, 0, 0, 0), 0, []), (.aload_n 0, (1, 0, 0, 0, 0, 0), 0, []), (.getfield 326, (3, 0, 10, 38, 4218, 0), 0, []), (.if_icmp .ne 36, (3, 1, 27, 25, 0, 0), 0, [])],
  [(.aload_n 0, (1, 0, 0, 0, 0, 0), 0, []), (.getfield 263, (3, 0, 10, 34, 4214, 0), 0, []), (.aload_n 0, (1, 0, 0, 0, 0, 0), 0, []), (.getfield 329, (3, 0, 10, 39, 4219, 0), 0, []), (.if_icmp .ge 25, (3, 1, 27, 26, 0, 0), 0, [])],
  [(.aload_n 0, (1, 0, 0, 0, 0, 0), 0, []), (.iconst 0, (1, 0, 0, 0, 0, 0), 0, []), (.putfield 317, (3, 0, 10, 42, 4222, 0), 0, []), (.aload_n 0, (1, 0, 0, 0, 0, 0), 0, []), (.iload_n 1, (1, 0, 1, 0, 0, 0), 0, []), (.putfield 326, (3, 0, 10, 38, 4218, 0), 0, []), (.aload_n 0, (1, 0, 0, 0, 0, 0), 0, []), (.aload_n 0, (1, 0, 0, 0, 0, 0), 0, []), (.getfield 263, (3, 0, 10, 34, 4214, 0), 0, []), (.putfield 329, (3, 0, 10, 39, 4219, 0), 0, []), (.aload_n 0, (1, 0, 0, 0, 0, 0), 0, []), (.invokevirtual 320, (3, 2, 176, 27, 1, 11), 6073, [])],
  [(.return_, (1, 3, 0, 0, 0, 0), 0, [])]]
/-- EvenlyPouredModel.keepsWay()V -/
noncomputable def bk_176 : List (List am_P) := [[(.iconst 0, (1, 0, 0, 0, 0, 0), 0, []), (.istore_n 1, (1, 0, 1, 0, 0, 0), 0, []), (.nop, (0, 1, 1, 0, 0, 0), 0, [])],
  [(.iload_n 1, (1, 0, 1, 0, 0, 0), 0, []), (.aload_n 0, (1, 0, 0, 0, 0, 0), 0, []), (.getfield 26, (3, 0, 10, 8, 4188, 0), 0, []), (.if_icmp .ge 21, (3, 1, 3, 2, 0, 0), 0, [])],
  [(.aload_n 0, (1, 0, 0, 0, 0, 0), 0, []), (.getfield 56, (3, 0, 10, 37, 4217, 1), 0, []), (.iload_n 1, (1, 0, 1, 0, 0, 0), 0, []), (.aload_n 0, (1, 0, 0, 0, 0, 0), 0, []), (.getfield 53, (3, 0, 10, 36, 4216, 1), 0, []), (.iload_n 1, (1, 0, 1, 0, 0, 0), 0, []), (.iaload, (1, 0, 0, 0, 0, 0), 0, []), (.iastore, (1, 0, 0, 0, 0, 0), 0, []), (.iinc 1 1, (3, 0, 1, 0, 0, 0), 1, []), (.goto (-23), (3, 1, 1, 0, 0, 0), 0, [])],
  [(.return_, (1, 3, 0, 0, 0, 0), 0, [])]]
/-- EvenlyPouredModel.seeks(II)V -/
noncomputable def bk_177 : List (List am_P) := [[(.aload_n 0, (1, 0, 0, 0, 0, 0), 0, []), (.invokevirtual 275, (3, 2, 158, 1, 1, 11), 5237, [])],
  [(.aload_n 0, (1, 0, 0, 0, 0, 0), 0, []), (.invokevirtual 278, (3, 2, 162, 2, 1, 11), 6001, [])],
  [(.aload_n 0, (1, 0, 0, 0, 0, 0), 0, []), (.iload_n 1, (1, 0, 1, 0, 0, 0), 0, []), (.putfield 307, (3, 0, 10, 40, 4220, 0), 0, []), (.aload_n 0, (1, 0, 0, 0, 0, 0), 0, []), (.iload_n 2, (1, 0, 2, 0, 0, 0), 0, []), (.putfield 314, (3, 0, 10, 41, 4221, 0), 0, []), (.aload_n 0, (1, 0, 0, 0, 0, 0), 0, []), (.iload_n 1, (1, 0, 1, 0, 0, 0), 0, []), (.iconst 2, (1, 0, 0, 0, 0, 0), 2, []), (.if_icmp .ne 7, (3, 1, 4, 3, 0, 0), 0, [])],
  [(.iconst 0, (1, 0, 0, 0, 0, 0), 0, []), (.goto 4, (3, 1, 5, 0, 0, 0), 0, [])],
  [(.iconst (-1), (1, 0, 0, 0, 0, 0), (-1), []), (.nop, (0, 1, 5, 0, 0, 0), 0, [])],
  [(.putfield 317, (3, 0, 10, 42, 4222, 0), 0, []), (.aload_n 0, (1, 0, 0, 0, 0, 0), 0, []), (.iconst 0, (1, 0, 0, 0, 0, 0), 0, []), (.invokevirtual 310, (3, 2, 173, 6, 2, 11), 6065, [])],
  [(.return_, (1, 3, 0, 0, 0, 0), 0, [])]]
/-- EvenlyPouredModel.evenest(I)I -/
noncomputable def bk_178 : List (List am_P) := [[(.iload_n 1, (1, 0, 1, 0, 0, 0), 0, []), (.i2l, (1, 0, 0, 0, 0, 0), 0, []), (.lconst 0, (1, 0, 0, 0, 0, 0), 0, []), (.ldc2_w 332, (3, 0, 25, 0, 6055, 0), 0, []), (.invokestatic 94, (3, 2, 127, 1, 3, 0), 5111, [])],
  [(.ifCond .eq 18, (3, 1, 4, 2, 0, 0), 0, [])],
  [(.iload_n 1, (1, 0, 1, 0, 0, 0), 0, []), (.iconst 1, (1, 0, 0, 0, 0, 0), 1, []), (.if_icmp .le 16, (3, 1, 5, 3, 0, 0), 0, [])],
  [(.iload_n 1, (1, 0, 1, 0, 0, 0), 0, []), (.iconst 2, (1, 0, 0, 0, 0, 0), 2, []), (.isub, (1, 0, 0, 0, 0, 0), 0, []), (.aload_n 0, (1, 0, 0, 0, 0, 0), 0, []), (.getfield 26, (3, 0, 10, 8, 4188, 0), 0, []), (.if_icmp .lt 6, (3, 1, 5, 4, 0, 0), 0, [])],
  [(.bipush (-2), (2, 0, 0, 0, 0, 0), (-2), []), (.ireturn, (1, 3, 0, 0, 0, 0), 0, [])],
  [(.aload_n 0, (1, 0, 0, 0, 0, 0), 0, []), (.invokevirtual 334, (3, 2, 172, 6, 1, 11), 6056, [])],
  [(.ifCond .eq 6, (3, 1, 8, 7, 0, 0), 0, [])],
  [(.bipush (-3), (2, 0, 0, 0, 0, 0), (-3), []), (.ireturn, (1, 3, 0, 0, 0, 0), 0, [])],
  [(.aload_n 0, (1, 0, 0, 0, 0, 0), 0, []), (.iconst 0, (1, 0, 0, 0, 0, 0), 0, []), (.iconst 0, (1, 0, 0, 0, 0, 0), 0, []), (.invokevirtual 337, (3, 2, 177, 9, 3, 11), 6061, [])],
  [(.iload_n 1, (1, 0, 1, 0, 0, 0), 0, []), (.ifCond .ne 10, (3, 1, 11, 10, 0, 0), 0, [])],
  [(.aload_n 0, (1, 0, 0, 0, 0, 0), 0, []), (.getfield 326, (3, 0, 10, 38, 4218, 0), 0, []), (.goto 23, (3, 1, 14, 0, 0, 0), 0, [])],
  [(.iload_n 1, (1, 0, 1, 0, 0, 0), 0, []), (.iconst 1, (1, 0, 0, 0, 0, 0), 1, []), (.if_icmp .ne 10, (3, 1, 13, 12, 0, 0), 0, [])],
  [(.aload_n 0, (1, 0, 0, 0, 0, 0), 0, []), (.getfield 329, (3, 0, 10, 39, 4219, 0), 0, []), (.goto 11, (3, 1, 14, 0, 0, 0), 0, [])],
  [(.aload_n 0, (1, 0, 0, 0, 0, 0), 0, []), (.getfield 56, (3, 0, 10, 37, 4217, 1), 0, []), (.iload_n 1, (1, 0, 1, 0, 0, 0), 0, []), (.iconst 2, (1, 0, 0, 0, 0, 0), 2, []), (.isub, (1, 0, 0, 0, 0, 0), 0, []), (.iaload, (1, 0, 0, 0, 0, 0), 0, []), (.nop, (0, 1, 14, 0, 0, 0), 0, [])],
  [(.ireturn, (1, 3, 0, 0, 0, 0), 0, [])]]
/-- EvenlyPouredModel.become()I -/
noncomputable def bk_179 : List (List am_P) := [[(.aload_n 0, (1, 0, 0, 0, 0, 0), 0, []), (.invokevirtual 334, (3, 2, 172, 1, 1, 11), 6056, [])],
  [(.ifCond .eq 6, (3, 1, 3, 2, 0, 0), 0, [])],
  [(.bipush (-3), (2, 0, 0, 0, 0, 0), (-3), []), (.ireturn, (1, 3, 0, 0, 0, 0), 0, [])],
  [(.aload_n 0, (1, 0, 0, 0, 0, 0), 0, []), (.iconst 0, (1, 0, 0, 0, 0, 0), 0, []), (.iconst 0, (1, 0, 0, 0, 0, 0), 0, []), (.invokevirtual 337, (3, 2, 177, 4, 3, 11), 6061, [])],
  [(.iconst 0, (1, 0, 0, 0, 0, 0), 0, []), (.istore_n 1, (1, 0, 1, 0, 0, 0), 0, []), (.nop, (0, 1, 5, 0, 0, 0), 0, [])],
  [(.iload_n 1, (1, 0, 1, 0, 0, 0), 0, []), (.aload_n 0, (1, 0, 0, 0, 0, 0), 0, []), (.getfield 26, (3, 0, 10, 8, 4188, 0), 0, []), (.if_icmp .ge 21, (3, 1, 7, 6, 0, 0), 0, [])],
  [(.aload_n 0, (1, 0, 0, 0, 0, 0), 0, []), (.getfield 29, (3, 0, 10, 9, 4189, 1), 0, []), (.iload_n 1, (1, 0, 1, 0, 0, 0), 0, []), (.aload_n 0, (1, 0, 0, 0, 0, 0), 0, []), (.getfield 56, (3, 0, 10, 37, 4217, 1), 0, []), (.iload_n 1, (1, 0, 1, 0, 0, 0), 0, []), (.iaload, (1, 0, 0, 0, 0, 0), 0, []), (.iastore, (1, 0, 0, 0, 0, 0), 0, []), (.iinc 1 1, (3, 0, 1, 0, 0, 0), 1, []), (.goto (-23), (3, 1, 5, 0, 0, 0), 0, [])],
  [(.aload_n 0, (1, 0, 0, 0, 0, 0), 0, []), (.getfield 326, (3, 0, 10, 38, 4218, 0), 0, []), (.ireturn, (1, 3, 0, 0, 0, 0), 0, [])]]
/-- EvenlyPouredModel.fewest(I)I -/
noncomputable def bk_180 : List (List am_P) := [[(.iload_n 1, (1, 0, 1, 0, 0, 0), 0, []), (.i2l, (1, 0, 0, 0, 0, 0), 0, []), (.lconst 0, (1, 0, 0, 0, 0, 0), 0, []), (.ldc2_w 341, (3, 0, 99999, 0, 6089, 0), 0, []), (.invokestatic 94, (3, 2, 127, 1, 3, 0), 5111, [])],
  [(.ifCond .ne 6, (3, 1, 3, 2, 0, 0), 0, [])],
  [(.bipush (-2), (2, 0, 0, 0, 0, 0), (-2), []), (.ireturn, (1, 3, 0, 0, 0, 0), 0, [])],
  [(.aload_n 0, (1, 0, 0, 0, 0, 0), 0, []), (.invokevirtual 334, (3, 2, 172, 4, 1, 11), 6056, [])],
  [(.ifCond .eq 6, (3, 1, 6, 5, 0, 0), 0, [])],
  [(.bipush (-3), (2, 0, 0, 0, 0, 0), (-3), []), (.ireturn, (1, 3, 0, 0, 0, 0), 0, [])],
  [(.aload_n 0, (1, 0, 0, 0, 0, 0), 0, []), (.iconst 1, (1, 0, 0, 0, 0, 0), 1, []), (.iload_n 1, (1, 0, 1, 0, 0, 0), 0, []), (.invokevirtual 337, (3, 2, 177, 7, 3, 11), 6061, [])],
  [(.aload_n 0, (1, 0, 0, 0, 0, 0), 0, []), (.getfield 317, (3, 0, 10, 42, 4222, 0), 0, []), (.ireturn, (1, 3, 0, 0, 0, 0), 0, [])]]
/-- EvenlyPouredModel.next(I)I -/
noncomputable def bk_181 : List (List am_P) := [[(.iload_n 1, (1, 0, 1, 0, 0, 0), 0, []), (.i2l, (1, 0, 0, 0, 0, 0), 0, []), (.lconst 0, (1, 0, 0, 0, 0, 0), 0, []), (.lconst 1, (1, 0, 1, 0, 0, 0), 0, []), (.invokestatic 94, (3, 2, 127, 1, 3, 0), 5111, [])],
  [(.ifCond .ne 6, (3, 1, 3, 2, 0, 0), 0, [])],
  [(.bipush (-2), (2, 0, 0, 0, 0, 0), (-2), []), (.ireturn, (1, 3, 0, 0, 0, 0), 0, [])],
  [(.aload_n 0, (1, 0, 0, 0, 0, 0), 0, []), (.getfield 26, (3, 0, 10, 8, 4188, 0), 0, []), (.bipush 24, (2, 0, 0, 0, 0, 0), 24, []), (.if_icmp .ne 6, (3, 1, 5, 4, 0, 0), 0, [])],
  [(.bipush (-3), (2, 0, 0, 0, 0, 0), (-3), []), (.ireturn, (1, 3, 0, 0, 0, 0), 0, [])],
  [(.iconst (-1), (1, 0, 0, 0, 0, 0), (-1), []), (.istore_n 2, (1, 0, 2, 0, 0, 0), 0, []), (.iconst 0, (1, 0, 0, 0, 0, 0), 0, []), (.istore_n 3, (1, 0, 3, 0, 0, 0), 0, []), (.aload_n 0, (1, 0, 0, 0, 0, 0), 0, []), (.dup, (1, 0, 0, 0, 0, 0), 0, []), (.getfield 26, (3, 0, 10, 8, 4188, 0), 0, []), (.iconst 1, (1, 0, 0, 0, 0, 0), 1, []), (.iadd, (1, 0, 0, 0, 0, 0), 0, []), (.putfield 26, (3, 0, 10, 8, 4188, 0), 0, []), (.iconst 0, (1, 0, 0, 0, 0, 0), 0, []), (.istore 4, (2, 0, 4, 0, 0, 0), 0, []), (.nop, (0, 1, 6, 0, 0, 0), 0, [])],
  [(.iload 4, (2, 0, 4, 0, 0, 0), 0, []), (.aload_n 0, (1, 0, 0, 0, 0, 0), 0, []), (.getfield 23, (3, 0, 10, 7, 4187, 0), 0, []), (.if_icmp .ge 75, (3, 1, 13, 7, 0, 0), 0, [])],
  [(.aload_n 0, (1, 0, 0, 0, 0, 0), 0, []), (.getfield 29, (3, 0, 10, 9, 4189, 1), 0, []), (.aload_n 0, (1, 0, 0, 0, 0, 0), 0, []), (.getfield 26, (3, 0, 10, 8, 4188, 0), 0, []), (.iconst 1, (1, 0, 0, 0, 0, 0), 1, []), (.isub, (1, 0, 0, 0, 0, 0), 0, []), (.iaload, (1, 0, 0, 0, 0, 0), 0, []), (.istore 5, (2, 0, 5, 0, 0, 0), 0, []), (.aload_n 0, (1, 0, 0, 0, 0, 0), 0, []), (.getfield 29, (3, 0, 10, 9, 4189, 1), 0, []), (.aload_n 0, (1, 0, 0, 0, 0, 0), 0, []), (.getfield 26, (3, 0, 10, 8, 4188, 0), 0, []), (.iconst 1, (1, 0, 0, 0, 0, 0), 1, []), (.isub, (1, 0, 0, 0, 0, 0), 0, []), (.iload 4, (2, 0, 4, 0, 0, 0), 0, []), (.iastore, (1, 0, 0, 0, 0, 0), 0, []), (.aload_n 0, (1, 0, 0, 0, 0, 0), 0, []), (.invokevirtual 285, (3, 2, 165, 8, 1, 11), 5233, [])],
  [(.aload_n 0, (1, 0, 0, 0, 0, 0), 0, []), (.getfield 29, (3, 0, 10, 9, 4189, 1), 0, []), (.aload_n 0, (1, 0, 0, 0, 0, 0), 0, []), (.getfield 26, (3, 0, 10, 8, 4188, 0), 0, []), (.iconst 1, (1, 0, 0, 0, 0, 0), 1, []), (.isub, (1, 0, 0, 0, 0, 0), 0, []), (.iload 5, (2, 0, 5, 0, 0, 0), 0, []), (.iastore, (1, 0, 0, 0, 0, 0), 0, []), (.aload_n 0, (1, 0, 0, 0, 0, 0), 0, []), (.invokevirtual 294, (3, 2, 164, 9, 1, 11), 6039, [])],
  [(.istore 6, (2, 0, 6, 0, 0, 0), 0, []), (.iload_n 2, (1, 0, 2, 0, 0, 0), 0, []), (.iconst (-1), (1, 0, 0, 0, 0, 0), (-1), []), (.if_icmp .eq 9, (3, 1, 11, 10, 0, 0), 0, [])],
  [(.iload 6, (2, 0, 6, 0, 0, 0), 0, []), (.iload_n 3, (1, 0, 3, 0, 0, 0), 0, []), (.if_icmp .ge 9, (3, 1, 12, 11, 0, 0), 0, [])],
  [(.iload 4, (2, 0, 4, 0, 0, 0), 0, []), (.istore_n 2, (1, 0, 2, 0, 0, 0), 0, []), (.iload 6, (2, 0, 6, 0, 0, 0), 0, []), (.istore_n 3, (1, 0, 3, 0, 0, 0), 0, []), (.nop, (0, 1, 12, 0, 0, 0), 0, [])],
  [(.iinc 4 1, (3, 0, 4, 0, 0, 0), 1, []), (.goto (-78), (3, 1, 6, 0, 0, 0), 0, [])],
  [(.aload_n 0, (1, 0, 0, 0, 0, 0), 0, []), (.dup, (1, 0, 0, 0, 0, 0), 0, []), (.getfield 26, (3, 0, 10, 8, 4188, 0), 0, []), (.iconst 1, (1, 0, 0, 0, 0, 0), 1, []), (.isub, (1, 0, 0, 0, 0, 0), 0, []), (.putfield 26, (3, 0, 10, 8, 4188, 0), 0, []), (.iload_n 1, (1, 0, 1, 0, 0, 0), 0, []), (.ifCond .ne 7, (3, 1, 15, 14, 0, 0), 0, [])],
  [(.iload_n 2, (1, 0, 2, 0, 0, 0), 0, []), (.goto 4, (3, 1, 16, 0, 0, 0), 0, [])],
  [(.iload_n 3, (1, 0, 3, 0, 0, 0), 0, []), (.nop, (0, 1, 16, 0, 0, 0), 0, [])],
  [(.ireturn, (1, 3, 0, 0, 0, 0), 0, [])]]
/-- EvenlyPouredModel.zigzag(I)I -/
noncomputable def bk_182 : List (List am_P) := [[(.iload_n 1, (1, 0, 1, 0, 0, 0), 0, []), (.aload_n 0, (1, 0, 0, 0, 0, 0), 0, []), (.getfield 23, (3, 0, 10, 7, 4187, 0), 0, []), (.idiv, (1, 0, 0, 0, 0, 0), 0, []), (.iconst 2, (1, 0, 0, 0, 0, 0), 2, []), (.irem, (1, 0, 0, 0, 0, 0), 0, []), (.ifCond .ne 12, (3, 1, 2, 1, 0, 0), 0, [])],
  [(.iload_n 1, (1, 0, 1, 0, 0, 0), 0, []), (.aload_n 0, (1, 0, 0, 0, 0, 0), 0, []), (.getfield 23, (3, 0, 10, 7, 4187, 0), 0, []), (.irem, (1, 0, 0, 0, 0, 0), 0, []), (.goto 16, (3, 1, 3, 0, 0, 0), 0, [])],
  [(.aload_n 0, (1, 0, 0, 0, 0, 0), 0, []), (.getfield 23, (3, 0, 10, 7, 4187, 0), 0, []), (.iconst 1, (1, 0, 0, 0, 0, 0), 1, []), (.isub, (1, 0, 0, 0, 0, 0), 0, []), (.iload_n 1, (1, 0, 1, 0, 0, 0), 0, []), (.aload_n 0, (1, 0, 0, 0, 0, 0), 0, []), (.getfield 23, (3, 0, 10, 7, 4187, 0), 0, []), (.irem, (1, 0, 0, 0, 0, 0), 0, []), (.isub, (1, 0, 0, 0, 0, 0), 0, []), (.nop, (0, 1, 3, 0, 0, 0), 0, [])],
  [(.ireturn, (1, 3, 0, 0, 0, 0), 0, [])]]
/-- EvenlyPouredModel.digits(I)I -/
noncomputable def bk_183 : List (List am_P) := [[(.aload_n 0, (1, 0, 0, 0, 0, 0), 0, []), (.getfield 23, (3, 0, 10, 7, 4187, 0), 0, []), (.iconst 1, (1, 0, 0, 0, 0, 0), 1, []), (.if_icmp .ne 7, (3, 1, 2, 1, 0, 0), 0, [])],
  [(.iconst 2, (1, 0, 0, 0, 0, 0), 2, []), (.goto 7, (3, 1, 3, 0, 0, 0), 0, [])],
  [(.aload_n 0, (1, 0, 0, 0, 0, 0), 0, []), (.getfield 23, (3, 0, 10, 7, 4187, 0), 0, []), (.nop, (0, 1, 3, 0, 0, 0), 0, [])],
  [(.istore_n 2, (1, 0, 2, 0, 0, 0), 0, []), (.iconst 0, (1, 0, 0, 0, 0, 0), 0, []), (.istore_n 3, (1, 0, 3, 0, 0, 0), 0, []), (.iload_n 1, (1, 0, 1, 0, 0, 0), 0, []), (.istore 4, (2, 0, 4, 0, 0, 0), 0, []), (.nop, (0, 1, 4, 0, 0, 0), 0, [])],
  [(.iload 4, (2, 0, 4, 0, 0, 0), 0, []), (.ifCond .le 19, (3, 1, 6, 5, 0, 0), 0, [])],
  [(.iload_n 3, (1, 0, 3, 0, 0, 0), 0, []), (.iload 4, (2, 0, 4, 0, 0, 0), 0, []), (.iload_n 2, (1, 0, 2, 0, 0, 0), 0, []), (.irem, (1, 0, 0, 0, 0, 0), 0, []), (.iadd, (1, 0, 0, 0, 0, 0), 0, []), (.istore_n 3, (1, 0, 3, 0, 0, 0), 0, []), (.iload 4, (2, 0, 4, 0, 0, 0), 0, []), (.iload_n 2, (1, 0, 2, 0, 0, 0), 0, []), (.idiv, (1, 0, 0, 0, 0, 0), 0, []), (.istore 4, (2, 0, 4, 0, 0, 0), 0, []), (.goto (-18), (3, 1, 4, 0, 0, 0), 0, [])],
  [(.iload_n 3, (1, 0, 3, 0, 0, 0), 0, []), (.aload_n 0, (1, 0, 0, 0, 0, 0), 0, []), (.getfield 23, (3, 0, 10, 7, 4187, 0), 0, []), (.irem, (1, 0, 0, 0, 0, 0), 0, []), (.ireturn, (1, 3, 0, 0, 0, 0), 0, [])]]
/-- EvenlyPouredModel.goesTo(II)I -/
noncomputable def bk_184 : List (List am_P) := [[(.aload_n 0, (1, 0, 0, 0, 0, 0), 0, []), (.getfield 35, (3, 0, 10, 11, 4191, 1), 0, []), (.iload_n 1, (1, 0, 1, 0, 0, 0), 0, []), (.iaload, (1, 0, 0, 0, 0, 0), 0, []), (.istore_n 3, (1, 0, 3, 0, 0, 0), 0, []), (.aload_n 0, (1, 0, 0, 0, 0, 0), 0, []), (.getfield 32, (3, 0, 10, 10, 4190, 1), 0, []), (.iload_n 1, (1, 0, 1, 0, 0, 0), 0, []), (.iaload, (1, 0, 0, 0, 0, 0), 0, []), (.istore 4, (2, 0, 4, 0, 0, 0), 0, []), (.iload 4, (2, 0, 4, 0, 0, 0), 0, []), (.ifCond .ne 12, (3, 1, 2, 1, 0, 0), 0, [])],
  [(.iload_n 2, (1, 0, 2, 0, 0, 0), 0, []), (.iload_n 3, (1, 0, 3, 0, 0, 0), 0, []), (.iadd, (1, 0, 0, 0, 0, 0), 0, []), (.aload_n 0, (1, 0, 0, 0, 0, 0), 0, []), (.getfield 23, (3, 0, 10, 7, 4187, 0), 0, []), (.irem, (1, 0, 0, 0, 0, 0), 0, []), (.ireturn, (1, 3, 0, 0, 0, 0), 0, [])],
  [(.iload 4, (2, 0, 4, 0, 0, 0), 0, []), (.iconst 2, (1, 0, 0, 0, 0, 0), 2, []), (.if_icmp .ne 9, (3, 1, 5, 3, 0, 0), 0, [])],
  [(.aload_n 0, (1, 0, 0, 0, 0, 0), 0, []), (.iload_n 2, (1, 0, 2, 0, 0, 0), 0, []), (.invokevirtual 343, (3, 2, 183, 4, 2, 11), 6107, [])],
  [(.ireturn, (1, 3, 0, 0, 0, 0), 0, [])],
  [(.iload 4, (2, 0, 4, 0, 0, 0), 0, []), (.iconst 4, (1, 0, 0, 0, 0, 0), 4, []), (.if_icmp .ne 18, (3, 1, 8, 6, 0, 0), 0, [])],
  [(.aload_n 0, (1, 0, 0, 0, 0, 0), 0, []), (.iload_n 2, (1, 0, 2, 0, 0, 0), 0, []), (.iload_n 3, (1, 0, 3, 0, 0, 0), 0, []), (.iadd, (1, 0, 0, 0, 0, 0), 0, []), (.invokevirtual 343, (3, 2, 183, 7, 2, 11), 6107, [])],
  [(.iconst 1, (1, 0, 0, 0, 0, 0), 1, []), (.iadd, (1, 0, 0, 0, 0, 0), 0, []), (.aload_n 0, (1, 0, 0, 0, 0, 0), 0, []), (.getfield 23, (3, 0, 10, 7, 4187, 0), 0, []), (.irem, (1, 0, 0, 0, 0, 0), 0, []), (.ireturn, (1, 3, 0, 0, 0, 0), 0, [])],
  [(.iload 4, (2, 0, 4, 0, 0, 0), 0, []), (.iconst 3, (1, 0, 0, 0, 0, 0), 3, []), (.if_icmp .ne 13, (3, 1, 11, 9, 0, 0), 0, [])],
  [(.aload_n 0, (1, 0, 0, 0, 0, 0), 0, []), (.iload_n 2, (1, 0, 2, 0, 0, 0), 0, []), (.iload_n 3, (1, 0, 3, 0, 0, 0), 0, []), (.iconst 1, (1, 0, 0, 0, 0, 0), 1, []), (.iadd, (1, 0, 0, 0, 0, 0), 0, []), (.idiv, (1, 0, 0, 0, 0, 0), 0, []), (.invokevirtual 346, (3, 2, 182, 10, 2, 11), 6111, [])],
  [(.ireturn, (1, 3, 0, 0, 0, 0), 0, [])],
  [(.iload 4, (2, 0, 4, 0, 0, 0), 0, []), (.iconst 1, (1, 0, 0, 0, 0, 0), 1, []), (.if_icmp .eq 8, (3, 1, 13, 12, 0, 0), 0, [])],
  [(.iload_n 2, (1, 0, 2, 0, 0, 0), 0, []), (.iload_n 3, (1, 0, 3, 0, 0, 0), 0, []), (.if_icmp .ge 9, (3, 1, 15, 13, 0, 0), 0, [])],
  [(.aload_n 0, (1, 0, 0, 0, 0, 0), 0, []), (.iload_n 2, (1, 0, 2, 0, 0, 0), 0, []), (.invokevirtual 346, (3, 2, 182, 14, 2, 11), 6111, [])],
  [(.ireturn, (1, 3, 0, 0, 0, 0), 0, [])],
  [(.iconst 0, (1, 0, 0, 0, 0, 0), 0, []), (.istore 5, (2, 0, 5, 0, 0, 0), 0, []), (.iconst 1, (1, 0, 0, 0, 0, 0), 1, []), (.istore 6, (2, 0, 6, 0, 0, 0), 0, []), (.nop, (0, 1, 16, 0, 0, 0), 0, [])],
  [(.iload 6, (2, 0, 6, 0, 0, 0), 0, []), (.aload_n 0, (1, 0, 0, 0, 0, 0), 0, []), (.getfield 23, (3, 0, 10, 7, 4187, 0), 0, []), (.if_icmp .ge 35, (3, 1, 21, 17, 0, 0), 0, [])],
  [(.aload_n 0, (1, 0, 0, 0, 0, 0), 0, []), (.getfield 50, (3, 0, 10, 32, 4212, 1), 0, []), (.iload 6, (2, 0, 6, 0, 0, 0), 0, []), (.iaload, (1, 0, 0, 0, 0, 0), 0, []), (.aload_n 0, (1, 0, 0, 0, 0, 0), 0, []), (.getfield 50, (3, 0, 10, 32, 4212, 1), 0, []), (.iload 5, (2, 0, 5, 0, 0, 0), 0, []), (.iaload, (1, 0, 0, 0, 0, 0), 0, []), (.if_icmp .ge 8, (3, 1, 19, 18, 0, 0), 0, [])],
  [(.iload 6, (2, 0, 6, 0, 0, 0), 0, []), (.goto 5, (3, 1, 20, 0, 0, 0), 0, [])],
  [(.iload 5, (2, 0, 5, 0, 0, 0), 0, []), (.nop, (0, 1, 20, 0, 0, 0), 0, [])],
  [(.istore 5, (2, 0, 5, 0, 0, 0), 0, []), (.iinc 6 1, (3, 0, 6, 0, 0, 0), 1, []), (.goto (-38), (3, 1, 16, 0, 0, 0), 0, [])],
  [(.iload 5, (2, 0, 5, 0, 0, 0), 0, []), (.ireturn, (1, 3, 0, 0, 0, 0), 0, [])]]
/-- EvenlyPouredModel.poursBy(I)V -/
noncomputable def bk_185 : List (List am_P) := [[(.aload_n 0, (1, 0, 0, 0, 0, 0), 0, []), (.invokevirtual 275, (3, 2, 158, 1, 1, 11), 5237, [])],
  [(.aload_n 0, (1, 0, 0, 0, 0, 0), 0, []), (.invokevirtual 278, (3, 2, 162, 2, 1, 11), 6001, [])],
  [(.iconst 0, (1, 0, 0, 0, 0, 0), 0, []), (.istore_n 2, (1, 0, 2, 0, 0, 0), 0, []), (.nop, (0, 1, 3, 0, 0, 0), 0, [])],
  [(.iload_n 2, (1, 0, 2, 0, 0, 0), 0, []), (.aload_n 0, (1, 0, 0, 0, 0, 0), 0, []), (.getfield 26, (3, 0, 10, 8, 4188, 0), 0, []), (.if_icmp .ge 33, (3, 1, 7, 4, 0, 0), 0, [])],
  [(.aload_n 0, (1, 0, 0, 0, 0, 0), 0, []), (.getfield 53, (3, 0, 10, 36, 4216, 1), 0, []), (.iload_n 2, (1, 0, 2, 0, 0, 0), 0, []), (.aload_n 0, (1, 0, 0, 0, 0, 0), 0, []), (.iload_n 1, (1, 0, 1, 0, 0, 0), 0, []), (.iload_n 2, (1, 0, 2, 0, 0, 0), 0, []), (.invokevirtual 349, (3, 2, 184, 5, 3, 11), 6103, [])],
  [(.iastore, (1, 0, 0, 0, 0, 0), 0, []), (.aload_n 0, (1, 0, 0, 0, 0, 0), 0, []), (.iload_n 2, (1, 0, 2, 0, 0, 0), 0, []), (.aload_n 0, (1, 0, 0, 0, 0, 0), 0, []), (.getfield 53, (3, 0, 10, 36, 4216, 1), 0, []), (.iload_n 2, (1, 0, 2, 0, 0, 0), 0, []), (.iaload, (1, 0, 0, 0, 0, 0), 0, []), (.iconst 0, (1, 0, 0, 0, 0, 0), 0, []), (.invokevirtual 281, (3, 2, 163, 6, 4, 11), 6005, [])],
  [(.iinc 2 1, (3, 0, 2, 0, 0, 0), 1, []), (.goto (-35), (3, 1, 3, 0, 0, 0), 0, [])],
  [(.return_, (1, 3, 0, 0, 0, 0), 0, [])]]
/-- EvenlyPouredModel.poured(II)I -/
noncomputable def bk_186 : List (List am_P) := [[(.aload_n 0, (1, 0, 0, 0, 0, 0), 0, []), (.iload_n 1, (1, 0, 1, 0, 0, 0), 0, []), (.invokevirtual 103, (3, 2, 132, 1, 2, 11), 5114, [])],
  [(.ifCond .eq 21, (3, 1, 4, 2, 0, 0), 0, [])],
  [(.iload_n 2, (1, 0, 2, 0, 0, 0), 0, []), (.i2l, (1, 0, 0, 0, 0, 0), 0, []), (.ldc2_w 352, (3, 0, 100001, 0, 6098, 0), 0, []), (.aload_n 0, (1, 0, 0, 0, 0, 0), 0, []), (.getfield 26, (3, 0, 10, 8, 4188, 0), 0, []), (.iconst 1, (1, 0, 0, 0, 0, 0), 1, []), (.isub, (1, 0, 0, 0, 0, 0), 0, []), (.i2l, (1, 0, 0, 0, 0, 0), 0, []), (.invokestatic 94, (3, 2, 127, 3, 3, 0), 5111, [])],
  [(.ifCond .ne 6, (3, 1, 5, 4, 0, 0), 0, [])],
  [(.bipush (-2), (2, 0, 0, 0, 0, 0), (-2), []), (.ireturn, (1, 3, 0, 0, 0, 0), 0, [])],
  [(.aload_n 0, (1, 0, 0, 0, 0, 0), 0, []), (.iload_n 1, (1, 0, 1, 0, 0, 0), 0, []), (.invokevirtual 354, (3, 2, 185, 6, 2, 11), 6099, [])],
  [(.iload_n 2, (1, 0, 2, 0, 0, 0), 0, []), (.iconst (-1), (1, 0, 0, 0, 0, 0), (-1), []), (.if_icmp .ne 10, (3, 1, 9, 7, 0, 0), 0, [])],
  [(.aload_n 0, (1, 0, 0, 0, 0, 0), 0, []), (.invokevirtual 294, (3, 2, 164, 8, 1, 11), 6039, [])],
  [(.goto 9, (3, 1, 10, 0, 0, 0), 0, [])],
  [(.aload_n 0, (1, 0, 0, 0, 0, 0), 0, []), (.getfield 53, (3, 0, 10, 36, 4216, 1), 0, []), (.iload_n 2, (1, 0, 2, 0, 0, 0), 0, []), (.iaload, (1, 0, 0, 0, 0, 0), 0, []), (.nop, (0, 1, 10, 0, 0, 0), 0, [])],
  [(.ireturn, (1, 3, 0, 0, 0, 0), 0, [])]]
/-- EvenlyPouredModel.follow(I)I -/
noncomputable def bk_187 : List (List am_P) := [[(.aload_n 0, (1, 0, 0, 0, 0, 0), 0, []), (.iload_n 1, (1, 0, 1, 0, 0, 0), 0, []), (.invokevirtual 103, (3, 2, 132, 1, 2, 11), 5114, [])],
  [(.ifCond .ne 6, (3, 1, 3, 2, 0, 0), 0, [])],
  [(.bipush (-2), (2, 0, 0, 0, 0, 0), (-2), []), (.ireturn, (1, 3, 0, 0, 0, 0), 0, [])],
  [(.aload_n 0, (1, 0, 0, 0, 0, 0), 0, []), (.iload_n 1, (1, 0, 1, 0, 0, 0), 0, []), (.invokevirtual 354, (3, 2, 185, 4, 2, 11), 6099, [])],
  [(.iconst 0, (1, 0, 0, 0, 0, 0), 0, []), (.istore_n 2, (1, 0, 2, 0, 0, 0), 0, []), (.nop, (0, 1, 5, 0, 0, 0), 0, [])],
  [(.iload_n 2, (1, 0, 2, 0, 0, 0), 0, []), (.aload_n 0, (1, 0, 0, 0, 0, 0), 0, []), (.getfield 26, (3, 0, 10, 8, 4188, 0), 0, []), (.if_icmp .ge 21, (3, 1, 7, 6, 0, 0), 0, [])],
  [(.aload_n 0, (1, 0, 0, 0, 0, 0), 0, []), (.getfield 29, (3, 0, 10, 9, 4189, 1), 0, []), (.iload_n 2, (1, 0, 2, 0, 0, 0), 0, []), (.aload_n 0, (1, 0, 0, 0, 0, 0), 0, []), (.getfield 53, (3, 0, 10, 36, 4216, 1), 0, []), (.iload_n 2, (1, 0, 2, 0, 0, 0), 0, []), (.iaload, (1, 0, 0, 0, 0, 0), 0, []), (.iastore, (1, 0, 0, 0, 0, 0), 0, []), (.iinc 2 1, (3, 0, 2, 0, 0, 0), 1, []), (.goto (-23), (3, 1, 5, 0, 0, 0), 0, [])],
  [(.aload_n 0, (1, 0, 0, 0, 0, 0), 0, []), (.invokevirtual 294, (3, 2, 164, 8, 1, 11), 6039, [])],
  [(.ireturn, (1, 3, 0, 0, 0, 0), 0, [])]]
/-- EvenlyPouredModel.which(I)I -/
noncomputable def bk_188 : List (List am_P) := [[(.iload_n 1, (1, 0, 1, 0, 0, 0), 0, []), (.i2l, (1, 0, 0, 0, 0, 0), 0, []), (.lconst 0, (1, 0, 0, 0, 0, 0), 0, []), (.lconst 1, (1, 0, 1, 0, 0, 0), 0, []), (.invokestatic 94, (3, 2, 127, 1, 3, 0), 5111, [])],
  [(.ifCond .ne 6, (3, 1, 3, 2, 0, 0), 0, [])],
  [(.bipush (-2), (2, 0, 0, 0, 0, 0), (-2), []), (.ireturn, (1, 3, 0, 0, 0, 0), 0, [])],
  [(.iconst (-1), (1, 0, 0, 0, 0, 0), (-1), []), (.istore_n 2, (1, 0, 2, 0, 0, 0), 0, []), (.iconst (-1), (1, 0, 0, 0, 0, 0), (-1), []), (.istore_n 3, (1, 0, 3, 0, 0, 0), 0, []), (.iconst 0, (1, 0, 0, 0, 0, 0), 0, []), (.istore 4, (2, 0, 4, 0, 0, 0), 0, []), (.nop, (0, 1, 4, 0, 0, 0), 0, [])],
  [(.iload 4, (2, 0, 4, 0, 0, 0), 0, []), (.aload_n 0, (1, 0, 0, 0, 0, 0), 0, []), (.getfield 98, (3, 0, 10, 12, 4192, 0), 0, []), (.if_icmp .ge 38, (3, 1, 11, 5, 0, 0), 0, [])],
  [(.aload_n 0, (1, 0, 0, 0, 0, 0), 0, []), (.iload 4, (2, 0, 4, 0, 0, 0), 0, []), (.invokevirtual 354, (3, 2, 185, 6, 2, 11), 6099, [])],
  [(.aload_n 0, (1, 0, 0, 0, 0, 0), 0, []), (.invokevirtual 294, (3, 2, 164, 7, 1, 11), 6039, [])],
  [(.istore 5, (2, 0, 5, 0, 0, 0), 0, []), (.iload_n 2, (1, 0, 2, 0, 0, 0), 0, []), (.iconst (-1), (1, 0, 0, 0, 0, 0), (-1), []), (.if_icmp .eq 9, (3, 1, 9, 8, 0, 0), 0, [])],
  [(.iload 5, (2, 0, 5, 0, 0, 0), 0, []), (.iload_n 3, (1, 0, 3, 0, 0, 0), 0, []), (.if_icmp .ge 9, (3, 1, 10, 9, 0, 0), 0, [])],
  [(.iload 4, (2, 0, 4, 0, 0, 0), 0, []), (.istore_n 2, (1, 0, 2, 0, 0, 0), 0, []), (.iload 5, (2, 0, 5, 0, 0, 0), 0, []), (.istore_n 3, (1, 0, 3, 0, 0, 0), 0, []), (.nop, (0, 1, 10, 0, 0, 0), 0, [])],
  [(.iinc 4 1, (3, 0, 4, 0, 0, 0), 1, []), (.goto (-41), (3, 1, 4, 0, 0, 0), 0, [])],
  [(.iload_n 1, (1, 0, 1, 0, 0, 0), 0, []), (.ifCond .ne 7, (3, 1, 13, 12, 0, 0), 0, [])],
  [(.iload_n 2, (1, 0, 2, 0, 0, 0), 0, []), (.goto 4, (3, 1, 14, 0, 0, 0), 0, [])],
  [(.iload_n 3, (1, 0, 3, 0, 0, 0), 0, []), (.nop, (0, 1, 14, 0, 0, 0), 0, [])],
  [(.ireturn, (1, 3, 0, 0, 0, 0), 0, [])]]
/-- EvenlyPouredModel.captains(I)I -/
noncomputable def bk_189 : List (List am_P) := [[(.iload_n 1, (1, 0, 1, 0, 0, 0), 0, []), (.iconst (-1), (1, 0, 0, 0, 0, 0), (-1), []), (.if_icmp .eq 14, (3, 1, 4, 1, 0, 0), 0, [])],
  [(.aload_n 0, (1, 0, 0, 0, 0, 0), 0, []), (.iload_n 1, (1, 0, 1, 0, 0, 0), 0, []), (.invokevirtual 119, (3, 2, 131, 2, 2, 11), 5132, [])],
  [(.ifCond .ne 6, (3, 1, 4, 3, 0, 0), 0, [])],
  [(.bipush (-2), (2, 0, 0, 0, 0, 0), (-2), []), (.ireturn, (1, 3, 0, 0, 0, 0), 0, [])],
  [(.iconst 0, (1, 0, 0, 0, 0, 0), 0, []), (.istore_n 2, (1, 0, 2, 0, 0, 0), 0, []), (.nop, (0, 1, 5, 0, 0, 0), 0, [])],
  [(.iload_n 2, (1, 0, 2, 0, 0, 0), 0, []), (.iconst 4, (1, 0, 0, 0, 0, 0), 4, []), (.if_icmp .ge 16, (3, 1, 7, 6, 0, 0), 0, [])],
  [(.aload_n 0, (1, 0, 0, 0, 0, 0), 0, []), (.getfield 59, (3, 0, 10, 43, 4223, 1), 0, []), (.iload_n 2, (1, 0, 2, 0, 0, 0), 0, []), (.iconst 0, (1, 0, 0, 0, 0, 0), 0, []), (.iastore, (1, 0, 0, 0, 0, 0), 0, []), (.iinc 2 1, (3, 0, 2, 0, 0, 0), 1, []), (.goto (-15), (3, 1, 5, 0, 0, 0), 0, [])],
  [(.iconst 0, (1, 0, 0, 0, 0, 0), 0, []), (.istore_n 2, (1, 0, 2, 0, 0, 0), 0, []), (.iconst 0, (1, 0, 0, 0, 0, 0), 0, []), (.istore_n 3, (1, 0, 3, 0, 0, 0), 0, []), (.nop, (0, 1, 8, 0, 0, 0), 0, [])],
  [(.iload_n 3, (1, 0, 3, 0, 0, 0), 0, []), (.aload_n 0, (1, 0, 0, 0, 0, 0), 0, []), (.getfield 26, (3, 0, 10, 8, 4188, 0), 0, []), (.if_icmp .ge 98, (3, 1, 18, 9, 0, 0), 0, [])],
  [(.iload_n 3, (1, 0, 3, 0, 0, 0), 0, []), (.bipush 8, (2, 0, 0, 0, 0, 0), 8, []), (.if_icmp .ge 92, (3, 1, 18, 10, 0, 0), 0, [])],
  [(.iconst (-1), (1, 0, 0, 0, 0, 0), (-1), []), (.istore 4, (2, 0, 4, 0, 0, 0), 0, []), (.iconst 0, (1, 0, 0, 0, 0, 0), 0, []), (.istore 5, (2, 0, 5, 0, 0, 0), 0, []), (.nop, (0, 1, 11, 0, 0, 0), 0, [])],
  [(.iload 5, (2, 0, 5, 0, 0, 0), 0, []), (.bipush 8, (2, 0, 0, 0, 0, 0), 8, []), (.if_icmp .ge 45, (3, 1, 17, 12, 0, 0), 0, [])],
  [(.iload_n 2, (1, 0, 2, 0, 0, 0), 0, []), (.iload 5, (2, 0, 5, 0, 0, 0), 0, []), (.ishr, (1, 0, 0, 0, 0, 0), 0, []), (.iconst 1, (1, 0, 0, 0, 0, 0), 1, []), (.iand, (1, 0, 0, 0, 0, 0), 0, []), (.ifCond .ne 30, (3, 1, 16, 13, 0, 0), 0, [])],
  [(.iload 4, (2, 0, 4, 0, 0, 0), 0, []), (.iconst (-1), (1, 0, 0, 0, 0, 0), (-1), []), (.if_icmp .eq 20, (3, 1, 15, 14, 0, 0), 0, [])],
  [(.aload_n 0, (1, 0, 0, 0, 0, 0), 0, []), (.getfield 38, (3, 0, 10, 13, 4193, 1), 0, []), (.iload 5, (2, 0, 5, 0, 0, 0), 0, []), (.iaload, (1, 0, 0, 0, 0, 0), 0, []), (.aload_n 0, (1, 0, 0, 0, 0, 0), 0, []), (.getfield 38, (3, 0, 10, 13, 4193, 1), 0, []), (.iload 4, (2, 0, 4, 0, 0, 0), 0, []), (.iaload, (1, 0, 0, 0, 0, 0), 0, []), (.if_icmp .le 7, (3, 1, 16, 15, 0, 0), 0, [])],
  [(.iload 5, (2, 0, 5, 0, 0, 0), 0, []), (.istore 4, (2, 0, 4, 0, 0, 0), 0, []), (.nop, (0, 1, 16, 0, 0, 0), 0, [])],
  [(.iinc 5 1, (3, 0, 5, 0, 0, 0), 1, []), (.goto (-46), (3, 1, 11, 0, 0, 0), 0, [])],
  [(.iload_n 2, (1, 0, 2, 0, 0, 0), 0, []), (.iconst 1, (1, 0, 0, 0, 0, 0), 1, []), (.iload 4, (2, 0, 4, 0, 0, 0), 0, []), (.ishl, (1, 0, 0, 0, 0, 0), 0, []), (.ior, (1, 0, 0, 0, 0, 0), 0, []), (.istore_n 2, (1, 0, 2, 0, 0, 0), 0, []), (.aload_n 0, (1, 0, 0, 0, 0, 0), 0, []), (.getfield 59, (3, 0, 10, 43, 4223, 1), 0, []), (.aload_n 0, (1, 0, 0, 0, 0, 0), 0, []), (.getfield 29, (3, 0, 10, 9, 4189, 1), 0, []), (.iload_n 3, (1, 0, 3, 0, 0, 0), 0, []), (.iaload, (1, 0, 0, 0, 0, 0), 0, []), (.dup2, (1, 0, 0, 0, 0, 0), 0, []), (.iaload, (1, 0, 0, 0, 0, 0), 0, []), (.aload_n 0, (1, 0, 0, 0, 0, 0), 0, []), (.getfield 38, (3, 0, 10, 13, 4193, 1), 0, []), (.iload 4, (2, 0, 4, 0, 0, 0), 0, []), (.iaload, (1, 0, 0, 0, 0, 0), 0, []), (.iadd, (1, 0, 0, 0, 0, 0), 0, []), (.iastore, (1, 0, 0, 0, 0, 0), 0, []), (.iinc 3 1, (3, 0, 3, 0, 0, 0), 1, []), (.goto (-100), (3, 1, 8, 0, 0, 0), 0, [])],
  [(.iload_n 1, (1, 0, 1, 0, 0, 0), 0, []), (.iconst (-1), (1, 0, 0, 0, 0, 0), (-1), []), (.if_icmp .eq 10, (3, 1, 20, 19, 0, 0), 0, [])],
  [(.aload_n 0, (1, 0, 0, 0, 0, 0), 0, []), (.getfield 59, (3, 0, 10, 43, 4223, 1), 0, []), (.iload_n 1, (1, 0, 1, 0, 0, 0), 0, []), (.iaload, (1, 0, 0, 0, 0, 0), 0, []), (.ireturn, (1, 3, 0, 0, 0, 0), 0, [])],
  [(.aload_n 0, (1, 0, 0, 0, 0, 0), 0, []), (.getfield 59, (3, 0, 10, 43, 4223, 1), 0, []), (.iconst 0, (1, 0, 0, 0, 0, 0), 0, []), (.iaload, (1, 0, 0, 0, 0, 0), 0, []), (.istore_n 3, (1, 0, 3, 0, 0, 0), 0, []), (.aload_n 0, (1, 0, 0, 0, 0, 0), 0, []), (.getfield 59, (3, 0, 10, 43, 4223, 1), 0, []), (.iconst 0, (1, 0, 0, 0, 0, 0), 0, []), (.iaload, (1, 0, 0, 0, 0, 0), 0, []), (.istore 4, (2, 0, 4, 0, 0, 0), 0, []), (.iconst 1, (1, 0, 0, 0, 0, 0), 1, []), (.istore 5, (2, 0, 5, 0, 0, 0), 0, []), (.nop, (0, 1, 21, 0, 0, 0), 0, [])],
  [(.iload 5, (2, 0, 5, 0, 0, 0), 0, []), (.aload_n 0, (1, 0, 0, 0, 0, 0), 0, []), (.getfield 23, (3, 0, 10, 7, 4187, 0), 0, []), (.if_icmp .ge 58, (3, 1, 29, 22, 0, 0), 0, [])],
  [(.aload_n 0, (1, 0, 0, 0, 0, 0), 0, []), (.getfield 59, (3, 0, 10, 43, 4223, 1), 0, []), (.iload 5, (2, 0, 5, 0, 0, 0), 0, []), (.iaload, (1, 0, 0, 0, 0, 0), 0, []), (.iload_n 3, (1, 0, 3, 0, 0, 0), 0, []), (.if_icmp .le 13, (3, 1, 24, 23, 0, 0), 0, [])],
  [(.aload_n 0, (1, 0, 0, 0, 0, 0), 0, []), (.getfield 59, (3, 0, 10, 43, 4223, 1), 0, []), (.iload 5, (2, 0, 5, 0, 0, 0), 0, []), (.iaload, (1, 0, 0, 0, 0, 0), 0, []), (.goto 4, (3, 1, 25, 0, 0, 0), 0, [])],
  [(.iload_n 3, (1, 0, 3, 0, 0, 0), 0, []), (.nop, (0, 1, 25, 0, 0, 0), 0, [])],
  [(.istore_n 3, (1, 0, 3, 0, 0, 0), 0, []), (.aload_n 0, (1, 0, 0, 0, 0, 0), 0, []), (.getfield 59, (3, 0, 10, 43, 4223, 1), 0, []), (.iload 5, (2, 0, 5, 0, 0, 0), 0, []), (.iaload, (1, 0, 0, 0, 0, 0), 0, []), (.iload 4, (2, 0, 4, 0, 0, 0), 0, []), (.if_icmp .ge 13, (3, 1, 27, 26, 0, 0), 0, [])],
  [(.aload_n 0, (1, 0, 0, 0, 0, 0), 0, []), (.getfield 59, (3, 0, 10, 43, 4223, 1), 0, []), (.iload 5, (2, 0, 5, 0, 0, 0), 0, []), (.iaload, (1, 0, 0, 0, 0, 0), 0, []), (.goto 5, (3, 1, 28, 0, 0, 0), 0, [])],
  [(.iload 4, (2, 0, 4, 0, 0, 0), 0, []), (.nop, (0, 1, 28, 0, 0, 0), 0, [])],
  [(.istore 4, (2, 0, 4, 0, 0, 0), 0, []), (.iinc 5 1, (3, 0, 5, 0, 0, 0), 1, []), (.goto (-61), (3, 1, 21, 0, 0, 0), 0, [])],
  [(.iload_n 3, (1, 0, 3, 0, 0, 0), 0, []), (.iload 4, (2, 0, 4, 0, 0, 0), 0, []), (.isub, (1, 0, 0, 0, 0, 0), 0, []), (.ireturn, (1, 3, 0, 0, 0, 0), 0, [])]]
/-- EvenlyPouredModel.tasteBad(I)I -/
noncomputable def bk_190 : List (List am_P) := [[(.iload_n 1, (1, 0, 1, 0, 0, 0), 0, []), (.invokestatic 357, (3, 2, 200, 1, 1, 0), 6131, [])],
  [(.ifCond .ne 6, (3, 1, 3, 2, 0, 0), 0, [])],
  [(.bipush (-2), (2, 0, 0, 0, 0, 0), (-2), []), (.ireturn, (1, 3, 0, 0, 0, 0), 0, [])],
  [(.aload_n 0, (1, 0, 0, 0, 0, 0), 0, []), (.getfield 74, (3, 0, 10, 51, 4231, 1), 0, []), (.iload_n 1, (1, 0, 1, 0, 0, 0), 0, []), (.baload, (1, 0, 21, 0, 0, 0), 0, []), (.ifCond .ne 6, (3, 1, 5, 4, 0, 0), 0, [])],
  [(.bipush (-11), (2, 0, 0, 0, 0, 0), (-11), []), (.ireturn, (1, 3, 0, 0, 0, 0), 0, [])],
  [(.aload_n 0, (1, 0, 0, 0, 0, 0), 0, []), (.getfield 81, (3, 0, 10, 53, 4233, 1), 0, []), (.iload_n 1, (1, 0, 1, 0, 0, 0), 0, []), (.iaload, (1, 0, 0, 0, 0, 0), 0, []), (.aload_n 0, (1, 0, 0, 0, 0, 0), 0, []), (.getfield 23, (3, 0, 10, 7, 4187, 0), 0, []), (.if_icmp .ne 7, (3, 1, 7, 6, 0, 0), 0, [])],
  [(.iconst 0, (1, 0, 0, 0, 0, 0), 0, []), (.goto 5, (3, 1, 8, 0, 0, 0), 0, [])],
  [(.bipush (-2), (2, 0, 0, 0, 0, 0), (-2), []), (.nop, (0, 1, 8, 0, 0, 0), 0, [])],
  [(.ireturn, (1, 3, 0, 0, 0, 0), 0, [])]]
/-- EvenlyPouredModel.tastes(II)I -/
noncomputable def bk_191 : List (List am_P) := [[(.iload_n 1, (1, 0, 1, 0, 0, 0), 0, []), (.invokestatic 357, (3, 2, 200, 1, 1, 0), 6131, [])],
  [(.ifCond .eq 13, (3, 1, 4, 2, 0, 0), 0, [])],
  [(.iload_n 2, (1, 0, 2, 0, 0, 0), 0, []), (.i2l, (1, 0, 0, 0, 0, 0), 0, []), (.lconst 0, (1, 0, 0, 0, 0, 0), 0, []), (.lconst 1, (1, 0, 1, 0, 0, 0), 0, []), (.invokestatic 94, (3, 2, 127, 3, 3, 0), 5111, [])],
  [(.ifCond .ne 6, (3, 1, 5, 4, 0, 0), 0, [])],
  [(.bipush (-2), (2, 0, 0, 0, 0, 0), (-2), []), (.ireturn, (1, 3, 0, 0, 0, 0), 0, [])],
  [(.aload_n 0, (1, 0, 0, 0, 0, 0), 0, []), (.iload_n 1, (1, 0, 1, 0, 0, 0), 0, []), (.invokevirtual 360, (3, 2, 190, 6, 2, 11), 6134, [])],
  [(.istore_n 3, (1, 0, 3, 0, 0, 0), 0, []), (.iload_n 3, (1, 0, 3, 0, 0, 0), 0, []), (.ifCond .eq 5, (3, 1, 8, 7, 0, 0), 0, [])],
  [(.iload_n 3, (1, 0, 3, 0, 0, 0), 0, []), (.ireturn, (1, 3, 0, 0, 0, 0), 0, [])],
  [(.aload_n 0, (1, 0, 0, 0, 0, 0), 0, []), (.getfield 26, (3, 0, 10, 8, 4188, 0), 0, []), (.bipush 9, (2, 0, 0, 0, 0, 0), 9, []), (.if_icmp .gt 10, (3, 1, 11, 9, 0, 0), 0, [])],
  [(.aload_n 0, (1, 0, 0, 0, 0, 0), 0, []), (.invokevirtual 334, (3, 2, 172, 10, 1, 11), 6056, [])],
  [(.ifCond .eq 6, (3, 1, 12, 11, 0, 0), 0, [])],
  [(.bipush (-3), (2, 0, 0, 0, 0, 0), (-3), []), (.ireturn, (1, 3, 0, 0, 0, 0), 0, [])],
  [(.aload_n 0, (1, 0, 0, 0, 0, 0), 0, []), (.iconst 2, (1, 0, 0, 0, 0, 0), 2, []), (.iload_n 1, (1, 0, 1, 0, 0, 0), 0, []), (.invokevirtual 337, (3, 2, 177, 13, 3, 11), 6061, [])],
  [(.iload_n 2, (1, 0, 2, 0, 0, 0), 0, []), (.ifCond .ne 8, (3, 1, 15, 14, 0, 0), 0, [])],
  [(.aload_n 0, (1, 0, 0, 0, 0, 0), 0, []), (.getfield 317, (3, 0, 10, 42, 4222, 0), 0, []), (.ireturn, (1, 3, 0, 0, 0, 0), 0, [])],
  [(.aload_n 0, (1, 0, 0, 0, 0, 0), 0, []), (.getfield 317, (3, 0, 10, 42, 4222, 0), 0, []), (.ifCond .ne 5, (3, 1, 17, 16, 0, 0), 0, [])],
  [(.iconst (-1), (1, 0, 0, 0, 0, 0), (-1), []), (.ireturn, (1, 3, 0, 0, 0, 0), 0, [])],
  [(.iconst 0, (1, 0, 0, 0, 0, 0), 0, []), (.istore 4, (2, 0, 4, 0, 0, 0), 0, []), (.iconst 0, (1, 0, 0, 0, 0, 0), 0, []), (.istore 5, (2, 0, 5, 0, 0, 0), 0, []), (.nop, (0, 1, 18, 0, 0, 0), 0, [])],
  [(.iload 5, (2, 0, 5, 0, 0, 0), 0, []), (.aload_n 0, (1, 0, 0, 0, 0, 0), 0, []), (.getfield 26, (3, 0, 10, 8, 4188, 0), 0, []), (.if_icmp .ge 24, (3, 1, 20, 19, 0, 0), 0, [])],
  [(.bipush 10, (2, 0, 0, 0, 0, 0), 10, []), (.iload 4, (2, 0, 4, 0, 0, 0), 0, []), (.imul, (1, 0, 0, 0, 0, 0), 0, []), (.aload_n 0, (1, 0, 0, 0, 0, 0), 0, []), (.getfield 56, (3, 0, 10, 37, 4217, 1), 0, []), (.iload 5, (2, 0, 5, 0, 0, 0), 0, []), (.iaload, (1, 0, 0, 0, 0, 0), 0, []), (.iadd, (1, 0, 0, 0, 0, 0), 0, []), (.istore 4, (2, 0, 4, 0, 0, 0), 0, []), (.iinc 5 1, (3, 0, 5, 0, 0, 0), 1, []), (.goto (-27), (3, 1, 18, 0, 0, 0), 0, [])],
  [(.iload 4, (2, 0, 4, 0, 0, 0), 0, []), (.ireturn, (1, 3, 0, 0, 0, 0), 0, [])]]
/-- EvenlyPouredModel.whom(I)I -/
noncomputable def bk_192 : List (List am_P) := [[(.aload_n 0, (1, 0, 0, 0, 0, 0), 0, []), (.iload_n 1, (1, 0, 1, 0, 0, 0), 0, []), (.invokevirtual 360, (3, 2, 190, 1, 2, 11), 6134, [])],
  [(.istore_n 2, (1, 0, 2, 0, 0, 0), 0, []), (.iload_n 2, (1, 0, 2, 0, 0, 0), 0, []), (.ifCond .eq 5, (3, 1, 3, 2, 0, 0), 0, [])],
  [(.iload_n 2, (1, 0, 2, 0, 0, 0), 0, []), (.ireturn, (1, 3, 0, 0, 0, 0), 0, [])],
  [(.iconst 0, (1, 0, 0, 0, 0, 0), 0, []), (.istore_n 3, (1, 0, 3, 0, 0, 0), 0, []), (.iconst 0, (1, 0, 0, 0, 0, 0), 0, []), (.istore 4, (2, 0, 4, 0, 0, 0), 0, []), (.nop, (0, 1, 4, 0, 0, 0), 0, [])],
  [(.iload 4, (2, 0, 4, 0, 0, 0), 0, []), (.aload_n 0, (1, 0, 0, 0, 0, 0), 0, []), (.getfield 98, (3, 0, 10, 12, 4192, 0), 0, []), (.if_icmp .ge 86, (3, 1, 17, 5, 0, 0), 0, [])],
  [(.aload_n 0, (1, 0, 0, 0, 0, 0), 0, []), (.iload 4, (2, 0, 4, 0, 0, 0), 0, []), (.invokevirtual 354, (3, 2, 185, 6, 2, 11), 6099, [])],
  [(.iconst 1, (1, 0, 0, 0, 0, 0), 1, []), (.istore 5, (2, 0, 5, 0, 0, 0), 0, []), (.iconst 0, (1, 0, 0, 0, 0, 0), 0, []), (.istore 6, (2, 0, 6, 0, 0, 0), 0, []), (.nop, (0, 1, 7, 0, 0, 0), 0, [])],
  [(.iload 6, (2, 0, 6, 0, 0, 0), 0, []), (.aload_n 0, (1, 0, 0, 0, 0, 0), 0, []), (.getfield 23, (3, 0, 10, 7, 4187, 0), 0, []), (.if_icmp .ge 43, (3, 1, 13, 8, 0, 0), 0, [])],
  [(.iload 5, (2, 0, 5, 0, 0, 0), 0, []), (.ifCond .eq 29, (3, 1, 11, 9, 0, 0), 0, [])],
  [(.aload_n 0, (1, 0, 0, 0, 0, 0), 0, []), (.getfield 50, (3, 0, 10, 32, 4212, 1), 0, []), (.iload 6, (2, 0, 6, 0, 0, 0), 0, []), (.iaload, (1, 0, 0, 0, 0, 0), 0, []), (.aload_n 0, (1, 0, 0, 0, 0, 0), 0, []), (.getfield 84, (3, 0, 10, 54, 4234, 1), 0, []), (.bipush 40, (2, 0, 0, 0, 0, 0), 40, []), (.iload_n 1, (1, 0, 1, 0, 0, 0), 0, []), (.imul, (1, 0, 0, 0, 0, 0), 0, []), (.iload 6, (2, 0, 6, 0, 0, 0), 0, []), (.iadd, (1, 0, 0, 0, 0, 0), 0, []), (.iaload, (1, 0, 0, 0, 0, 0), 0, []), (.if_icmp .ne 7, (3, 1, 11, 10, 0, 0), 0, [])],
  [(.iconst 1, (1, 0, 0, 0, 0, 0), 1, []), (.goto 4, (3, 1, 12, 0, 0, 0), 0, [])],
  [(.iconst 0, (1, 0, 0, 0, 0, 0), 0, []), (.nop, (0, 1, 12, 0, 0, 0), 0, [])],
  [(.istore 5, (2, 0, 5, 0, 0, 0), 0, []), (.iinc 6 1, (3, 0, 6, 0, 0, 0), 1, []), (.goto (-46), (3, 1, 7, 0, 0, 0), 0, [])],
  [(.iload_n 3, (1, 0, 3, 0, 0, 0), 0, []), (.iload 5, (2, 0, 5, 0, 0, 0), 0, []), (.ifCond .eq 7, (3, 1, 15, 14, 0, 0), 0, [])],
  [(.iconst 1, (1, 0, 0, 0, 0, 0), 1, []), (.goto 4, (3, 1, 16, 0, 0, 0), 0, [])],
  [(.iconst 0, (1, 0, 0, 0, 0, 0), 0, []), (.nop, (0, 1, 16, 0, 0, 0), 0, [])],
  [(.iload 4, (2, 0, 4, 0, 0, 0), 0, []), (.ishl, (1, 0, 0, 0, 0, 0), 0, []), (.ior, (1, 0, 0, 0, 0, 0), 0, []), (.istore_n 3, (1, 0, 3, 0, 0, 0), 0, []), (.iinc 4 1, (3, 0, 4, 0, 0, 0), 1, []), (.goto (-89), (3, 1, 4, 0, 0, 0), 0, [])],
  [(.iload_n 3, (1, 0, 3, 0, 0, 0), 0, []), (.ireturn, (1, 3, 0, 0, 0, 0), 0, [])]]
/-- EvenlyPouredModel.forgotten(I)I -/
noncomputable def bk_193 : List (List am_P) := [[(.aload_n 0, (1, 0, 0, 0, 0, 0), 0, []), (.iload_n 1, (1, 0, 1, 0, 0, 0), 0, []), (.invokevirtual 360, (3, 2, 190, 1, 2, 11), 6134, [])],
  [(.istore_n 2, (1, 0, 2, 0, 0, 0), 0, []), (.iload_n 2, (1, 0, 2, 0, 0, 0), 0, []), (.ifCond .eq 5, (3, 1, 3, 2, 0, 0), 0, [])],
  [(.iload_n 2, (1, 0, 2, 0, 0, 0), 0, []), (.ireturn, (1, 3, 0, 0, 0, 0), 0, [])],
  [(.aload_n 0, (1, 0, 0, 0, 0, 0), 0, []), (.invokevirtual 275, (3, 2, 158, 4, 1, 11), 5237, [])],
  [(.iconst 0, (1, 0, 0, 0, 0, 0), 0, []), (.istore_n 3, (1, 0, 3, 0, 0, 0), 0, []), (.nop, (0, 1, 5, 0, 0, 0), 0, [])],
  [(.iload_n 3, (1, 0, 3, 0, 0, 0), 0, []), (.aload_n 0, (1, 0, 0, 0, 0, 0), 0, []), (.getfield 23, (3, 0, 10, 7, 4187, 0), 0, []), (.if_icmp .ge 124, (3, 1, 23, 6, 0, 0), 0, [])],
  [(.aload_n 0, (1, 0, 0, 0, 0, 0), 0, []), (.invokevirtual 278, (3, 2, 162, 7, 1, 11), 6001, [])],
  [(.iconst 0, (1, 0, 0, 0, 0, 0), 0, []), (.istore 4, (2, 0, 4, 0, 0, 0), 0, []), (.nop, (0, 1, 8, 0, 0, 0), 0, [])],
  [(.iload 4, (2, 0, 4, 0, 0, 0), 0, []), (.aload_n 0, (1, 0, 0, 0, 0, 0), 0, []), (.getfield 26, (3, 0, 10, 8, 4188, 0), 0, []), (.if_icmp .ge 34, (3, 1, 12, 9, 0, 0), 0, [])],
  [(.aload_n 0, (1, 0, 0, 0, 0, 0), 0, []), (.getfield 29, (3, 0, 10, 9, 4189, 1), 0, []), (.iload 4, (2, 0, 4, 0, 0, 0), 0, []), (.iaload, (1, 0, 0, 0, 0, 0), 0, []), (.iload_n 3, (1, 0, 3, 0, 0, 0), 0, []), (.if_icmp .eq 17, (3, 1, 11, 10, 0, 0), 0, [])],
  [(.aload_n 0, (1, 0, 0, 0, 0, 0), 0, []), (.iload 4, (2, 0, 4, 0, 0, 0), 0, []), (.aload_n 0, (1, 0, 0, 0, 0, 0), 0, []), (.getfield 29, (3, 0, 10, 9, 4189, 1), 0, []), (.iload 4, (2, 0, 4, 0, 0, 0), 0, []), (.iaload, (1, 0, 0, 0, 0, 0), 0, []), (.iconst 0, (1, 0, 0, 0, 0, 0), 0, []), (.invokevirtual 281, (3, 2, 163, 11, 4, 11), 6005, [])],
  [(.iinc 4 1, (3, 0, 4, 0, 0, 0), 1, []), (.goto (-37), (3, 1, 8, 0, 0, 0), 0, [])],
  [(.iconst 1, (1, 0, 0, 0, 0, 0), 1, []), (.istore 4, (2, 0, 4, 0, 0, 0), 0, []), (.iconst 0, (1, 0, 0, 0, 0, 0), 0, []), (.istore 5, (2, 0, 5, 0, 0, 0), 0, []), (.nop, (0, 1, 13, 0, 0, 0), 0, [])],
  [(.iload 5, (2, 0, 5, 0, 0, 0), 0, []), (.aload_n 0, (1, 0, 0, 0, 0, 0), 0, []), (.getfield 23, (3, 0, 10, 7, 4187, 0), 0, []), (.if_icmp .ge 49, (3, 1, 20, 14, 0, 0), 0, [])],
  [(.iload 4, (2, 0, 4, 0, 0, 0), 0, []), (.ifCond .eq 35, (3, 1, 18, 15, 0, 0), 0, [])],
  [(.iload 5, (2, 0, 5, 0, 0, 0), 0, []), (.iload_n 3, (1, 0, 3, 0, 0, 0), 0, []), (.if_icmp .eq 25, (3, 1, 17, 16, 0, 0), 0, [])],
  [(.aload_n 0, (1, 0, 0, 0, 0, 0), 0, []), (.getfield 50, (3, 0, 10, 32, 4212, 1), 0, []), (.iload 5, (2, 0, 5, 0, 0, 0), 0, []), (.iaload, (1, 0, 0, 0, 0, 0), 0, []), (.aload_n 0, (1, 0, 0, 0, 0, 0), 0, []), (.getfield 84, (3, 0, 10, 54, 4234, 1), 0, []), (.bipush 40, (2, 0, 0, 0, 0, 0), 40, []), (.iload_n 1, (1, 0, 1, 0, 0, 0), 0, []), (.imul, (1, 0, 0, 0, 0, 0), 0, []), (.iload 5, (2, 0, 5, 0, 0, 0), 0, []), (.iadd, (1, 0, 0, 0, 0, 0), 0, []), (.iaload, (1, 0, 0, 0, 0, 0), 0, []), (.if_icmp .ne 7, (3, 1, 18, 17, 0, 0), 0, [])],
  [(.iconst 1, (1, 0, 0, 0, 0, 0), 1, []), (.goto 4, (3, 1, 19, 0, 0, 0), 0, [])],
  [(.iconst 0, (1, 0, 0, 0, 0, 0), 0, []), (.nop, (0, 1, 19, 0, 0, 0), 0, [])],
  [(.istore 4, (2, 0, 4, 0, 0, 0), 0, []), (.iinc 5 1, (3, 0, 5, 0, 0, 0), 1, []), (.goto (-52), (3, 1, 13, 0, 0, 0), 0, [])],
  [(.iload 4, (2, 0, 4, 0, 0, 0), 0, []), (.ifCond .eq 5, (3, 1, 22, 21, 0, 0), 0, [])],
  [(.iload_n 3, (1, 0, 3, 0, 0, 0), 0, []), (.ireturn, (1, 3, 0, 0, 0, 0), 0, [])],
  [(.iinc 3 1, (3, 0, 3, 0, 0, 0), 1, []), (.goto (-126), (3, 1, 5, 0, 0, 0), 0, [])],
  [(.iconst (-1), (1, 0, 0, 0, 0, 0), (-1), []), (.ireturn, (1, 3, 0, 0, 0, 0), 0, [])]]
/-- EvenlyPouredModel.draws(II)I -/
noncomputable def bk_194 : List (List am_P) := [[(.aload_n 0, (1, 0, 0, 0, 0, 0), 0, []), (.invokevirtual 278, (3, 2, 162, 1, 1, 11), 6001, [])],
  [(.iload_n 1, (1, 0, 1, 0, 0, 0), 0, []), (.istore_n 3, (1, 0, 3, 0, 0, 0), 0, []), (.iconst 0, (1, 0, 0, 0, 0, 0), 0, []), (.istore 4, (2, 0, 4, 0, 0, 0), 0, []), (.nop, (0, 1, 2, 0, 0, 0), 0, [])],
  [(.iload 4, (2, 0, 4, 0, 0, 0), 0, []), (.aload_n 0, (1, 0, 0, 0, 0, 0), 0, []), (.getfield 26, (3, 0, 10, 8, 4188, 0), 0, []), (.if_icmp .ge 40, (3, 1, 5, 3, 0, 0), 0, [])],
  [(.iload_n 3, (1, 0, 3, 0, 0, 0), 0, []), (.ldc_w 363, (3, 0, 0, 0, 6155, 0), 1103515245, []), (.imul, (1, 0, 0, 0, 0, 0), 0, []), (.sipush 12345, (3, 0, 0, 0, 0, 0), 12345, []), (.iadd, (1, 0, 0, 0, 0, 0), 0, []), (.istore_n 3, (1, 0, 3, 0, 0, 0), 0, []), (.aload_n 0, (1, 0, 0, 0, 0, 0), 0, []), (.iload 4, (2, 0, 4, 0, 0, 0), 0, []), (.aload_n 0, (1, 0, 0, 0, 0, 0), 0, []), (.getfield 29, (3, 0, 10, 9, 4189, 1), 0, []), (.iload 4, (2, 0, 4, 0, 0, 0), 0, []), (.iaload, (1, 0, 0, 0, 0, 0), 0, []), (.iload_n 3, (1, 0, 3, 0, 0, 0), 0, []), (.bipush 10, (2, 0, 0, 0, 0, 0), 10, []), (.iushr, (1, 0, 0, 0, 0, 0), 0, []), (.iload_n 2, (1, 0, 2, 0, 0, 0), 0, []), (.iconst 1, (1, 0, 0, 0, 0, 0), 1, []), (.iadd, (1, 0, 0, 0, 0, 0), 0, []), (.irem, (1, 0, 0, 0, 0, 0), 0, []), (.invokevirtual 281, (3, 2, 163, 4, 4, 11), 6005, [])],
  [(.iinc 4 1, (3, 0, 4, 0, 0, 0), 1, []), (.goto (-43), (3, 1, 2, 0, 0, 0), 0, [])],
  [(.aload_n 0, (1, 0, 0, 0, 0, 0), 0, []), (.invokevirtual 294, (3, 2, 164, 6, 1, 11), 6039, [])],
  [(.ireturn, (1, 3, 0, 0, 0, 0), 0, [])]]
/-- EvenlyPouredModel.drawn(II)I -/
noncomputable def bk_195 : List (List am_P) := [[(.iload_n 2, (1, 0, 2, 0, 0, 0), 0, []), (.i2l, (1, 0, 0, 0, 0, 0), 0, []), (.lconst 0, (1, 0, 0, 0, 0, 0), 0, []), (.ldc2_w 364, (3, 0, 20, 0, 6150, 0), 0, []), (.invokestatic 94, (3, 2, 127, 1, 3, 0), 5111, [])],
  [(.ifCond .ne 6, (3, 1, 3, 2, 0, 0), 0, [])],
  [(.bipush (-2), (2, 0, 0, 0, 0, 0), (-2), []), (.ireturn, (1, 3, 0, 0, 0, 0), 0, [])],
  [(.aload_n 0, (1, 0, 0, 0, 0, 0), 0, []), (.invokevirtual 275, (3, 2, 158, 4, 1, 11), 5237, [])],
  [(.aload_n 0, (1, 0, 0, 0, 0, 0), 0, []), (.iload_n 1, (1, 0, 1, 0, 0, 0), 0, []), (.iload_n 2, (1, 0, 2, 0, 0, 0), 0, []), (.invokevirtual 366, (3, 2, 194, 5, 3, 11), 6151, [])],
  [(.ireturn, (1, 3, 0, 0, 0, 0), 0, [])]]
/-- EvenlyPouredModel.chance(IIII)J -/
noncomputable def bk_196 : List (List am_P) := [[(.iload_n 2, (1, 0, 2, 0, 0, 0), 0, []), (.i2l, (1, 0, 0, 0, 0, 0), 0, []), (.lconst 1, (1, 0, 1, 0, 0, 0), 0, []), (.ldc2_w 364, (3, 0, 20, 0, 6150, 0), 0, []), (.invokestatic 94, (3, 2, 127, 1, 3, 0), 5111, [])],
  [(.ifCond .eq 26, (3, 1, 6, 2, 0, 0), 0, [])],
  [(.iload_n 3, (1, 0, 3, 0, 0, 0), 0, []), (.i2l, (1, 0, 0, 0, 0, 0), 0, []), (.lconst 0, (1, 0, 0, 0, 0, 0), 0, []), (.ldc2_w 364, (3, 0, 20, 0, 6150, 0), 0, []), (.invokestatic 94, (3, 2, 127, 3, 3, 0), 5111, [])],
  [(.ifCond .eq 14, (3, 1, 6, 4, 0, 0), 0, [])],
  [(.iload 4, (2, 0, 4, 0, 0, 0), 0, []), (.i2l, (1, 0, 0, 0, 0, 0), 0, []), (.lconst 0, (1, 0, 0, 0, 0, 0), 0, []), (.lconst 1, (1, 0, 1, 0, 0, 0), 0, []), (.invokestatic 94, (3, 2, 127, 5, 3, 0), 5111, [])],
  [(.ifCond .ne 7, (3, 1, 7, 6, 0, 0), 0, [])],
  [(.ldc2_w 297, (3, 0, 100000, 0, 6047, 0), 0, []), (.lreturn, (1, 3, 0, 0, 0, 0), 0, [])],
  [(.aload_n 0, (1, 0, 0, 0, 0, 0), 0, []), (.invokevirtual 275, (3, 2, 158, 8, 1, 11), 5237, [])],
  [(.lconst 0, (1, 0, 0, 0, 0, 0), 0, []), (.lstore 5, (2, 0, 5, 0, 0, 0), 0, []), (.iconst 0, (1, 0, 0, 0, 0, 0), 0, []), (.istore 7, (2, 0, 7, 0, 0, 0), 0, []), (.nop, (0, 1, 9, 0, 0, 0), 0, [])],
  [(.iload 7, (2, 0, 7, 0, 0, 0), 0, []), (.iload_n 2, (1, 0, 2, 0, 0, 0), 0, []), (.if_icmp .ge 24, (3, 1, 12, 10, 0, 0), 0, [])],
  [(.lload 5, (2, 0, 5, 0, 0, 0), 0, []), (.aload_n 0, (1, 0, 0, 0, 0, 0), 0, []), (.iload_n 1, (1, 0, 1, 0, 0, 0), 0, []), (.iload 7, (2, 0, 7, 0, 0, 0), 0, []), (.iadd, (1, 0, 0, 0, 0, 0), 0, []), (.iload_n 3, (1, 0, 3, 0, 0, 0), 0, []), (.invokevirtual 366, (3, 2, 194, 11, 3, 11), 6151, [])],
  [(.i2l, (1, 0, 0, 0, 0, 0), 0, []), (.ladd, (1, 0, 0, 0, 0, 0), 0, []), (.lstore 5, (2, 0, 5, 0, 0, 0), 0, []), (.iinc 7 1, (3, 0, 7, 0, 0, 0), 1, []), (.goto (-24), (3, 1, 9, 0, 0, 0), 0, [])],
  [(.lload 5, (2, 0, 5, 0, 0, 0), 0, []), (.iload_n 2, (1, 0, 2, 0, 0, 0), 0, []), (.i2l, (1, 0, 0, 0, 0, 0), 0, []), (.iload 4, (2, 0, 4, 0, 0, 0), 0, []), (.invokestatic 299, (3, 2, 170, 13, 3, 0), 6048, [])],
  [(.lreturn, (1, 3, 0, 0, 0, 0), 0, [])]]
/-- EvenlyPouredModel.image()I -/
noncomputable def bk_197 : List (List am_P) := [[(.iconst 0, (1, 0, 0, 0, 0, 0), 0, []), (.istore_n 1, (1, 0, 1, 0, 0, 0), 0, []), (.nop, (0, 1, 1, 0, 0, 0), 0, [])],
  [(.iload_n 1, (1, 0, 1, 0, 0, 0), 0, []), (.bipush 24, (2, 0, 0, 0, 0, 0), 24, []), (.if_icmp .ge 21, (3, 1, 3, 2, 0, 0), 0, [])],
  [(.aload_n 0, (1, 0, 0, 0, 0, 0), 0, []), (.getfield 62, (3, 0, 10, 44, 4224, 1), 0, []), (.iload_n 1, (1, 0, 1, 0, 0, 0), 0, []), (.aload_n 0, (1, 0, 0, 0, 0, 0), 0, []), (.getfield 29, (3, 0, 10, 9, 4189, 1), 0, []), (.iload_n 1, (1, 0, 1, 0, 0, 0), 0, []), (.iaload, (1, 0, 0, 0, 0, 0), 0, []), (.iastore, (1, 0, 0, 0, 0, 0), 0, []), (.iinc 1 1, (3, 0, 1, 0, 0, 0), 1, []), (.goto (-21), (3, 1, 1, 0, 0, 0), 0, [])],
  [(.iconst 0, (1, 0, 0, 0, 0, 0), 0, []), (.istore_n 1, (1, 0, 1, 0, 0, 0), 0, []), (.nop, (0, 1, 4, 0, 0, 0), 0, [])],
  [(.iload_n 1, (1, 0, 1, 0, 0, 0), 0, []), (.bipush 8, (2, 0, 0, 0, 0, 0), 8, []), (.if_icmp .ge 21, (3, 1, 6, 5, 0, 0), 0, [])],
  [(.aload_n 0, (1, 0, 0, 0, 0, 0), 0, []), (.getfield 65, (3, 0, 10, 45, 4225, 1), 0, []), (.iload_n 1, (1, 0, 1, 0, 0, 0), 0, []), (.aload_n 0, (1, 0, 0, 0, 0, 0), 0, []), (.getfield 38, (3, 0, 10, 13, 4193, 1), 0, []), (.iload_n 1, (1, 0, 1, 0, 0, 0), 0, []), (.iaload, (1, 0, 0, 0, 0, 0), 0, []), (.iastore, (1, 0, 0, 0, 0, 0), 0, []), (.iinc 1 1, (3, 0, 1, 0, 0, 0), 1, []), (.goto (-21), (3, 1, 4, 0, 0, 0), 0, [])],
  [(.iconst 0, (1, 0, 0, 0, 0, 0), 0, []), (.istore_n 1, (1, 0, 1, 0, 0, 0), 0, []), (.nop, (0, 1, 7, 0, 0, 0), 0, [])],
  [(.iload_n 1, (1, 0, 1, 0, 0, 0), 0, []), (.bipush 6, (2, 0, 0, 0, 0, 0), 6, []), (.if_icmp .ge 21, (3, 1, 9, 8, 0, 0), 0, [])],
  [(.aload_n 0, (1, 0, 0, 0, 0, 0), 0, []), (.getfield 68, (3, 0, 10, 46, 4226, 1), 0, []), (.iload_n 1, (1, 0, 1, 0, 0, 0), 0, []), (.aload_n 0, (1, 0, 0, 0, 0, 0), 0, []), (.getfield 35, (3, 0, 10, 11, 4191, 1), 0, []), (.iload_n 1, (1, 0, 1, 0, 0, 0), 0, []), (.iaload, (1, 0, 0, 0, 0, 0), 0, []), (.iastore, (1, 0, 0, 0, 0, 0), 0, []), (.iinc 1 1, (3, 0, 1, 0, 0, 0), 1, []), (.goto (-21), (3, 1, 7, 0, 0, 0), 0, [])],
  [(.aload_n 0, (1, 0, 0, 0, 0, 0), 0, []), (.aload_n 0, (1, 0, 0, 0, 0, 0), 0, []), (.getfield 26, (3, 0, 10, 8, 4188, 0), 0, []), (.putfield 71, (3, 0, 10, 47, 4227, 0), 0, []), (.aload_n 0, (1, 0, 0, 0, 0, 0), 0, []), (.aload_n 0, (1, 0, 0, 0, 0, 0), 0, []), (.getfield 23, (3, 0, 10, 7, 4187, 0), 0, []), (.putfield 369, (3, 0, 10, 48, 4228, 0), 0, []), (.aload_n 0, (1, 0, 0, 0, 0, 0), 0, []), (.aload_n 0, (1, 0, 0, 0, 0, 0), 0, []), (.getfield 98, (3, 0, 10, 12, 4192, 0), 0, []), (.putfield 372, (3, 0, 10, 49, 4229, 0), 0, []), (.aload_n 0, (1, 0, 0, 0, 0, 0), 0, []), (.aload_n 0, (1, 0, 0, 0, 0, 0), 0, []), (.getfield 245, (3, 0, 10, 4, 4184, 0), 0, []), (.putfield 375, (3, 0, 10, 50, 4230, 0), 0, []), (.aload_n 0, (1, 0, 0, 0, 0, 0), 0, []), (.getfield 26, (3, 0, 10, 8, 4188, 0), 0, []), (.ireturn, (1, 3, 0, 0, 0, 0), 0, [])]]
/-- EvenlyPouredModel.back()I -/
noncomputable def bk_198 : List (List am_P) := [[(.aload_n 0, (1, 0, 0, 0, 0, 0), 0, []), (.getfield 71, (3, 0, 10, 47, 4227, 0), 0, []), (.iconst (-1), (1, 0, 0, 0, 0, 0), (-1), []), (.if_icmp .ne 6, (3, 1, 2, 1, 0, 0), 0, [])],
  [(.bipush (-3), (2, 0, 0, 0, 0, 0), (-3), []), (.ireturn, (1, 3, 0, 0, 0, 0), 0, [])],
  [(.iconst 0, (1, 0, 0, 0, 0, 0), 0, []), (.istore_n 1, (1, 0, 1, 0, 0, 0), 0, []), (.nop, (0, 1, 3, 0, 0, 0), 0, [])],
  [(.iload_n 1, (1, 0, 1, 0, 0, 0), 0, []), (.bipush 24, (2, 0, 0, 0, 0, 0), 24, []), (.if_icmp .ge 21, (3, 1, 5, 4, 0, 0), 0, [])],
  [(.aload_n 0, (1, 0, 0, 0, 0, 0), 0, []), (.getfield 29, (3, 0, 10, 9, 4189, 1), 0, []), (.iload_n 1, (1, 0, 1, 0, 0, 0), 0, []), (.aload_n 0, (1, 0, 0, 0, 0, 0), 0, []), (.getfield 62, (3, 0, 10, 44, 4224, 1), 0, []), (.iload_n 1, (1, 0, 1, 0, 0, 0), 0, []), (.iaload, (1, 0, 0, 0, 0, 0), 0, []), (.iastore, (1, 0, 0, 0, 0, 0), 0, []), (.iinc 1 1, (3, 0, 1, 0, 0, 0), 1, []), (.goto (-21), (3, 1, 3, 0, 0, 0), 0, [])],
  [(.iconst 0, (1, 0, 0, 0, 0, 0), 0, []), (.istore_n 1, (1, 0, 1, 0, 0, 0), 0, []), (.nop, (0, 1, 6, 0, 0, 0), 0, [])],
  [(.iload_n 1, (1, 0, 1, 0, 0, 0), 0, []), (.bipush 8, (2, 0, 0, 0, 0, 0), 8, []), (.if_icmp .ge 21, (3, 1, 8, 7, 0, 0), 0, [])],
  [(.aload_n 0, (1, 0, 0, 0, 0, 0), 0, []), (.getfield 38, (3, 0, 10, 13, 4193, 1), 0, []), (.iload_n 1, (1, 0, 1, 0, 0, 0), 0, []), (.aload_n 0, (1, 0, 0, 0, 0, 0), 0, []), (.getfield 65, (3, 0, 10, 45, 4225, 1), 0, []), (.iload_n 1, (1, 0, 1, 0, 0, 0), 0, []), (.iaload, (1, 0, 0, 0, 0, 0), 0, []), (.iastore, (1, 0, 0, 0, 0, 0), 0, []), (.iinc 1 1, (3, 0, 1, 0, 0, 0), 1, []), (.goto (-21), (3, 1, 6, 0, 0, 0), 0, [])],
  [(.iconst 0, (1, 0, 0, 0, 0, 0), 0, []), (.istore_n 1, (1, 0, 1, 0, 0, 0), 0, []), (.nop, (0, 1, 9, 0, 0, 0), 0, [])],
  [(.iload_n 1, (1, 0, 1, 0, 0, 0), 0, []), (.bipush 6, (2, 0, 0, 0, 0, 0), 6, []), (.if_icmp .ge 21, (3, 1, 11, 10, 0, 0), 0, [])],
  [(.aload_n 0, (1, 0, 0, 0, 0, 0), 0, []), (.getfield 35, (3, 0, 10, 11, 4191, 1), 0, []), (.iload_n 1, (1, 0, 1, 0, 0, 0), 0, []), (.aload_n 0, (1, 0, 0, 0, 0, 0), 0, []), (.getfield 68, (3, 0, 10, 46, 4226, 1), 0, []), (.iload_n 1, (1, 0, 1, 0, 0, 0), 0, []), (.iaload, (1, 0, 0, 0, 0, 0), 0, []), (.iastore, (1, 0, 0, 0, 0, 0), 0, []), (.iinc 1 1, (3, 0, 1, 0, 0, 0), 1, []), (.goto (-21), (3, 1, 9, 0, 0, 0), 0, [])],
  [(.aload_n 0, (1, 0, 0, 0, 0, 0), 0, []), (.aload_n 0, (1, 0, 0, 0, 0, 0), 0, []), (.getfield 71, (3, 0, 10, 47, 4227, 0), 0, []), (.putfield 26, (3, 0, 10, 8, 4188, 0), 0, []), (.aload_n 0, (1, 0, 0, 0, 0, 0), 0, []), (.aload_n 0, (1, 0, 0, 0, 0, 0), 0, []), (.getfield 369, (3, 0, 10, 48, 4228, 0), 0, []), (.putfield 23, (3, 0, 10, 7, 4187, 0), 0, []), (.aload_n 0, (1, 0, 0, 0, 0, 0), 0, []), (.aload_n 0, (1, 0, 0, 0, 0, 0), 0, []), (.getfield 372, (3, 0, 10, 49, 4229, 0), 0, []), (.putfield 98, (3, 0, 10, 12, 4192, 0), 0, []), (.aload_n 0, (1, 0, 0, 0, 0, 0), 0, []), (.aload_n 0, (1, 0, 0, 0, 0, 0), 0, []), (.getfield 375, (3, 0, 10, 50, 4230, 0), 0, []), (.putfield 245, (3, 0, 10, 4, 4184, 0), 0, []), (.aload_n 0, (1, 0, 0, 0, 0, 0), 0, []), (.getfield 26, (3, 0, 10, 8, 4188, 0), 0, []), (.ireturn, (1, 3, 0, 0, 0, 0), 0, [])]]
/-- EvenlyPouredModel.count(I)I -/
noncomputable def bk_199 : List (List am_P) := [[(.iload_n 1, (1, 0, 1, 0, 0, 0), 0, []), (.i2l, (1, 0, 0, 0, 0, 0), 0, []), (.lconst 0, (1, 0, 0, 0, 0, 0), 0, []), (.ldc2_w 122, (3, 0, 5, 0, 5144, 0), 0, []), (.invokestatic 94, (3, 2, 127, 1, 3, 0), 5111, [])],
  [(.ifCond .ne 6, (3, 1, 3, 2, 0, 0), 0, [])],
  [(.bipush (-2), (2, 0, 0, 0, 0, 0), (-2), []), (.ireturn, (1, 3, 0, 0, 0, 0), 0, [])],
  [(.iload_n 1, (1, 0, 1, 0, 0, 0), 0, []), (.iconst 3, (1, 0, 0, 0, 0, 0), 3, []), (.if_icmp .ge 31, (3, 1, 10, 4, 0, 0), 0, [])],
  [(.iload_n 1, (1, 0, 1, 0, 0, 0), 0, []), (.ifCond .ne 10, (3, 1, 6, 5, 0, 0), 0, [])],
  [(.aload_n 0, (1, 0, 0, 0, 0, 0), 0, []), (.getfield 23, (3, 0, 10, 7, 4187, 0), 0, []), (.goto 19, (3, 1, 9, 0, 0, 0), 0, [])],
  [(.iload_n 1, (1, 0, 1, 0, 0, 0), 0, []), (.iconst 1, (1, 0, 0, 0, 0, 0), 1, []), (.if_icmp .ne 10, (3, 1, 8, 7, 0, 0), 0, [])],
  [(.aload_n 0, (1, 0, 0, 0, 0, 0), 0, []), (.getfield 26, (3, 0, 10, 8, 4188, 0), 0, []), (.goto 7, (3, 1, 9, 0, 0, 0), 0, [])],
  [(.aload_n 0, (1, 0, 0, 0, 0, 0), 0, []), (.getfield 98, (3, 0, 10, 12, 4192, 0), 0, []), (.nop, (0, 1, 9, 0, 0, 0), 0, [])],
  [(.ireturn, (1, 3, 0, 0, 0, 0), 0, [])],
  [(.iload_n 1, (1, 0, 1, 0, 0, 0), 0, []), (.iconst 3, (1, 0, 0, 0, 0, 0), 3, []), (.if_icmp .ne 10, (3, 1, 12, 11, 0, 0), 0, [])],
  [(.aload_n 0, (1, 0, 0, 0, 0, 0), 0, []), (.getfield 91, (3, 0, 10, 3, 4183, 0), 0, []), (.goto 19, (3, 1, 15, 0, 0, 0), 0, [])],
  [(.iload_n 1, (1, 0, 1, 0, 0, 0), 0, []), (.iconst 4, (1, 0, 0, 0, 0, 0), 4, []), (.if_icmp .ne 10, (3, 1, 14, 13, 0, 0), 0, [])],
  [(.aload_n 0, (1, 0, 0, 0, 0, 0), 0, []), (.getfield 126, (3, 0, 10, 6, 4186, 0), 0, []), (.goto 7, (3, 1, 15, 0, 0, 0), 0, [])],
  [(.aload_n 0, (1, 0, 0, 0, 0, 0), 0, []), (.getfield 245, (3, 0, 10, 4, 4184, 0), 0, []), (.nop, (0, 1, 15, 0, 0, 0), 0, [])],
  [(.ireturn, (1, 3, 0, 0, 0, 0), 0, [])]]
/-- EvenlyPouredModel.isSheet(I)Z -/
noncomputable def bk_200 : List (List am_P) := [[(.iload_n 0, (1, 0, 0, 0, 0, 0), 0, []), (.i2l, (1, 0, 0, 0, 0, 0), 0, []), (.lconst 0, (1, 0, 0, 0, 0, 0), 0, []), (.ldc2_w 101, (3, 0, 3, 0, 5110, 0), 0, []), (.invokestatic 94, (3, 2, 127, 1, 3, 0), 5111, [])],
  [(.ireturn, (1, 3, 0, 0, 0, 1), 0, [])]]
/-- EvenlyPouredModel.sheet(III)I -/
noncomputable def bk_201 : List (List am_P) := [[(.iload_n 1, (1, 0, 1, 0, 0, 0), 0, []), (.invokestatic 357, (3, 2, 200, 1, 1, 0), 6131, [])],
  [(.ifCond .eq 27, (3, 1, 6, 2, 0, 0), 0, [])],
  [(.iload_n 2, (1, 0, 2, 0, 0, 0), 0, []), (.i2l, (1, 0, 0, 0, 0, 0), 0, []), (.ldc2_w 352, (3, 0, 100001, 0, 6098, 0), 0, []), (.ldc2_w 117, (3, 0, 2, 0, 5127, 0), 0, []), (.invokestatic 94, (3, 2, 127, 3, 3, 0), 5111, [])],
  [(.ifCond .eq 13, (3, 1, 6, 4, 0, 0), 0, [])],
  [(.iload_n 2, (1, 0, 2, 0, 0, 0), 0, []), (.ifCond .lt 12, (3, 1, 7, 5, 0, 0), 0, [])],
  [(.iload_n 3, (1, 0, 3, 0, 0, 0), 0, []), (.bipush 40, (2, 0, 0, 0, 0, 0), 40, []), (.if_icmp .le 6, (3, 1, 7, 6, 0, 0), 0, [])],
  [(.bipush (-2), (2, 0, 0, 0, 0, 0), (-2), []), (.ireturn, (1, 3, 0, 0, 0, 0), 0, [])],
  [(.iload_n 2, (1, 0, 2, 0, 0, 0), 0, []), (.ifCond .lt 10, (3, 1, 10, 8, 0, 0), 0, [])],
  [(.iload_n 3, (1, 0, 3, 0, 0, 0), 0, []), (.ifCond .ge 6, (3, 1, 10, 9, 0, 0), 0, [])],
  [(.bipush (-14), (2, 0, 0, 0, 0, 0), (-14), []), (.ireturn, (1, 3, 0, 0, 0, 0), 0, [])],
  [(.aload_n 0, (1, 0, 0, 0, 0, 0), 0, []), (.getfield 74, (3, 0, 10, 51, 4231, 1), 0, []), (.iload_n 1, (1, 0, 1, 0, 0, 0), 0, []), (.iload_n 2, (1, 0, 2, 0, 0, 0), 0, []), (.ifCond .lt 7, (3, 1, 12, 11, 0, 0), 0, [])],
  [(.iconst 1, (1, 0, 0, 0, 0, 0), 1, []), (.goto 4, (3, 1, 13, 0, 0, 0), 0, [])],
  [(.iconst 0, (1, 0, 0, 0, 0, 0), 0, []), (.nop, (0, 1, 13, 0, 0, 0), 0, [])],
  [(.bastore, (1, 0, 0, 0, 0, 0), 0, []), (.aload_n 0, (1, 0, 0, 0, 0, 0), 0, []), (.getfield 78, (3, 0, 10, 52, 4232, 1), 0, []), (.iload_n 1, (1, 0, 1, 0, 0, 0), 0, []), (.iload_n 2, (1, 0, 2, 0, 0, 0), 0, []), (.iastore, (1, 0, 0, 0, 0, 0), 0, []), (.aload_n 0, (1, 0, 0, 0, 0, 0), 0, []), (.getfield 81, (3, 0, 10, 53, 4233, 1), 0, []), (.iload_n 1, (1, 0, 1, 0, 0, 0), 0, []), (.iload_n 3, (1, 0, 3, 0, 0, 0), 0, []), (.iastore, (1, 0, 0, 0, 0, 0), 0, []), (.iconst 0, (1, 0, 0, 0, 0, 0), 0, []), (.istore 4, (2, 0, 4, 0, 0, 0), 0, []), (.nop, (0, 1, 14, 0, 0, 0), 0, [])],
  [(.iload 4, (2, 0, 4, 0, 0, 0), 0, []), (.iload_n 3, (1, 0, 3, 0, 0, 0), 0, []), (.if_icmp .ge 26, (3, 1, 17, 15, 0, 0), 0, [])],
  [(.iload_n 2, (1, 0, 2, 0, 0, 0), 0, []), (.ifCond .lt 22, (3, 1, 17, 16, 0, 0), 0, [])],
  [(.aload_n 0, (1, 0, 0, 0, 0, 0), 0, []), (.getfield 84, (3, 0, 10, 54, 4234, 1), 0, []), (.bipush 40, (2, 0, 0, 0, 0, 0), 40, []), (.iload_n 1, (1, 0, 1, 0, 0, 0), 0, []), (.imul, (1, 0, 0, 0, 0, 0), 0, []), (.iload 4, (2, 0, 4, 0, 0, 0), 0, []), (.iadd, (1, 0, 0, 0, 0, 0), 0, []), (.iconst 0, (1, 0, 0, 0, 0, 0), 0, []), (.iastore, (1, 0, 0, 0, 0, 0), 0, []), (.iinc 4 1, (3, 0, 4, 0, 0, 0), 1, []), (.goto (-26), (3, 1, 14, 0, 0, 0), 0, [])],
  [(.iconst 1, (1, 0, 0, 0, 0, 0), 1, []), (.ireturn, (1, 3, 0, 0, 0, 0), 0, [])]]
/-- EvenlyPouredModel.cell(III)I -/
noncomputable def bk_202 : List (List am_P) := [[(.iload_n 1, (1, 0, 1, 0, 0, 0), 0, []), (.invokestatic 357, (3, 2, 200, 1, 1, 0), 6131, [])],
  [(.ifCond .ne 6, (3, 1, 3, 2, 0, 0), 0, [])],
  [(.bipush (-2), (2, 0, 0, 0, 0, 0), (-2), []), (.ireturn, (1, 3, 0, 0, 0, 0), 0, [])],
  [(.aload_n 0, (1, 0, 0, 0, 0, 0), 0, []), (.getfield 74, (3, 0, 10, 51, 4231, 1), 0, []), (.iload_n 1, (1, 0, 1, 0, 0, 0), 0, []), (.baload, (1, 0, 21, 0, 0, 0), 0, []), (.ifCond .ne 6, (3, 1, 5, 4, 0, 0), 0, [])],
  [(.bipush (-11), (2, 0, 0, 0, 0, 0), (-11), []), (.ireturn, (1, 3, 0, 0, 0, 0), 0, [])],
  [(.iload_n 2, (1, 0, 2, 0, 0, 0), 0, []), (.i2l, (1, 0, 0, 0, 0, 0), 0, []), (.lconst 0, (1, 0, 0, 0, 0, 0), 0, []), (.aload_n 0, (1, 0, 0, 0, 0, 0), 0, []), (.getfield 81, (3, 0, 10, 53, 4233, 1), 0, []), (.iload_n 1, (1, 0, 1, 0, 0, 0), 0, []), (.iaload, (1, 0, 0, 0, 0, 0), 0, []), (.iconst 1, (1, 0, 0, 0, 0, 0), 1, []), (.isub, (1, 0, 0, 0, 0, 0), 0, []), (.i2l, (1, 0, 0, 0, 0, 0), 0, []), (.invokestatic 94, (3, 2, 127, 6, 3, 0), 5111, [])],
  [(.ifCond .ne 6, (3, 1, 8, 7, 0, 0), 0, [])],
  [(.bipush (-12), (2, 0, 0, 0, 0, 0), (-12), []), (.ireturn, (1, 3, 0, 0, 0, 0), 0, [])],
  [(.aload_n 0, (1, 0, 0, 0, 0, 0), 0, []), (.getfield 84, (3, 0, 10, 54, 4234, 1), 0, []), (.bipush 40, (2, 0, 0, 0, 0, 0), 40, []), (.iload_n 1, (1, 0, 1, 0, 0, 0), 0, []), (.imul, (1, 0, 0, 0, 0, 0), 0, []), (.iload_n 2, (1, 0, 2, 0, 0, 0), 0, []), (.iadd, (1, 0, 0, 0, 0, 0), 0, []), (.aload_n 0, (1, 0, 0, 0, 0, 0), 0, []), (.getfield 78, (3, 0, 10, 52, 4232, 1), 0, []), (.iload_n 1, (1, 0, 1, 0, 0, 0), 0, []), (.iaload, (1, 0, 0, 0, 0, 0), 0, []), (.ifCond .ne 8, (3, 1, 10, 9, 0, 0), 0, [])],
  [(.iload_n 3, (1, 0, 3, 0, 0, 0), 0, []), (.i2b, (1, 0, 0, 0, 0, 0), 0, []), (.goto 19, (3, 1, 13, 0, 0, 0), 0, [])],
  [(.aload_n 0, (1, 0, 0, 0, 0, 0), 0, []), (.getfield 78, (3, 0, 10, 52, 4232, 1), 0, []), (.iload_n 1, (1, 0, 1, 0, 0, 0), 0, []), (.iaload, (1, 0, 0, 0, 0, 0), 0, []), (.iconst 1, (1, 0, 0, 0, 0, 0), 1, []), (.if_icmp .ne 8, (3, 1, 12, 11, 0, 0), 0, [])],
  [(.iload_n 3, (1, 0, 3, 0, 0, 0), 0, []), (.i2s, (1, 0, 0, 0, 0, 0), 0, []), (.goto 4, (3, 1, 13, 0, 0, 0), 0, [])],
  [(.iload_n 3, (1, 0, 3, 0, 0, 0), 0, []), (.nop, (0, 1, 13, 0, 0, 0), 0, [])],
  [(.iastore, (1, 0, 0, 0, 0, 0), 0, []), (.iconst 1, (1, 0, 0, 0, 0, 0), 1, []), (.ireturn, (1, 3, 0, 0, 0, 0), 0, [])]]
/-- EvenlyPouredModel.copy(IIIII)I -/
noncomputable def bk_203 : List (List am_P) := [[(.iload_n 1, (1, 0, 1, 0, 0, 0), 0, []), (.invokestatic 357, (3, 2, 200, 1, 1, 0), 6131, [])],
  [(.ifCond .eq 10, (3, 1, 4, 2, 0, 0), 0, [])],
  [(.iload_n 3, (1, 0, 3, 0, 0, 0), 0, []), (.invokestatic 357, (3, 2, 200, 3, 1, 0), 6131, [])],
  [(.ifCond .ne 6, (3, 1, 5, 4, 0, 0), 0, [])],
  [(.bipush (-2), (2, 0, 0, 0, 0, 0), (-2), []), (.ireturn, (1, 3, 0, 0, 0, 0), 0, [])],
  [(.aload_n 0, (1, 0, 0, 0, 0, 0), 0, []), (.getfield 74, (3, 0, 10, 51, 4231, 1), 0, []), (.iload_n 1, (1, 0, 1, 0, 0, 0), 0, []), (.baload, (1, 0, 21, 0, 0, 0), 0, []), (.ifCond .eq 12, (3, 1, 7, 6, 0, 0), 0, [])],
  [(.aload_n 0, (1, 0, 0, 0, 0, 0), 0, []), (.getfield 74, (3, 0, 10, 51, 4231, 1), 0, []), (.iload_n 3, (1, 0, 3, 0, 0, 0), 0, []), (.baload, (1, 0, 21, 0, 0, 0), 0, []), (.ifCond .ne 6, (3, 1, 8, 7, 0, 0), 0, [])],
  [(.bipush (-11), (2, 0, 0, 0, 0, 0), (-11), []), (.ireturn, (1, 3, 0, 0, 0, 0), 0, [])],
  [(.aload_n 0, (1, 0, 0, 0, 0, 0), 0, []), (.getfield 78, (3, 0, 10, 52, 4232, 1), 0, []), (.iload_n 1, (1, 0, 1, 0, 0, 0), 0, []), (.iaload, (1, 0, 0, 0, 0, 0), 0, []), (.aload_n 0, (1, 0, 0, 0, 0, 0), 0, []), (.getfield 78, (3, 0, 10, 52, 4232, 1), 0, []), (.iload_n 3, (1, 0, 3, 0, 0, 0), 0, []), (.iaload, (1, 0, 0, 0, 0, 0), 0, []), (.if_icmp .eq 6, (3, 1, 10, 9, 0, 0), 0, [])],
  [(.bipush (-13), (2, 0, 0, 0, 0, 0), (-13), []), (.ireturn, (1, 3, 0, 0, 0, 0), 0, [])],
  [(.iload 5, (2, 0, 5, 0, 0, 0), 0, []), (.ifCond .lt 39, (3, 1, 15, 11, 0, 0), 0, [])],
  [(.iload_n 2, (1, 0, 2, 0, 0, 0), 0, []), (.ifCond .lt 35, (3, 1, 15, 12, 0, 0), 0, [])],
  [(.iload 4, (2, 0, 4, 0, 0, 0), 0, []), (.ifCond .lt 30, (3, 1, 15, 13, 0, 0), 0, [])],
  [(.iload_n 2, (1, 0, 2, 0, 0, 0), 0, []), (.aload_n 0, (1, 0, 0, 0, 0, 0), 0, []), (.getfield 81, (3, 0, 10, 53, 4233, 1), 0, []), (.iload_n 1, (1, 0, 1, 0, 0, 0), 0, []), (.iaload, (1, 0, 0, 0, 0, 0), 0, []), (.iload 5, (2, 0, 5, 0, 0, 0), 0, []), (.isub, (1, 0, 0, 0, 0, 0), 0, []), (.if_icmp .gt 17, (3, 1, 15, 14, 0, 0), 0, [])],
  [(.iload 4, (2, 0, 4, 0, 0, 0), 0, []), (.aload_n 0, (1, 0, 0, 0, 0, 0), 0, []), (.getfield 81, (3, 0, 10, 53, 4233, 1), 0, []), (.iload_n 3, (1, 0, 3, 0, 0, 0), 0, []), (.iaload, (1, 0, 0, 0, 0, 0), 0, []), (.iload 5, (2, 0, 5, 0, 0, 0), 0, []), (.isub, (1, 0, 0, 0, 0, 0), 0, []), (.if_icmp .le 6, (3, 1, 16, 15, 0, 0), 0, [])],
  [(.bipush (-12), (2, 0, 0, 0, 0, 0), (-12), []), (.ireturn, (1, 3, 0, 0, 0, 0), 0, [])],
  [(.iload_n 1, (1, 0, 1, 0, 0, 0), 0, []), (.iload_n 3, (1, 0, 3, 0, 0, 0), 0, []), (.if_icmp .ne 13, (3, 1, 19, 17, 0, 0), 0, [])],
  [(.iload_n 2, (1, 0, 2, 0, 0, 0), 0, []), (.iload 4, (2, 0, 4, 0, 0, 0), 0, []), (.if_icmp .ge 7, (3, 1, 19, 18, 0, 0), 0, [])],
  [(.iconst 1, (1, 0, 0, 0, 0, 0), 1, []), (.goto 4, (3, 1, 20, 0, 0, 0), 0, [])],
  [(.iconst 0, (1, 0, 0, 0, 0, 0), 0, []), (.nop, (0, 1, 20, 0, 0, 0), 0, [])],
  [(.istore 6, (2, 0, 6, 0, 0, 0), 0, []), (.iconst 0, (1, 0, 0, 0, 0, 0), 0, []), (.istore 7, (2, 0, 7, 0, 0, 0), 0, []), (.nop, (0, 1, 21, 0, 0, 0), 0, [])],
  [(.iload 7, (2, 0, 7, 0, 0, 0), 0, []), (.iload 5, (2, 0, 5, 0, 0, 0), 0, []), (.if_icmp .ge 57, (3, 1, 26, 22, 0, 0), 0, [])],
  [(.iload 6, (2, 0, 6, 0, 0, 0), 0, []), (.ifCond .eq 13, (3, 1, 24, 23, 0, 0), 0, [])],
  [(.iload 5, (2, 0, 5, 0, 0, 0), 0, []), (.iconst 1, (1, 0, 0, 0, 0, 0), 1, []), (.isub, (1, 0, 0, 0, 0, 0), 0, []), (.iload 7, (2, 0, 7, 0, 0, 0), 0, []), (.isub, (1, 0, 0, 0, 0, 0), 0, []), (.goto 5, (3, 1, 25, 0, 0, 0), 0, [])],
  [(.iload 7, (2, 0, 7, 0, 0, 0), 0, []), (.nop, (0, 1, 25, 0, 0, 0), 0, [])],
  [(.istore 8, (2, 0, 8, 0, 0, 0), 0, []), (.aload_n 0, (1, 0, 0, 0, 0, 0), 0, []), (.getfield 84, (3, 0, 10, 54, 4234, 1), 0, []), (.bipush 40, (2, 0, 0, 0, 0, 0), 40, []), (.iload_n 3, (1, 0, 3, 0, 0, 0), 0, []), (.imul, (1, 0, 0, 0, 0, 0), 0, []), (.iload 4, (2, 0, 4, 0, 0, 0), 0, []), (.iadd, (1, 0, 0, 0, 0, 0), 0, []), (.iload 8, (2, 0, 8, 0, 0, 0), 0, []), (.iadd, (1, 0, 0, 0, 0, 0), 0, []), (.aload_n 0, (1, 0, 0, 0, 0, 0), 0, []), (.getfield 84, (3, 0, 10, 54, 4234, 1), 0, []), (.bipush 40, (2, 0, 0, 0, 0, 0), 40, []), (.iload_n 1, (1, 0, 1, 0, 0, 0), 0, []), (.imul, (1, 0, 0, 0, 0, 0), 0, []), (.iload_n 2, (1, 0, 2, 0, 0, 0), 0, []), (.iadd, (1, 0, 0, 0, 0, 0), 0, []), (.iload 8, (2, 0, 8, 0, 0, 0), 0, []), (.iadd, (1, 0, 0, 0, 0, 0), 0, []), (.iaload, (1, 0, 0, 0, 0, 0), 0, []), (.iastore, (1, 0, 0, 0, 0, 0), 0, []), (.iinc 7 1, (3, 0, 7, 0, 0, 0), 1, []), (.goto (-58), (3, 1, 21, 0, 0, 0), 0, [])],
  [(.iload 5, (2, 0, 5, 0, 0, 0), 0, []), (.ireturn, (1, 3, 0, 0, 0, 0), 0, [])]]
/-- EvenlyPouredModel.rows(IIII)I -/
noncomputable def bk_204 : List (List am_P) := [[(.iload_n 1, (1, 0, 1, 0, 0, 0), 0, []), (.invokestatic 357, (3, 2, 200, 1, 1, 0), 6131, [])],
  [(.ifCond .eq 28, (3, 1, 6, 2, 0, 0), 0, [])],
  [(.iload_n 2, (1, 0, 2, 0, 0, 0), 0, []), (.i2l, (1, 0, 0, 0, 0, 0), 0, []), (.lconst 0, (1, 0, 0, 0, 0, 0), 0, []), (.ldc2_w 117, (3, 0, 2, 0, 5127, 0), 0, []), (.invokestatic 94, (3, 2, 127, 3, 3, 0), 5111, [])],
  [(.ifCond .eq 16, (3, 1, 6, 4, 0, 0), 0, [])],
  [(.iload 4, (2, 0, 4, 0, 0, 0), 0, []), (.i2l, (1, 0, 0, 0, 0, 0), 0, []), (.lconst 0, (1, 0, 0, 0, 0, 0), 0, []), (.ldc2_w 111, (3, 0, 24, 0, 5120, 0), 0, []), (.invokestatic 94, (3, 2, 127, 5, 3, 0), 5111, [])],
  [(.ifCond .ne 6, (3, 1, 7, 6, 0, 0), 0, [])],
  [(.bipush (-2), (2, 0, 0, 0, 0, 0), (-2), []), (.ireturn, (1, 3, 0, 0, 0, 0), 0, [])],
  [(.aload_n 0, (1, 0, 0, 0, 0, 0), 0, []), (.getfield 74, (3, 0, 10, 51, 4231, 1), 0, []), (.iload_n 1, (1, 0, 1, 0, 0, 0), 0, []), (.baload, (1, 0, 21, 0, 0, 0), 0, []), (.ifCond .eq 16, (3, 1, 10, 8, 0, 0), 0, [])],
  [(.aload_n 0, (1, 0, 0, 0, 0, 0), 0, []), (.getfield 78, (3, 0, 10, 52, 4232, 1), 0, []), (.iload_n 1, (1, 0, 1, 0, 0, 0), 0, []), (.iaload, (1, 0, 0, 0, 0, 0), 0, []), (.iload_n 2, (1, 0, 2, 0, 0, 0), 0, []), (.if_icmp .eq 6, (3, 1, 10, 9, 0, 0), 0, [])],
  [(.bipush (-13), (2, 0, 0, 0, 0, 0), (-13), []), (.ireturn, (1, 3, 0, 0, 0, 0), 0, [])],
  [(.aload_n 0, (1, 0, 0, 0, 0, 0), 0, []), (.getfield 74, (3, 0, 10, 51, 4231, 1), 0, []), (.iload_n 1, (1, 0, 1, 0, 0, 0), 0, []), (.baload, (1, 0, 21, 0, 0, 0), 0, []), (.ifCond .ne 6, (3, 1, 12, 11, 0, 0), 0, [])],
  [(.bipush (-11), (2, 0, 0, 0, 0, 0), (-11), []), (.ireturn, (1, 3, 0, 0, 0, 0), 0, [])],
  [(.iconst 0, (1, 0, 0, 0, 0, 0), 0, []), (.istore 5, (2, 0, 5, 0, 0, 0), 0, []), (.iconst 0, (1, 0, 0, 0, 0, 0), 0, []), (.istore 6, (2, 0, 6, 0, 0, 0), 0, []), (.nop, (0, 1, 13, 0, 0, 0), 0, [])],
  [(.iload 6, (2, 0, 6, 0, 0, 0), 0, []), (.iload 4, (2, 0, 4, 0, 0, 0), 0, []), (.if_icmp .ge 64, (3, 1, 22, 14, 0, 0), 0, [])],
  [(.iload_n 3, (1, 0, 3, 0, 0, 0), 0, []), (.ifCond .lt 18, (3, 1, 16, 15, 0, 0), 0, [])],
  [(.iload_n 3, (1, 0, 3, 0, 0, 0), 0, []), (.aload_n 0, (1, 0, 0, 0, 0, 0), 0, []), (.getfield 81, (3, 0, 10, 53, 4233, 1), 0, []), (.iload_n 1, (1, 0, 1, 0, 0, 0), 0, []), (.iaload, (1, 0, 0, 0, 0, 0), 0, []), (.iload 6, (2, 0, 6, 0, 0, 0), 0, []), (.isub, (1, 0, 0, 0, 0, 0), 0, []), (.iconst 1, (1, 0, 0, 0, 0, 0), 1, []), (.isub, (1, 0, 0, 0, 0, 0), 0, []), (.if_icmp .le 6, (3, 1, 17, 16, 0, 0), 0, [])],
  [(.bipush (-12), (2, 0, 0, 0, 0, 0), (-12), []), (.ireturn, (1, 3, 0, 0, 0, 0), 0, [])],
  [(.iload 5, (2, 0, 5, 0, 0, 0), 0, []), (.aload_n 0, (1, 0, 0, 0, 0, 0), 0, []), (.iload 6, (2, 0, 6, 0, 0, 0), 0, []), (.aload_n 0, (1, 0, 0, 0, 0, 0), 0, []), (.getfield 84, (3, 0, 10, 54, 4234, 1), 0, []), (.bipush 40, (2, 0, 0, 0, 0, 0), 40, []), (.iload_n 1, (1, 0, 1, 0, 0, 0), 0, []), (.imul, (1, 0, 0, 0, 0, 0), 0, []), (.iload_n 3, (1, 0, 3, 0, 0, 0), 0, []), (.iadd, (1, 0, 0, 0, 0, 0), 0, []), (.iload 6, (2, 0, 6, 0, 0, 0), 0, []), (.iadd, (1, 0, 0, 0, 0, 0), 0, []), (.iaload, (1, 0, 0, 0, 0, 0), 0, []), (.invokevirtual 378, (3, 2, 135, 18, 3, 11), 6188, [])],
  [(.ifCond .lt 7, (3, 1, 20, 19, 0, 0), 0, [])],
  [(.iconst 1, (1, 0, 0, 0, 0, 0), 1, []), (.goto 4, (3, 1, 21, 0, 0, 0), 0, [])],
  [(.iconst 0, (1, 0, 0, 0, 0, 0), 0, []), (.nop, (0, 1, 21, 0, 0, 0), 0, [])],
  [(.iadd, (1, 0, 0, 0, 0, 0), 0, []), (.istore 5, (2, 0, 5, 0, 0, 0), 0, []), (.iinc 6 1, (3, 0, 6, 0, 0, 0), 1, []), (.goto (-65), (3, 1, 13, 0, 0, 0), 0, [])],
  [(.iload 5, (2, 0, 5, 0, 0, 0), 0, []), (.ireturn, (1, 3, 0, 0, 0, 0), 0, [])]]
/-- EvenlyPouredModel.over(I)I -/
noncomputable def bk_205 : List (List am_P) := [[(.iload_n 0, (1, 0, 0, 0, 0, 0), 0, []), (.ifCond .ne 7, (3, 1, 2, 1, 0, 0), 0, [])],
  [(.iconst (-1), (1, 0, 0, 0, 0, 0), (-1), []), (.goto 27, (3, 1, 8, 0, 0, 0), 0, [])],
  [(.iload_n 0, (1, 0, 0, 0, 0, 0), 0, []), (.iconst 4, (1, 0, 0, 0, 0, 0), 4, []), (.if_icmp .ne 7, (3, 1, 4, 3, 0, 0), 0, [])],
  [(.iconst 2, (1, 0, 0, 0, 0, 0), 2, []), (.goto 18, (3, 1, 8, 0, 0, 0), 0, [])],
  [(.iload_n 0, (1, 0, 0, 0, 0, 0), 0, []), (.iconst 3, (1, 0, 0, 0, 0, 0), 3, []), (.if_icmp .eq 8, (3, 1, 6, 5, 0, 0), 0, [])],
  [(.iload_n 0, (1, 0, 0, 0, 0, 0), 0, []), (.iconst 5, (1, 0, 0, 0, 0, 0), 5, []), (.if_icmp .ne 7, (3, 1, 7, 6, 0, 0), 0, [])],
  [(.iconst 1, (1, 0, 0, 0, 0, 0), 1, []), (.goto 4, (3, 1, 8, 0, 0, 0), 0, [])],
  [(.iconst 0, (1, 0, 0, 0, 0, 0), 0, []), (.nop, (0, 1, 8, 0, 0, 0), 0, [])],
  [(.ireturn, (1, 3, 0, 0, 0, 0), 0, [])]]
/-- EvenlyPouredModel.taken(II)I -/
noncomputable def bk_206 : List (List am_P) := [[(.iload_n 2, (1, 0, 2, 0, 0, 0), 0, []), (.i2l, (1, 0, 0, 0, 0, 0), 0, []), (.lconst 0, (1, 0, 0, 0, 0, 0), 0, []), (.ldc2_w 122, (3, 0, 5, 0, 5144, 0), 0, []), (.invokestatic 94, (3, 2, 127, 1, 3, 0), 5111, [])],
  [(.ifCond .ne 6, (3, 1, 3, 2, 0, 0), 0, [])],
  [(.bipush (-2), (2, 0, 0, 0, 0, 0), (-2), []), (.ireturn, (1, 3, 0, 0, 0, 0), 0, [])],
  [(.aload_n 0, (1, 0, 0, 0, 0, 0), 0, []), (.iload_n 1, (1, 0, 1, 0, 0, 0), 0, []), (.invokevirtual 103, (3, 2, 132, 4, 2, 11), 5114, [])],
  [(.ifCond .ne 6, (3, 1, 6, 5, 0, 0), 0, [])],
  [(.bipush (-11), (2, 0, 0, 0, 0, 0), (-11), []), (.ireturn, (1, 3, 0, 0, 0, 0), 0, [])],
  [(.aload_n 0, (1, 0, 0, 0, 0, 0), 0, []), (.getfield 32, (3, 0, 10, 10, 4190, 1), 0, []), (.iload_n 1, (1, 0, 1, 0, 0, 0), 0, []), (.iaload, (1, 0, 0, 0, 0, 0), 0, []), (.istore_n 3, (1, 0, 3, 0, 0, 0), 0, []), (.nop, (0, 1, 7, 0, 0, 0), 0, [])],
  [(.iload_n 3, (1, 0, 3, 0, 0, 0), 0, []), (.iconst (-1), (1, 0, 0, 0, 0, 0), (-1), []), (.if_icmp .eq 16, (3, 1, 11, 8, 0, 0), 0, [])],
  [(.iload_n 3, (1, 0, 3, 0, 0, 0), 0, []), (.iload_n 2, (1, 0, 2, 0, 0, 0), 0, []), (.if_icmp .eq 11, (3, 1, 11, 9, 0, 0), 0, [])],
  [(.iload_n 3, (1, 0, 3, 0, 0, 0), 0, []), (.invokestatic 381, (3, 2, 205, 10, 1, 0), 6193, [])],
  [(.istore_n 3, (1, 0, 3, 0, 0, 0), 0, []), (.goto (-15), (3, 1, 7, 0, 0, 0), 0, [])],
  [(.iload_n 3, (1, 0, 3, 0, 0, 0), 0, []), (.iload_n 2, (1, 0, 2, 0, 0, 0), 0, []), (.if_icmp .ne 12, (3, 1, 13, 12, 0, 0), 0, [])],
  [(.aload_n 0, (1, 0, 0, 0, 0, 0), 0, []), (.getfield 35, (3, 0, 10, 11, 4191, 1), 0, []), (.iload_n 1, (1, 0, 1, 0, 0, 0), 0, []), (.iaload, (1, 0, 0, 0, 0, 0), 0, []), (.goto 5, (3, 1, 14, 0, 0, 0), 0, [])],
  [(.bipush (-13), (2, 0, 0, 0, 0, 0), (-13), []), (.nop, (0, 1, 14, 0, 0, 0), 0, [])],
  [(.ireturn, (1, 3, 0, 0, 0, 0), 0, [])]]
/-- EvenlyPouredLaw.law([I)Z -/
noncomputable def bk_207 : List (List am_P) := [[(.new 7, (3, 0, 9, 18, 1019, 0), 0, []), (.dup, (1, 0, 0, 0, 0, 0), 0, []), (.invokespecial 9, (3, 2, 66, 1, 1, 0), 1021, [])],
  [(.astore_n 1, (1, 0, 1, 0, 0, 0), 0, []), (.new 10, (3, 0, 10, 55, 4171, 0), 0, []), (.dup, (1, 0, 0, 0, 0, 0), 0, []), (.invokespecial 12, (3, 2, 129, 2, 1, 0), 4173, [])],
  [(.astore_n 2, (1, 0, 2, 0, 0, 0), 0, []), (.iconst 0, (1, 0, 0, 0, 0, 0), 0, []), (.istore_n 3, (1, 0, 3, 0, 0, 0), 0, []), (.nop, (0, 1, 3, 0, 0, 0), 0, [])],
  [(.iload_n 3, (1, 0, 3, 0, 0, 0), 0, []), (.aload_n 0, (1, 0, 0, 0, 0, 0), 0, []), (.arraylength, (1, 0, 0, 0, 0, 0), 0, []), (.bipush 6, (2, 0, 0, 0, 0, 0), 6, []), (.isub, (1, 0, 0, 0, 0, 0), 0, []), (.if_icmp .gt 1106, (3, 1, 134, 4, 0, 0), 0, [])],
  [(.aload_n 0, (1, 0, 0, 0, 0, 0), 0, []), (.iload_n 3, (1, 0, 3, 0, 0, 0), 0, []), (.iaload, (1, 0, 0, 0, 0, 0), 0, []), (.bipush 31, (2, 0, 0, 0, 0, 0), 31, []), (.iand, (1, 0, 0, 0, 0, 0), 0, []), (.tableswitch 1091 0 31 #[143, 186, 219, 252, 275, 308, 331, 344, 367, 400, 423, 457, 480, 493, 516, 539, 572, 595, 618, 641, 674, 697, 720, 753, 807, 820, 833, 856, 899, 942, 1005, 1058], (143, 1, 0, 133, 0, 0), 0, [(0, 5), (1, 9), (2, 13), (3, 17), (4, 21), (5, 25), (6, 29), (7, 33), (8, 37), (9, 41), (10, 45), (11, 49), (12, 53), (13, 57), (14, 61), (15, 65), (16, 69), (17, 73), (18, 77), (19, 81), (20, 85), (21, 89), (22, 93), (23, 97), (24, 101), (25, 105), (26, 109), (27, 113), (28, 117), (29, 121), (30, 125), (31, 129)])],
  [(.aload_n 1, (1, 0, 1, 0, 0, 0), 0, []), (.aload_n 0, (1, 0, 0, 0, 0, 0), 0, []), (.iload_n 3, (1, 0, 3, 0, 0, 0), 0, []), (.iconst 1, (1, 0, 0, 0, 0, 0), 1, []), (.iadd, (1, 0, 0, 0, 0, 0), 0, []), (.iaload, (1, 0, 0, 0, 0, 0), 0, []), (.aload_n 0, (1, 0, 0, 0, 0, 0), 0, []), (.iload_n 3, (1, 0, 3, 0, 0, 0), 0, []), (.iconst 2, (1, 0, 0, 0, 0, 0), 2, []), (.iadd, (1, 0, 0, 0, 0, 0), 0, []), (.iaload, (1, 0, 0, 0, 0, 0), 0, []), (.aload_n 0, (1, 0, 0, 0, 0, 0), 0, []), (.iload_n 3, (1, 0, 3, 0, 0, 0), 0, []), (.iconst 3, (1, 0, 0, 0, 0, 0), 3, []), (.iadd, (1, 0, 0, 0, 0, 0), 0, []), (.iaload, (1, 0, 0, 0, 0, 0), 0, []), (.invokevirtual 13, (3, 2, 67, 6, 4, 10), 2099, [])],
  [(.aload_n 2, (1, 0, 2, 0, 0, 0), 0, []), (.aload_n 0, (1, 0, 0, 0, 0, 0), 0, []), (.iload_n 3, (1, 0, 3, 0, 0, 0), 0, []), (.iconst 1, (1, 0, 0, 0, 0, 0), 1, []), (.iadd, (1, 0, 0, 0, 0, 0), 0, []), (.iaload, (1, 0, 0, 0, 0, 0), 0, []), (.aload_n 0, (1, 0, 0, 0, 0, 0), 0, []), (.iload_n 3, (1, 0, 3, 0, 0, 0), 0, []), (.iconst 2, (1, 0, 0, 0, 0, 0), 2, []), (.iadd, (1, 0, 0, 0, 0, 0), 0, []), (.iaload, (1, 0, 0, 0, 0, 0), 0, []), (.aload_n 0, (1, 0, 0, 0, 0, 0), 0, []), (.iload_n 3, (1, 0, 3, 0, 0, 0), 0, []), (.iconst 3, (1, 0, 0, 0, 0, 0), 3, []), (.iadd, (1, 0, 0, 0, 0, 0), 0, []), (.iaload, (1, 0, 0, 0, 0, 0), 0, []), (.invokevirtual 17, (3, 2, 133, 7, 4, 11), 5106, [])],
  [(.if_icmp .eq 910, (3, 1, 133, 8, 0, 0), 0, [])],
  [(.iconst 0, (1, 0, 0, 0, 0, 0), 0, []), (.ireturn, (1, 3, 0, 0, 0, 1), 0, [])],
  [(.aload_n 1, (1, 0, 1, 0, 0, 0), 0, []), (.aload_n 0, (1, 0, 0, 0, 0, 0), 0, []), (.iload_n 3, (1, 0, 3, 0, 0, 0), 0, []), (.iconst 1, (1, 0, 0, 0, 0, 0), 1, []), (.iadd, (1, 0, 0, 0, 0, 0), 0, []), (.iaload, (1, 0, 0, 0, 0, 0), 0, []), (.aload_n 0, (1, 0, 0, 0, 0, 0), 0, []), (.iload_n 3, (1, 0, 3, 0, 0, 0), 0, []), (.iconst 2, (1, 0, 0, 0, 0, 0), 2, []), (.iadd, (1, 0, 0, 0, 0, 0), 0, []), (.iaload, (1, 0, 0, 0, 0, 0), 0, []), (.invokevirtual 18, (3, 2, 72, 10, 3, 10), 2129, [])],
  [(.aload_n 2, (1, 0, 2, 0, 0, 0), 0, []), (.aload_n 0, (1, 0, 0, 0, 0, 0), 0, []), (.iload_n 3, (1, 0, 3, 0, 0, 0), 0, []), (.iconst 1, (1, 0, 0, 0, 0, 0), 1, []), (.iadd, (1, 0, 0, 0, 0, 0), 0, []), (.iaload, (1, 0, 0, 0, 0, 0), 0, []), (.aload_n 0, (1, 0, 0, 0, 0, 0), 0, []), (.iload_n 3, (1, 0, 3, 0, 0, 0), 0, []), (.iconst 2, (1, 0, 0, 0, 0, 0), 2, []), (.iadd, (1, 0, 0, 0, 0, 0), 0, []), (.iaload, (1, 0, 0, 0, 0, 0), 0, []), (.invokevirtual 22, (3, 2, 134, 11, 3, 11), 5123, [])],
  [(.if_icmp .eq 877, (3, 1, 133, 12, 0, 0), 0, [])],
  [(.iconst 0, (1, 0, 0, 0, 0, 0), 0, []), (.ireturn, (1, 3, 0, 0, 0, 1), 0, [])],
  [(.aload_n 1, (1, 0, 1, 0, 0, 0), 0, []), (.aload_n 0, (1, 0, 0, 0, 0, 0), 0, []), (.iload_n 3, (1, 0, 3, 0, 0, 0), 0, []), (.iconst 1, (1, 0, 0, 0, 0, 0), 1, []), (.iadd, (1, 0, 0, 0, 0, 0), 0, []), (.iaload, (1, 0, 0, 0, 0, 0), 0, []), (.aload_n 0, (1, 0, 0, 0, 0, 0), 0, []), (.iload_n 3, (1, 0, 3, 0, 0, 0), 0, []), (.iconst 2, (1, 0, 0, 0, 0, 0), 2, []), (.iadd, (1, 0, 0, 0, 0, 0), 0, []), (.iaload, (1, 0, 0, 0, 0, 0), 0, []), (.invokevirtual 23, (3, 2, 73, 14, 3, 10), 2133, [])],
  [(.aload_n 2, (1, 0, 2, 0, 0, 0), 0, []), (.aload_n 0, (1, 0, 0, 0, 0, 0), 0, []), (.iload_n 3, (1, 0, 3, 0, 0, 0), 0, []), (.iconst 1, (1, 0, 0, 0, 0, 0), 1, []), (.iadd, (1, 0, 0, 0, 0, 0), 0, []), (.iaload, (1, 0, 0, 0, 0, 0), 0, []), (.aload_n 0, (1, 0, 0, 0, 0, 0), 0, []), (.iload_n 3, (1, 0, 3, 0, 0, 0), 0, []), (.iconst 2, (1, 0, 0, 0, 0, 0), 2, []), (.iadd, (1, 0, 0, 0, 0, 0), 0, []), (.iaload, (1, 0, 0, 0, 0, 0), 0, []), (.invokevirtual 26, (3, 2, 135, 15, 3, 11), 5128, [])],
  [(.if_icmp .eq 844, (3, 1, 133, 16, 0, 0), 0, [])],
  [(.iconst 0, (1, 0, 0, 0, 0, 0), 0, []), (.ireturn, (1, 3, 0, 0, 0, 1), 0, [])],
  [(.aload_n 1, (1, 0, 1, 0, 0, 0), 0, []), (.aload_n 0, (1, 0, 0, 0, 0, 0), 0, []), (.iload_n 3, (1, 0, 3, 0, 0, 0), 0, []), (.iconst 1, (1, 0, 0, 0, 0, 0), 1, []), (.iadd, (1, 0, 0, 0, 0, 0), 0, []), (.iaload, (1, 0, 0, 0, 0, 0), 0, []), (.invokevirtual 27, (3, 2, 74, 18, 2, 10), 2145, [])],
  [(.aload_n 2, (1, 0, 2, 0, 0, 0), 0, []), (.aload_n 0, (1, 0, 0, 0, 0, 0), 0, []), (.iload_n 3, (1, 0, 3, 0, 0, 0), 0, []), (.iconst 1, (1, 0, 0, 0, 0, 0), 1, []), (.iadd, (1, 0, 0, 0, 0, 0), 0, []), (.iaload, (1, 0, 0, 0, 0, 0), 0, []), (.invokevirtual 31, (3, 2, 136, 19, 2, 11), 5136, [])],
  [(.if_icmp .eq 821, (3, 1, 133, 20, 0, 0), 0, [])],
  [(.iconst 0, (1, 0, 0, 0, 0, 0), 0, []), (.ireturn, (1, 3, 0, 0, 0, 1), 0, [])],
  [(.aload_n 1, (1, 0, 1, 0, 0, 0), 0, []), (.aload_n 0, (1, 0, 0, 0, 0, 0), 0, []), (.iload_n 3, (1, 0, 3, 0, 0, 0), 0, []), (.iconst 1, (1, 0, 0, 0, 0, 0), 1, []), (.iadd, (1, 0, 0, 0, 0, 0), 0, []), (.iaload, (1, 0, 0, 0, 0, 0), 0, []), (.aload_n 0, (1, 0, 0, 0, 0, 0), 0, []), (.iload_n 3, (1, 0, 3, 0, 0, 0), 0, []), (.iconst 2, (1, 0, 0, 0, 0, 0), 2, []), (.iadd, (1, 0, 0, 0, 0, 0), 0, []), (.iaload, (1, 0, 0, 0, 0, 0), 0, []), (.invokevirtual 32, (3, 2, 75, 22, 3, 10), 2149, [])],
  [(.aload_n 2, (1, 0, 2, 0, 0, 0), 0, []), (.aload_n 0, (1, 0, 0, 0, 0, 0), 0, []), (.iload_n 3, (1, 0, 3, 0, 0, 0), 0, []), (.iconst 1, (1, 0, 0, 0, 0, 0), 1, []), (.iadd, (1, 0, 0, 0, 0, 0), 0, []), (.iaload, (1, 0, 0, 0, 0, 0), 0, []), (.aload_n 0, (1, 0, 0, 0, 0, 0), 0, []), (.iload_n 3, (1, 0, 3, 0, 0, 0), 0, []), (.iconst 2, (1, 0, 0, 0, 0, 0), 2, []), (.iadd, (1, 0, 0, 0, 0, 0), 0, []), (.iaload, (1, 0, 0, 0, 0, 0), 0, []), (.invokevirtual 35, (3, 2, 137, 23, 3, 11), 5140, [])],
  [(.if_icmp .eq 788, (3, 1, 133, 24, 0, 0), 0, [])],
  [(.iconst 0, (1, 0, 0, 0, 0, 0), 0, []), (.ireturn, (1, 3, 0, 0, 0, 1), 0, [])],
  [(.aload_n 1, (1, 0, 1, 0, 0, 0), 0, []), (.aload_n 0, (1, 0, 0, 0, 0, 0), 0, []), (.iload_n 3, (1, 0, 3, 0, 0, 0), 0, []), (.iconst 1, (1, 0, 0, 0, 0, 0), 1, []), (.iadd, (1, 0, 0, 0, 0, 0), 0, []), (.iaload, (1, 0, 0, 0, 0, 0), 0, []), (.invokevirtual 36, (3, 2, 81, 26, 2, 10), 2156, [])],
  [(.aload_n 2, (1, 0, 2, 0, 0, 0), 0, []), (.aload_n 0, (1, 0, 0, 0, 0, 0), 0, []), (.iload_n 3, (1, 0, 3, 0, 0, 0), 0, []), (.iconst 1, (1, 0, 0, 0, 0, 0), 1, []), (.iadd, (1, 0, 0, 0, 0, 0), 0, []), (.iaload, (1, 0, 0, 0, 0, 0), 0, []), (.invokevirtual 39, (3, 2, 138, 27, 2, 11), 5145, [])],
  [(.if_icmp .eq 765, (3, 1, 133, 28, 0, 0), 0, [])],
  [(.iconst 0, (1, 0, 0, 0, 0, 0), 0, []), (.ireturn, (1, 3, 0, 0, 0, 1), 0, [])],
  [(.aload_n 1, (1, 0, 1, 0, 0, 0), 0, []), (.invokevirtual 40, (3, 2, 82, 30, 1, 10), 2160, [])],
  [(.aload_n 2, (1, 0, 2, 0, 0, 0), 0, []), (.invokevirtual 44, (3, 2, 155, 31, 1, 11), 5150, [])],
  [(.if_icmp .eq 752, (3, 1, 133, 32, 0, 0), 0, [])],
  [(.iconst 0, (1, 0, 0, 0, 0, 0), 0, []), (.ireturn, (1, 3, 0, 0, 0, 1), 0, [])],
  [(.aload_n 1, (1, 0, 1, 0, 0, 0), 0, []), (.aload_n 0, (1, 0, 0, 0, 0, 0), 0, []), (.iload_n 3, (1, 0, 3, 0, 0, 0), 0, []), (.iconst 1, (1, 0, 0, 0, 0, 0), 1, []), (.iadd, (1, 0, 0, 0, 0, 0), 0, []), (.iaload, (1, 0, 0, 0, 0, 0), 0, []), (.invokevirtual 45, (3, 2, 83, 34, 2, 10), 3068, [])],
  [(.aload_n 2, (1, 0, 2, 0, 0, 0), 0, []), (.aload_n 0, (1, 0, 0, 0, 0, 0), 0, []), (.iload_n 3, (1, 0, 3, 0, 0, 0), 0, []), (.iconst 1, (1, 0, 0, 0, 0, 0), 1, []), (.iadd, (1, 0, 0, 0, 0, 0), 0, []), (.iaload, (1, 0, 0, 0, 0, 0), 0, []), (.invokevirtual 48, (3, 2, 156, 35, 2, 11), 5225, [])],
  [(.if_icmp .eq 729, (3, 1, 133, 36, 0, 0), 0, [])],
  [(.iconst 0, (1, 0, 0, 0, 0, 0), 0, []), (.ireturn, (1, 3, 0, 0, 0, 1), 0, [])],
  [(.aload_n 1, (1, 0, 1, 0, 0, 0), 0, []), (.aload_n 0, (1, 0, 0, 0, 0, 0), 0, []), (.iload_n 3, (1, 0, 3, 0, 0, 0), 0, []), (.iconst 1, (1, 0, 0, 0, 0, 0), 1, []), (.iadd, (1, 0, 0, 0, 0, 0), 0, []), (.iaload, (1, 0, 0, 0, 0, 0), 0, []), (.aload_n 0, (1, 0, 0, 0, 0, 0), 0, []), (.iload_n 3, (1, 0, 3, 0, 0, 0), 0, []), (.iconst 2, (1, 0, 0, 0, 0, 0), 2, []), (.iadd, (1, 0, 0, 0, 0, 0), 0, []), (.iaload, (1, 0, 0, 0, 0, 0), 0, []), (.invokevirtual 49, (3, 2, 84, 38, 3, 10), 3072, [])],
  [(.aload_n 2, (1, 0, 2, 0, 0, 0), 0, []), (.aload_n 0, (1, 0, 0, 0, 0, 0), 0, []), (.iload_n 3, (1, 0, 3, 0, 0, 0), 0, []), (.iconst 1, (1, 0, 0, 0, 0, 0), 1, []), (.iadd, (1, 0, 0, 0, 0, 0), 0, []), (.iaload, (1, 0, 0, 0, 0, 0), 0, []), (.aload_n 0, (1, 0, 0, 0, 0, 0), 0, []), (.iload_n 3, (1, 0, 3, 0, 0, 0), 0, []), (.iconst 2, (1, 0, 0, 0, 0, 0), 2, []), (.iadd, (1, 0, 0, 0, 0, 0), 0, []), (.iaload, (1, 0, 0, 0, 0, 0), 0, []), (.invokevirtual 52, (3, 2, 166, 39, 3, 11), 5229, [])],
  [(.if_icmp .eq 696, (3, 1, 133, 40, 0, 0), 0, [])],
  [(.iconst 0, (1, 0, 0, 0, 0, 0), 0, []), (.ireturn, (1, 3, 0, 0, 0, 1), 0, [])],
  [(.aload_n 1, (1, 0, 1, 0, 0, 0), 0, []), (.aload_n 0, (1, 0, 0, 0, 0, 0), 0, []), (.iload_n 3, (1, 0, 3, 0, 0, 0), 0, []), (.iconst 1, (1, 0, 0, 0, 0, 0), 1, []), (.iadd, (1, 0, 0, 0, 0, 0), 0, []), (.iaload, (1, 0, 0, 0, 0, 0), 0, []), (.invokevirtual 53, (3, 2, 85, 42, 2, 10), 3135, [])],
  [(.aload_n 2, (1, 0, 2, 0, 0, 0), 0, []), (.aload_n 0, (1, 0, 0, 0, 0, 0), 0, []), (.iload_n 3, (1, 0, 3, 0, 0, 0), 0, []), (.iconst 1, (1, 0, 0, 0, 0, 0), 1, []), (.iadd, (1, 0, 0, 0, 0, 0), 0, []), (.iaload, (1, 0, 0, 0, 0, 0), 0, []), (.invokevirtual 56, (3, 2, 169, 43, 2, 11), 6027, [])],
  [(.if_icmp .eq 673, (3, 1, 133, 44, 0, 0), 0, [])],
  [(.iconst 0, (1, 0, 0, 0, 0, 0), 0, []), (.ireturn, (1, 3, 0, 0, 0, 1), 0, [])],
  [(.aload_n 1, (1, 0, 1, 0, 0, 0), 0, []), (.aload_n 0, (1, 0, 0, 0, 0, 0), 0, []), (.iload_n 3, (1, 0, 3, 0, 0, 0), 0, []), (.iconst 1, (1, 0, 0, 0, 0, 0), 1, []), (.iadd, (1, 0, 0, 0, 0, 0), 0, []), (.iaload, (1, 0, 0, 0, 0, 0), 0, []), (.aload_n 0, (1, 0, 0, 0, 0, 0), 0, []), (.iload_n 3, (1, 0, 3, 0, 0, 0), 0, []), (.iconst 2, (1, 0, 0, 0, 0, 0), 2, []), (.iadd, (1, 0, 0, 0, 0, 0), 0, []), (.iaload, (1, 0, 0, 0, 0, 0), 0, []), (.invokevirtual 57, (3, 2, 86, 46, 3, 10), 3168, [])],
  [(.aload_n 2, (1, 0, 2, 0, 0, 0), 0, []), (.aload_n 0, (1, 0, 0, 0, 0, 0), 0, []), (.iload_n 3, (1, 0, 3, 0, 0, 0), 0, []), (.iconst 1, (1, 0, 0, 0, 0, 0), 1, []), (.iadd, (1, 0, 0, 0, 0, 0), 0, []), (.iaload, (1, 0, 0, 0, 0, 0), 0, []), (.aload_n 0, (1, 0, 0, 0, 0, 0), 0, []), (.iload_n 3, (1, 0, 3, 0, 0, 0), 0, []), (.iconst 2, (1, 0, 0, 0, 0, 0), 2, []), (.iadd, (1, 0, 0, 0, 0, 0), 0, []), (.iaload, (1, 0, 0, 0, 0, 0), 0, []), (.invokevirtual 61, (3, 2, 171, 47, 3, 11), 6043, [])],
  [(.lcmp, (1, 0, 0, 0, 0, 0), 0, []), (.ifCond .eq 639, (3, 1, 133, 48, 0, 0), 0, [])],
  [(.iconst 0, (1, 0, 0, 0, 0, 0), 0, []), (.ireturn, (1, 3, 0, 0, 0, 1), 0, [])],
  [(.aload_n 1, (1, 0, 1, 0, 0, 0), 0, []), (.aload_n 0, (1, 0, 0, 0, 0, 0), 0, []), (.iload_n 3, (1, 0, 3, 0, 0, 0), 0, []), (.iconst 1, (1, 0, 0, 0, 0, 0), 1, []), (.iadd, (1, 0, 0, 0, 0, 0), 0, []), (.iaload, (1, 0, 0, 0, 0, 0), 0, []), (.invokevirtual 62, (3, 2, 87, 50, 2, 10), 3179, [])],
  [(.aload_n 2, (1, 0, 2, 0, 0, 0), 0, []), (.aload_n 0, (1, 0, 0, 0, 0, 0), 0, []), (.iload_n 3, (1, 0, 3, 0, 0, 0), 0, []), (.iconst 1, (1, 0, 0, 0, 0, 0), 1, []), (.iadd, (1, 0, 0, 0, 0, 0), 0, []), (.iaload, (1, 0, 0, 0, 0, 0), 0, []), (.invokevirtual 65, (3, 2, 178, 51, 2, 11), 6051, [])],
  [(.if_icmp .eq 616, (3, 1, 133, 52, 0, 0), 0, [])],
  [(.iconst 0, (1, 0, 0, 0, 0, 0), 0, []), (.ireturn, (1, 3, 0, 0, 0, 1), 0, [])],
  [(.aload_n 1, (1, 0, 1, 0, 0, 0), 0, []), (.invokevirtual 66, (3, 2, 88, 54, 1, 10), 3236, [])],
  [(.aload_n 2, (1, 0, 2, 0, 0, 0), 0, []), (.invokevirtual 69, (3, 2, 179, 55, 1, 11), 6081, [])],
  [(.if_icmp .eq 603, (3, 1, 133, 56, 0, 0), 0, [])],
  [(.iconst 0, (1, 0, 0, 0, 0, 0), 0, []), (.ireturn, (1, 3, 0, 0, 0, 1), 0, [])],
  [(.aload_n 1, (1, 0, 1, 0, 0, 0), 0, []), (.aload_n 0, (1, 0, 0, 0, 0, 0), 0, []), (.iload_n 3, (1, 0, 3, 0, 0, 0), 0, []), (.iconst 1, (1, 0, 0, 0, 0, 0), 1, []), (.iadd, (1, 0, 0, 0, 0, 0), 0, []), (.iaload, (1, 0, 0, 0, 0, 0), 0, []), (.invokevirtual 70, (3, 2, 89, 58, 2, 10), 4001, [])],
  [(.aload_n 2, (1, 0, 2, 0, 0, 0), 0, []), (.aload_n 0, (1, 0, 0, 0, 0, 0), 0, []), (.iload_n 3, (1, 0, 3, 0, 0, 0), 0, []), (.iconst 1, (1, 0, 0, 0, 0, 0), 1, []), (.iadd, (1, 0, 0, 0, 0, 0), 0, []), (.iaload, (1, 0, 0, 0, 0, 0), 0, []), (.invokevirtual 73, (3, 2, 180, 59, 2, 11), 6085, [])],
  [(.if_icmp .eq 580, (3, 1, 133, 60, 0, 0), 0, [])],
  [(.iconst 0, (1, 0, 0, 0, 0, 0), 0, []), (.ireturn, (1, 3, 0, 0, 0, 1), 0, [])],
  [(.aload_n 1, (1, 0, 1, 0, 0, 0), 0, []), (.aload_n 0, (1, 0, 0, 0, 0, 0), 0, []), (.iload_n 3, (1, 0, 3, 0, 0, 0), 0, []), (.iconst 1, (1, 0, 0, 0, 0, 0), 1, []), (.iadd, (1, 0, 0, 0, 0, 0), 0, []), (.iaload, (1, 0, 0, 0, 0, 0), 0, []), (.invokevirtual 74, (3, 2, 90, 62, 2, 10), 4010, [])],
  [(.aload_n 2, (1, 0, 2, 0, 0, 0), 0, []), (.aload_n 0, (1, 0, 0, 0, 0, 0), 0, []), (.iload_n 3, (1, 0, 3, 0, 0, 0), 0, []), (.iconst 1, (1, 0, 0, 0, 0, 0), 1, []), (.iadd, (1, 0, 0, 0, 0, 0), 0, []), (.iaload, (1, 0, 0, 0, 0, 0), 0, []), (.invokevirtual 77, (3, 2, 181, 63, 2, 11), 6090, [])],
  [(.if_icmp .eq 557, (3, 1, 133, 64, 0, 0), 0, [])],
  [(.iconst 0, (1, 0, 0, 0, 0, 0), 0, []), (.ireturn, (1, 3, 0, 0, 0, 1), 0, [])],
  [(.aload_n 1, (1, 0, 1, 0, 0, 0), 0, []), (.aload_n 0, (1, 0, 0, 0, 0, 0), 0, []), (.iload_n 3, (1, 0, 3, 0, 0, 0), 0, []), (.iconst 1, (1, 0, 0, 0, 0, 0), 1, []), (.iadd, (1, 0, 0, 0, 0, 0), 0, []), (.iaload, (1, 0, 0, 0, 0, 0), 0, []), (.aload_n 0, (1, 0, 0, 0, 0, 0), 0, []), (.iload_n 3, (1, 0, 3, 0, 0, 0), 0, []), (.iconst 2, (1, 0, 0, 0, 0, 0), 2, []), (.iadd, (1, 0, 0, 0, 0, 0), 0, []), (.iaload, (1, 0, 0, 0, 0, 0), 0, []), (.invokevirtual 78, (3, 2, 101, 66, 3, 10), 4018, [])],
  [(.aload_n 2, (1, 0, 2, 0, 0, 0), 0, []), (.aload_n 0, (1, 0, 0, 0, 0, 0), 0, []), (.iload_n 3, (1, 0, 3, 0, 0, 0), 0, []), (.iconst 1, (1, 0, 0, 0, 0, 0), 1, []), (.iadd, (1, 0, 0, 0, 0, 0), 0, []), (.iaload, (1, 0, 0, 0, 0, 0), 0, []), (.aload_n 0, (1, 0, 0, 0, 0, 0), 0, []), (.iload_n 3, (1, 0, 3, 0, 0, 0), 0, []), (.iconst 2, (1, 0, 0, 0, 0, 0), 2, []), (.iadd, (1, 0, 0, 0, 0, 0), 0, []), (.iaload, (1, 0, 0, 0, 0, 0), 0, []), (.invokevirtual 81, (3, 2, 186, 67, 3, 11), 6094, [])],
  [(.if_icmp .eq 524, (3, 1, 133, 68, 0, 0), 0, [])],
  [(.iconst 0, (1, 0, 0, 0, 0, 0), 0, []), (.ireturn, (1, 3, 0, 0, 0, 1), 0, [])],
  [(.aload_n 1, (1, 0, 1, 0, 0, 0), 0, []), (.aload_n 0, (1, 0, 0, 0, 0, 0), 0, []), (.iload_n 3, (1, 0, 3, 0, 0, 0), 0, []), (.iconst 1, (1, 0, 0, 0, 0, 0), 1, []), (.iadd, (1, 0, 0, 0, 0, 0), 0, []), (.iaload, (1, 0, 0, 0, 0, 0), 0, []), (.invokevirtual 82, (3, 2, 102, 70, 2, 10), 4040, [])],
  [(.aload_n 2, (1, 0, 2, 0, 0, 0), 0, []), (.aload_n 0, (1, 0, 0, 0, 0, 0), 0, []), (.iload_n 3, (1, 0, 3, 0, 0, 0), 0, []), (.iconst 1, (1, 0, 0, 0, 0, 0), 1, []), (.iadd, (1, 0, 0, 0, 0, 0), 0, []), (.iaload, (1, 0, 0, 0, 0, 0), 0, []), (.invokevirtual 85, (3, 2, 187, 71, 2, 11), 6115, [])],
  [(.if_icmp .eq 501, (3, 1, 133, 72, 0, 0), 0, [])],
  [(.iconst 0, (1, 0, 0, 0, 0, 0), 0, []), (.ireturn, (1, 3, 0, 0, 0, 1), 0, [])],
  [(.aload_n 1, (1, 0, 1, 0, 0, 0), 0, []), (.aload_n 0, (1, 0, 0, 0, 0, 0), 0, []), (.iload_n 3, (1, 0, 3, 0, 0, 0), 0, []), (.iconst 1, (1, 0, 0, 0, 0, 0), 1, []), (.iadd, (1, 0, 0, 0, 0, 0), 0, []), (.iaload, (1, 0, 0, 0, 0, 0), 0, []), (.invokevirtual 86, (3, 2, 103, 74, 2, 10), 4044, [])],
  [(.aload_n 2, (1, 0, 2, 0, 0, 0), 0, []), (.aload_n 0, (1, 0, 0, 0, 0, 0), 0, []), (.iload_n 3, (1, 0, 3, 0, 0, 0), 0, []), (.iconst 1, (1, 0, 0, 0, 0, 0), 1, []), (.iadd, (1, 0, 0, 0, 0, 0), 0, []), (.iaload, (1, 0, 0, 0, 0, 0), 0, []), (.invokevirtual 89, (3, 2, 188, 75, 2, 11), 6119, [])],
  [(.if_icmp .eq 478, (3, 1, 133, 76, 0, 0), 0, [])],
  [(.iconst 0, (1, 0, 0, 0, 0, 0), 0, []), (.ireturn, (1, 3, 0, 0, 0, 1), 0, [])],
  [(.aload_n 1, (1, 0, 1, 0, 0, 0), 0, []), (.aload_n 0, (1, 0, 0, 0, 0, 0), 0, []), (.iload_n 3, (1, 0, 3, 0, 0, 0), 0, []), (.iconst 1, (1, 0, 0, 0, 0, 0), 1, []), (.iadd, (1, 0, 0, 0, 0, 0), 0, []), (.iaload, (1, 0, 0, 0, 0, 0), 0, []), (.invokevirtual 90, (3, 2, 105, 78, 2, 10), 4048, [])],
  [(.aload_n 2, (1, 0, 2, 0, 0, 0), 0, []), (.aload_n 0, (1, 0, 0, 0, 0, 0), 0, []), (.iload_n 3, (1, 0, 3, 0, 0, 0), 0, []), (.iconst 1, (1, 0, 0, 0, 0, 0), 1, []), (.iadd, (1, 0, 0, 0, 0, 0), 0, []), (.iaload, (1, 0, 0, 0, 0, 0), 0, []), (.invokevirtual 93, (3, 2, 189, 79, 2, 11), 6123, [])],
  [(.if_icmp .eq 455, (3, 1, 133, 80, 0, 0), 0, [])],
  [(.iconst 0, (1, 0, 0, 0, 0, 0), 0, []), (.ireturn, (1, 3, 0, 0, 0, 1), 0, [])],
  [(.aload_n 1, (1, 0, 1, 0, 0, 0), 0, []), (.aload_n 0, (1, 0, 0, 0, 0, 0), 0, []), (.iload_n 3, (1, 0, 3, 0, 0, 0), 0, []), (.iconst 1, (1, 0, 0, 0, 0, 0), 1, []), (.iadd, (1, 0, 0, 0, 0, 0), 0, []), (.iaload, (1, 0, 0, 0, 0, 0), 0, []), (.aload_n 0, (1, 0, 0, 0, 0, 0), 0, []), (.iload_n 3, (1, 0, 3, 0, 0, 0), 0, []), (.iconst 2, (1, 0, 0, 0, 0, 0), 2, []), (.iadd, (1, 0, 0, 0, 0, 0), 0, []), (.iaload, (1, 0, 0, 0, 0, 0), 0, []), (.invokevirtual 94, (3, 2, 108, 82, 3, 10), 4057, [])],
  [(.aload_n 2, (1, 0, 2, 0, 0, 0), 0, []), (.aload_n 0, (1, 0, 0, 0, 0, 0), 0, []), (.iload_n 3, (1, 0, 3, 0, 0, 0), 0, []), (.iconst 1, (1, 0, 0, 0, 0, 0), 1, []), (.iadd, (1, 0, 0, 0, 0, 0), 0, []), (.iaload, (1, 0, 0, 0, 0, 0), 0, []), (.aload_n 0, (1, 0, 0, 0, 0, 0), 0, []), (.iload_n 3, (1, 0, 3, 0, 0, 0), 0, []), (.iconst 2, (1, 0, 0, 0, 0, 0), 2, []), (.iadd, (1, 0, 0, 0, 0, 0), 0, []), (.iaload, (1, 0, 0, 0, 0, 0), 0, []), (.invokevirtual 97, (3, 2, 191, 83, 3, 11), 6127, [])],
  [(.if_icmp .eq 422, (3, 1, 133, 84, 0, 0), 0, [])],
  [(.iconst 0, (1, 0, 0, 0, 0, 0), 0, []), (.ireturn, (1, 3, 0, 0, 0, 1), 0, [])],
  [(.aload_n 1, (1, 0, 1, 0, 0, 0), 0, []), (.aload_n 0, (1, 0, 0, 0, 0, 0), 0, []), (.iload_n 3, (1, 0, 3, 0, 0, 0), 0, []), (.iconst 1, (1, 0, 0, 0, 0, 0), 1, []), (.iadd, (1, 0, 0, 0, 0, 0), 0, []), (.iaload, (1, 0, 0, 0, 0, 0), 0, []), (.invokevirtual 98, (3, 2, 109, 86, 2, 10), 4084, [])],
  [(.aload_n 2, (1, 0, 2, 0, 0, 0), 0, []), (.aload_n 0, (1, 0, 0, 0, 0, 0), 0, []), (.iload_n 3, (1, 0, 3, 0, 0, 0), 0, []), (.iconst 1, (1, 0, 0, 0, 0, 0), 1, []), (.iadd, (1, 0, 0, 0, 0, 0), 0, []), (.iaload, (1, 0, 0, 0, 0, 0), 0, []), (.invokevirtual 101, (3, 2, 192, 87, 2, 11), 6138, [])],
  [(.if_icmp .eq 399, (3, 1, 133, 88, 0, 0), 0, [])],
  [(.iconst 0, (1, 0, 0, 0, 0, 0), 0, []), (.ireturn, (1, 3, 0, 0, 0, 1), 0, [])],
  [(.aload_n 1, (1, 0, 1, 0, 0, 0), 0, []), (.aload_n 0, (1, 0, 0, 0, 0, 0), 0, []), (.iload_n 3, (1, 0, 3, 0, 0, 0), 0, []), (.iconst 1, (1, 0, 0, 0, 0, 0), 1, []), (.iadd, (1, 0, 0, 0, 0, 0), 0, []), (.iaload, (1, 0, 0, 0, 0, 0), 0, []), (.invokevirtual 102, (3, 2, 110, 90, 2, 10), 4092, [])],
  [(.aload_n 2, (1, 0, 2, 0, 0, 0), 0, []), (.aload_n 0, (1, 0, 0, 0, 0, 0), 0, []), (.iload_n 3, (1, 0, 3, 0, 0, 0), 0, []), (.iconst 1, (1, 0, 0, 0, 0, 0), 1, []), (.iadd, (1, 0, 0, 0, 0, 0), 0, []), (.iaload, (1, 0, 0, 0, 0, 0), 0, []), (.invokevirtual 105, (3, 2, 193, 91, 2, 11), 6142, [])],
  [(.if_icmp .eq 376, (3, 1, 133, 92, 0, 0), 0, [])],
  [(.iconst 0, (1, 0, 0, 0, 0, 0), 0, []), (.ireturn, (1, 3, 0, 0, 0, 1), 0, [])],
  [(.aload_n 1, (1, 0, 1, 0, 0, 0), 0, []), (.aload_n 0, (1, 0, 0, 0, 0, 0), 0, []), (.iload_n 3, (1, 0, 3, 0, 0, 0), 0, []), (.iconst 1, (1, 0, 0, 0, 0, 0), 1, []), (.iadd, (1, 0, 0, 0, 0, 0), 0, []), (.iaload, (1, 0, 0, 0, 0, 0), 0, []), (.aload_n 0, (1, 0, 0, 0, 0, 0), 0, []), (.iload_n 3, (1, 0, 3, 0, 0, 0), 0, []), (.iconst 2, (1, 0, 0, 0, 0, 0), 2, []), (.iadd, (1, 0, 0, 0, 0, 0), 0, []), (.iaload, (1, 0, 0, 0, 0, 0), 0, []), (.invokevirtual 106, (3, 2, 113, 94, 3, 10), 4096, [])],
  [(.aload_n 2, (1, 0, 2, 0, 0, 0), 0, []), (.aload_n 0, (1, 0, 0, 0, 0, 0), 0, []), (.iload_n 3, (1, 0, 3, 0, 0, 0), 0, []), (.iconst 1, (1, 0, 0, 0, 0, 0), 1, []), (.iadd, (1, 0, 0, 0, 0, 0), 0, []), (.iaload, (1, 0, 0, 0, 0, 0), 0, []), (.aload_n 0, (1, 0, 0, 0, 0, 0), 0, []), (.iload_n 3, (1, 0, 3, 0, 0, 0), 0, []), (.iconst 2, (1, 0, 0, 0, 0, 0), 2, []), (.iadd, (1, 0, 0, 0, 0, 0), 0, []), (.iaload, (1, 0, 0, 0, 0, 0), 0, []), (.invokevirtual 109, (3, 2, 195, 95, 3, 11), 6146, [])],
  [(.if_icmp .eq 343, (3, 1, 133, 96, 0, 0), 0, [])],
  [(.iconst 0, (1, 0, 0, 0, 0, 0), 0, []), (.ireturn, (1, 3, 0, 0, 0, 1), 0, [])],
  [(.aload_n 1, (1, 0, 1, 0, 0, 0), 0, []), (.aload_n 0, (1, 0, 0, 0, 0, 0), 0, []), (.iload_n 3, (1, 0, 3, 0, 0, 0), 0, []), (.iconst 1, (1, 0, 0, 0, 0, 0), 1, []), (.iadd, (1, 0, 0, 0, 0, 0), 0, []), (.iaload, (1, 0, 0, 0, 0, 0), 0, []), (.aload_n 0, (1, 0, 0, 0, 0, 0), 0, []), (.iload_n 3, (1, 0, 3, 0, 0, 0), 0, []), (.iconst 2, (1, 0, 0, 0, 0, 0), 2, []), (.iadd, (1, 0, 0, 0, 0, 0), 0, []), (.iaload, (1, 0, 0, 0, 0, 0), 0, []), (.aload_n 0, (1, 0, 0, 0, 0, 0), 0, []), (.iload_n 3, (1, 0, 3, 0, 0, 0), 0, []), (.iconst 3, (1, 0, 0, 0, 0, 0), 3, []), (.iadd, (1, 0, 0, 0, 0, 0), 0, []), (.iaload, (1, 0, 0, 0, 0, 0), 0, []), (.aload_n 0, (1, 0, 0, 0, 0, 0), 0, []), (.iload_n 3, (1, 0, 3, 0, 0, 0), 0, []), (.iconst 4, (1, 0, 0, 0, 0, 0), 4, []), (.iadd, (1, 0, 0, 0, 0, 0), 0, []), (.iaload, (1, 0, 0, 0, 0, 0), 0, []), (.invokevirtual 110, (3, 2, 114, 98, 5, 10), 4108, [])],
  [(.aload_n 2, (1, 0, 2, 0, 0, 0), 0, []), (.aload_n 0, (1, 0, 0, 0, 0, 0), 0, []), (.iload_n 3, (1, 0, 3, 0, 0, 0), 0, []), (.iconst 1, (1, 0, 0, 0, 0, 0), 1, []), (.iadd, (1, 0, 0, 0, 0, 0), 0, []), (.iaload, (1, 0, 0, 0, 0, 0), 0, []), (.aload_n 0, (1, 0, 0, 0, 0, 0), 0, []), (.iload_n 3, (1, 0, 3, 0, 0, 0), 0, []), (.iconst 2, (1, 0, 0, 0, 0, 0), 2, []), (.iadd, (1, 0, 0, 0, 0, 0), 0, []), (.iaload, (1, 0, 0, 0, 0, 0), 0, []), (.aload_n 0, (1, 0, 0, 0, 0, 0), 0, []), (.iload_n 3, (1, 0, 3, 0, 0, 0), 0, []), (.iconst 3, (1, 0, 0, 0, 0, 0), 3, []), (.iadd, (1, 0, 0, 0, 0, 0), 0, []), (.iaload, (1, 0, 0, 0, 0, 0), 0, []), (.aload_n 0, (1, 0, 0, 0, 0, 0), 0, []), (.iload_n 3, (1, 0, 3, 0, 0, 0), 0, []), (.iconst 4, (1, 0, 0, 0, 0, 0), 4, []), (.iadd, (1, 0, 0, 0, 0, 0), 0, []), (.iaload, (1, 0, 0, 0, 0, 0), 0, []), (.invokevirtual 114, (3, 2, 196, 99, 5, 11), 6156, [])],
  [(.lcmp, (1, 0, 0, 0, 0, 0), 0, []), (.ifCond .eq 289, (3, 1, 133, 100, 0, 0), 0, [])],
  [(.iconst 0, (1, 0, 0, 0, 0, 0), 0, []), (.ireturn, (1, 3, 0, 0, 0, 1), 0, [])],
  [(.aload_n 1, (1, 0, 1, 0, 0, 0), 0, []), (.invokevirtual 115, (3, 2, 117, 102, 1, 10), 4112, [])],
  [(.aload_n 2, (1, 0, 2, 0, 0, 0), 0, []), (.invokevirtual 118, (3, 2, 197, 103, 1, 11), 6160, [])],
  [(.if_icmp .eq 276, (3, 1, 133, 104, 0, 0), 0, [])],
  [(.iconst 0, (1, 0, 0, 0, 0, 0), 0, []), (.ireturn, (1, 3, 0, 0, 0, 1), 0, [])],
  [(.aload_n 1, (1, 0, 1, 0, 0, 0), 0, []), (.invokevirtual 119, (3, 2, 118, 106, 1, 10), 4116, [])],
  [(.aload_n 2, (1, 0, 2, 0, 0, 0), 0, []), (.invokevirtual 122, (3, 2, 198, 107, 1, 11), 6164, [])],
  [(.if_icmp .eq 263, (3, 1, 133, 108, 0, 0), 0, [])],
  [(.iconst 0, (1, 0, 0, 0, 0, 0), 0, []), (.ireturn, (1, 3, 0, 0, 0, 1), 0, [])],
  [(.aload_n 1, (1, 0, 1, 0, 0, 0), 0, []), (.aload_n 0, (1, 0, 0, 0, 0, 0), 0, []), (.iload_n 3, (1, 0, 3, 0, 0, 0), 0, []), (.iconst 1, (1, 0, 0, 0, 0, 0), 1, []), (.iadd, (1, 0, 0, 0, 0, 0), 0, []), (.iaload, (1, 0, 0, 0, 0, 0), 0, []), (.invokevirtual 123, (3, 2, 119, 110, 2, 10), 4120, [])],
  [(.aload_n 2, (1, 0, 2, 0, 0, 0), 0, []), (.aload_n 0, (1, 0, 0, 0, 0, 0), 0, []), (.iload_n 3, (1, 0, 3, 0, 0, 0), 0, []), (.iconst 1, (1, 0, 0, 0, 0, 0), 1, []), (.iadd, (1, 0, 0, 0, 0, 0), 0, []), (.iaload, (1, 0, 0, 0, 0, 0), 0, []), (.invokevirtual 126, (3, 2, 199, 111, 2, 11), 6168, [])],
  [(.if_icmp .eq 240, (3, 1, 133, 112, 0, 0), 0, [])],
  [(.iconst 0, (1, 0, 0, 0, 0, 0), 0, []), (.ireturn, (1, 3, 0, 0, 0, 1), 0, [])],
  [(.aload_n 1, (1, 0, 1, 0, 0, 0), 0, []), (.aload_n 0, (1, 0, 0, 0, 0, 0), 0, []), (.iload_n 3, (1, 0, 3, 0, 0, 0), 0, []), (.iconst 1, (1, 0, 0, 0, 0, 0), 1, []), (.iadd, (1, 0, 0, 0, 0, 0), 0, []), (.iaload, (1, 0, 0, 0, 0, 0), 0, []), (.aload_n 0, (1, 0, 0, 0, 0, 0), 0, []), (.iload_n 3, (1, 0, 3, 0, 0, 0), 0, []), (.iconst 2, (1, 0, 0, 0, 0, 0), 2, []), (.iadd, (1, 0, 0, 0, 0, 0), 0, []), (.iaload, (1, 0, 0, 0, 0, 0), 0, []), (.aload_n 0, (1, 0, 0, 0, 0, 0), 0, []), (.iload_n 3, (1, 0, 3, 0, 0, 0), 0, []), (.iconst 3, (1, 0, 0, 0, 0, 0), 3, []), (.iadd, (1, 0, 0, 0, 0, 0), 0, []), (.iaload, (1, 0, 0, 0, 0, 0), 0, []), (.invokevirtual 127, (3, 2, 120, 114, 4, 10), 4124, [])],
  [(.aload_n 2, (1, 0, 2, 0, 0, 0), 0, []), (.aload_n 0, (1, 0, 0, 0, 0, 0), 0, []), (.iload_n 3, (1, 0, 3, 0, 0, 0), 0, []), (.iconst 1, (1, 0, 0, 0, 0, 0), 1, []), (.iadd, (1, 0, 0, 0, 0, 0), 0, []), (.iaload, (1, 0, 0, 0, 0, 0), 0, []), (.aload_n 0, (1, 0, 0, 0, 0, 0), 0, []), (.iload_n 3, (1, 0, 3, 0, 0, 0), 0, []), (.iconst 2, (1, 0, 0, 0, 0, 0), 2, []), (.iadd, (1, 0, 0, 0, 0, 0), 0, []), (.iaload, (1, 0, 0, 0, 0, 0), 0, []), (.aload_n 0, (1, 0, 0, 0, 0, 0), 0, []), (.iload_n 3, (1, 0, 3, 0, 0, 0), 0, []), (.iconst 3, (1, 0, 0, 0, 0, 0), 3, []), (.iadd, (1, 0, 0, 0, 0, 0), 0, []), (.iaload, (1, 0, 0, 0, 0, 0), 0, []), (.invokevirtual 130, (3, 2, 201, 115, 4, 11), 6172, [])],
  [(.if_icmp .eq 197, (3, 1, 133, 116, 0, 0), 0, [])],
  [(.iconst 0, (1, 0, 0, 0, 0, 0), 0, []), (.ireturn, (1, 3, 0, 0, 0, 1), 0, [])],
  [(.aload_n 1, (1, 0, 1, 0, 0, 0), 0, []), (.aload_n 0, (1, 0, 0, 0, 0, 0), 0, []), (.iload_n 3, (1, 0, 3, 0, 0, 0), 0, []), (.iconst 1, (1, 0, 0, 0, 0, 0), 1, []), (.iadd, (1, 0, 0, 0, 0, 0), 0, []), (.iaload, (1, 0, 0, 0, 0, 0), 0, []), (.aload_n 0, (1, 0, 0, 0, 0, 0), 0, []), (.iload_n 3, (1, 0, 3, 0, 0, 0), 0, []), (.iconst 2, (1, 0, 0, 0, 0, 0), 2, []), (.iadd, (1, 0, 0, 0, 0, 0), 0, []), (.iaload, (1, 0, 0, 0, 0, 0), 0, []), (.aload_n 0, (1, 0, 0, 0, 0, 0), 0, []), (.iload_n 3, (1, 0, 3, 0, 0, 0), 0, []), (.iconst 3, (1, 0, 0, 0, 0, 0), 3, []), (.iadd, (1, 0, 0, 0, 0, 0), 0, []), (.iaload, (1, 0, 0, 0, 0, 0), 0, []), (.invokevirtual 131, (3, 2, 121, 118, 4, 10), 4136, [])],
  [(.aload_n 2, (1, 0, 2, 0, 0, 0), 0, []), (.aload_n 0, (1, 0, 0, 0, 0, 0), 0, []), (.iload_n 3, (1, 0, 3, 0, 0, 0), 0, []), (.iconst 1, (1, 0, 0, 0, 0, 0), 1, []), (.iadd, (1, 0, 0, 0, 0, 0), 0, []), (.iaload, (1, 0, 0, 0, 0, 0), 0, []), (.aload_n 0, (1, 0, 0, 0, 0, 0), 0, []), (.iload_n 3, (1, 0, 3, 0, 0, 0), 0, []), (.iconst 2, (1, 0, 0, 0, 0, 0), 2, []), (.iadd, (1, 0, 0, 0, 0, 0), 0, []), (.iaload, (1, 0, 0, 0, 0, 0), 0, []), (.aload_n 0, (1, 0, 0, 0, 0, 0), 0, []), (.iload_n 3, (1, 0, 3, 0, 0, 0), 0, []), (.iconst 3, (1, 0, 0, 0, 0, 0), 3, []), (.iadd, (1, 0, 0, 0, 0, 0), 0, []), (.iaload, (1, 0, 0, 0, 0, 0), 0, []), (.invokevirtual 134, (3, 2, 202, 119, 4, 11), 6176, [])],
  [(.if_icmp .eq 154, (3, 1, 133, 120, 0, 0), 0, [])],
  [(.iconst 0, (1, 0, 0, 0, 0, 0), 0, []), (.ireturn, (1, 3, 0, 0, 0, 1), 0, [])],
  [(.aload_n 1, (1, 0, 1, 0, 0, 0), 0, []), (.aload_n 0, (1, 0, 0, 0, 0, 0), 0, []), (.iload_n 3, (1, 0, 3, 0, 0, 0), 0, []), (.iconst 1, (1, 0, 0, 0, 0, 0), 1, []), (.iadd, (1, 0, 0, 0, 0, 0), 0, []), (.iaload, (1, 0, 0, 0, 0, 0), 0, []), (.aload_n 0, (1, 0, 0, 0, 0, 0), 0, []), (.iload_n 3, (1, 0, 3, 0, 0, 0), 0, []), (.iconst 2, (1, 0, 0, 0, 0, 0), 2, []), (.iadd, (1, 0, 0, 0, 0, 0), 0, []), (.iaload, (1, 0, 0, 0, 0, 0), 0, []), (.aload_n 0, (1, 0, 0, 0, 0, 0), 0, []), (.iload_n 3, (1, 0, 3, 0, 0, 0), 0, []), (.iconst 3, (1, 0, 0, 0, 0, 0), 3, []), (.iadd, (1, 0, 0, 0, 0, 0), 0, []), (.iaload, (1, 0, 0, 0, 0, 0), 0, []), (.aload_n 0, (1, 0, 0, 0, 0, 0), 0, []), (.iload_n 3, (1, 0, 3, 0, 0, 0), 0, []), (.iconst 4, (1, 0, 0, 0, 0, 0), 4, []), (.iadd, (1, 0, 0, 0, 0, 0), 0, []), (.iaload, (1, 0, 0, 0, 0, 0), 0, []), (.aload_n 0, (1, 0, 0, 0, 0, 0), 0, []), (.iload_n 3, (1, 0, 3, 0, 0, 0), 0, []), (.iconst 5, (1, 0, 0, 0, 0, 0), 5, []), (.iadd, (1, 0, 0, 0, 0, 0), 0, []), (.iaload, (1, 0, 0, 0, 0, 0), 0, []), (.invokevirtual 135, (3, 2, 122, 122, 6, 10), 4148, [])],
  [(.aload_n 2, (1, 0, 2, 0, 0, 0), 0, []), (.aload_n 0, (1, 0, 0, 0, 0, 0), 0, []), (.iload_n 3, (1, 0, 3, 0, 0, 0), 0, []), (.iconst 1, (1, 0, 0, 0, 0, 0), 1, []), (.iadd, (1, 0, 0, 0, 0, 0), 0, []), (.iaload, (1, 0, 0, 0, 0, 0), 0, []), (.aload_n 0, (1, 0, 0, 0, 0, 0), 0, []), (.iload_n 3, (1, 0, 3, 0, 0, 0), 0, []), (.iconst 2, (1, 0, 0, 0, 0, 0), 2, []), (.iadd, (1, 0, 0, 0, 0, 0), 0, []), (.iaload, (1, 0, 0, 0, 0, 0), 0, []), (.aload_n 0, (1, 0, 0, 0, 0, 0), 0, []), (.iload_n 3, (1, 0, 3, 0, 0, 0), 0, []), (.iconst 3, (1, 0, 0, 0, 0, 0), 3, []), (.iadd, (1, 0, 0, 0, 0, 0), 0, []), (.iaload, (1, 0, 0, 0, 0, 0), 0, []), (.aload_n 0, (1, 0, 0, 0, 0, 0), 0, []), (.iload_n 3, (1, 0, 3, 0, 0, 0), 0, []), (.iconst 4, (1, 0, 0, 0, 0, 0), 4, []), (.iadd, (1, 0, 0, 0, 0, 0), 0, []), (.iaload, (1, 0, 0, 0, 0, 0), 0, []), (.aload_n 0, (1, 0, 0, 0, 0, 0), 0, []), (.iload_n 3, (1, 0, 3, 0, 0, 0), 0, []), (.iconst 5, (1, 0, 0, 0, 0, 0), 5, []), (.iadd, (1, 0, 0, 0, 0, 0), 0, []), (.iaload, (1, 0, 0, 0, 0, 0), 0, []), (.invokevirtual 139, (3, 2, 203, 123, 6, 11), 6180, [])],
  [(.if_icmp .eq 91, (3, 1, 133, 124, 0, 0), 0, [])],
  [(.iconst 0, (1, 0, 0, 0, 0, 0), 0, []), (.ireturn, (1, 3, 0, 0, 0, 1), 0, [])],
  [(.aload_n 1, (1, 0, 1, 0, 0, 0), 0, []), (.aload_n 0, (1, 0, 0, 0, 0, 0), 0, []), (.iload_n 3, (1, 0, 3, 0, 0, 0), 0, []), (.iconst 1, (1, 0, 0, 0, 0, 0), 1, []), (.iadd, (1, 0, 0, 0, 0, 0), 0, []), (.iaload, (1, 0, 0, 0, 0, 0), 0, []), (.aload_n 0, (1, 0, 0, 0, 0, 0), 0, []), (.iload_n 3, (1, 0, 3, 0, 0, 0), 0, []), (.iconst 2, (1, 0, 0, 0, 0, 0), 2, []), (.iadd, (1, 0, 0, 0, 0, 0), 0, []), (.iaload, (1, 0, 0, 0, 0, 0), 0, []), (.aload_n 0, (1, 0, 0, 0, 0, 0), 0, []), (.iload_n 3, (1, 0, 3, 0, 0, 0), 0, []), (.iconst 3, (1, 0, 0, 0, 0, 0), 3, []), (.iadd, (1, 0, 0, 0, 0, 0), 0, []), (.iaload, (1, 0, 0, 0, 0, 0), 0, []), (.aload_n 0, (1, 0, 0, 0, 0, 0), 0, []), (.iload_n 3, (1, 0, 3, 0, 0, 0), 0, []), (.iconst 4, (1, 0, 0, 0, 0, 0), 4, []), (.iadd, (1, 0, 0, 0, 0, 0), 0, []), (.iaload, (1, 0, 0, 0, 0, 0), 0, []), (.invokevirtual 140, (3, 2, 123, 126, 5, 10), 4156, [])],
  [(.aload_n 2, (1, 0, 2, 0, 0, 0), 0, []), (.aload_n 0, (1, 0, 0, 0, 0, 0), 0, []), (.iload_n 3, (1, 0, 3, 0, 0, 0), 0, []), (.iconst 1, (1, 0, 0, 0, 0, 0), 1, []), (.iadd, (1, 0, 0, 0, 0, 0), 0, []), (.iaload, (1, 0, 0, 0, 0, 0), 0, []), (.aload_n 0, (1, 0, 0, 0, 0, 0), 0, []), (.iload_n 3, (1, 0, 3, 0, 0, 0), 0, []), (.iconst 2, (1, 0, 0, 0, 0, 0), 2, []), (.iadd, (1, 0, 0, 0, 0, 0), 0, []), (.iaload, (1, 0, 0, 0, 0, 0), 0, []), (.aload_n 0, (1, 0, 0, 0, 0, 0), 0, []), (.iload_n 3, (1, 0, 3, 0, 0, 0), 0, []), (.iconst 3, (1, 0, 0, 0, 0, 0), 3, []), (.iadd, (1, 0, 0, 0, 0, 0), 0, []), (.iaload, (1, 0, 0, 0, 0, 0), 0, []), (.aload_n 0, (1, 0, 0, 0, 0, 0), 0, []), (.iload_n 3, (1, 0, 3, 0, 0, 0), 0, []), (.iconst 4, (1, 0, 0, 0, 0, 0), 4, []), (.iadd, (1, 0, 0, 0, 0, 0), 0, []), (.iaload, (1, 0, 0, 0, 0, 0), 0, []), (.invokevirtual 144, (3, 2, 204, 127, 5, 11), 6184, [])],
  [(.if_icmp .eq 38, (3, 1, 133, 128, 0, 0), 0, [])],
  [(.iconst 0, (1, 0, 0, 0, 0, 0), 0, []), (.ireturn, (1, 3, 0, 0, 0, 1), 0, [])],
  [(.aload_n 1, (1, 0, 1, 0, 0, 0), 0, []), (.aload_n 0, (1, 0, 0, 0, 0, 0), 0, []), (.iload_n 3, (1, 0, 3, 0, 0, 0), 0, []), (.iconst 1, (1, 0, 0, 0, 0, 0), 1, []), (.iadd, (1, 0, 0, 0, 0, 0), 0, []), (.iaload, (1, 0, 0, 0, 0, 0), 0, []), (.aload_n 0, (1, 0, 0, 0, 0, 0), 0, []), (.iload_n 3, (1, 0, 3, 0, 0, 0), 0, []), (.iconst 2, (1, 0, 0, 0, 0, 0), 2, []), (.iadd, (1, 0, 0, 0, 0, 0), 0, []), (.iaload, (1, 0, 0, 0, 0, 0), 0, []), (.invokevirtual 145, (3, 2, 124, 130, 3, 10), 4160, [])],
  [(.aload_n 2, (1, 0, 2, 0, 0, 0), 0, []), (.aload_n 0, (1, 0, 0, 0, 0, 0), 0, []), (.iload_n 3, (1, 0, 3, 0, 0, 0), 0, []), (.iconst 1, (1, 0, 0, 0, 0, 0), 1, []), (.iadd, (1, 0, 0, 0, 0, 0), 0, []), (.iaload, (1, 0, 0, 0, 0, 0), 0, []), (.aload_n 0, (1, 0, 0, 0, 0, 0), 0, []), (.iload_n 3, (1, 0, 3, 0, 0, 0), 0, []), (.iconst 2, (1, 0, 0, 0, 0, 0), 2, []), (.iadd, (1, 0, 0, 0, 0, 0), 0, []), (.iaload, (1, 0, 0, 0, 0, 0), 0, []), (.invokevirtual 148, (3, 2, 206, 131, 3, 11), 6189, [])],
  [(.if_icmp .eq 5, (3, 1, 133, 132, 0, 0), 0, [])],
  [(.iconst 0, (1, 0, 0, 0, 0, 0), 0, []), (.ireturn, (1, 3, 0, 0, 0, 1), 0, [])],
  [(.iinc 3 6, (3, 0, 3, 0, 0, 0), 6, []), (.goto (-1109), (3, 1, 3, 0, 0, 0), 0, [])],
  [(.iconst 1, (1, 0, 0, 0, 0, 0), 1, []), (.ireturn, (1, 3, 0, 0, 0, 1), 0, [])]]
/-- java/lang/String.length()I -/
noncomputable def bk_208 : List (List am_P) := [[(.aload_n 0, (1, 0, 0, 0, 0, 0), 0, []), (.getfield 9, (3, 0, 26, 1, 6196, 1), 0, []), (.arraylength, (1, 0, 0, 0, 0, 0), 0, []), (.aload_n 0, (1, 0, 0, 0, 0, 0), 0, []), (.invokevirtual 335, (3, 2, 210, 1, 1, 27), 2195, [])],
  [(.ishr, (1, 0, 0, 0, 0, 0), 0, []), (.ireturn, (1, 3, 0, 0, 0, 0), 0, [])]]
/-- java/lang/String.charAt(I)C -/
noncomputable def bk_209 : List (List am_P) := [[(.aload_n 0, (1, 0, 0, 0, 0, 0), 0, []), (.invokevirtual 492, (3, 2, 211, 1, 1, 27), 2205, [])],
  [(.ifCond .eq 12, (3, 1, 4, 2, 0, 0), 0, [])],
  [(.aload_n 0, (1, 0, 0, 0, 0, 0), 0, []), (.getfield 9, (3, 0, 26, 1, 6196, 1), 0, []), (.iload_n 1, (1, 0, 1, 0, 0, 0), 0, []), (.invokestatic 495, (3, 2, 213, 3, 2, 0), 2209, [])],
  [(.ireturn, (1, 3, 0, 0, 0, 2), 0, [])],
  [(.aload_n 0, (1, 0, 0, 0, 0, 0), 0, []), (.getfield 9, (3, 0, 26, 1, 6196, 1), 0, []), (.iload_n 1, (1, 0, 1, 0, 0, 0), 0, []), (.invokestatic 498, (3, 2, 9999, 5, 0, 0), 0, [])],
  [(.ireturn, (1, 3, 0, 0, 0, 2), 0, [])]]
/-- java/lang/String.coder()B -/
noncomputable def bk_210 : List (List am_P) := [[(.getstatic 38, (3, 0, 1, 0, 2199, 0), 0, []), (.ifCond .eq 10, (3, 1, 2, 1, 0, 0), 0, [])],
  [(.aload_n 0, (1, 0, 0, 0, 0, 0), 0, []), (.getfield 15, (3, 0, 26, 0, 6197, 0), 0, []), (.goto 4, (3, 1, 3, 0, 0, 0), 0, [])],
  [(.iconst 1, (1, 0, 0, 0, 0, 0), 1, []), (.nop, (0, 1, 3, 0, 0, 0), 0, [])],
  [(.ireturn, (1, 3, 0, 0, 0, 3), 0, [])]]
/-- java/lang/String.isLatin1()Z -/
noncomputable def bk_211 : List (List am_P) := [[(.getstatic 38, (3, 0, 1, 0, 2199, 0), 0, []), (.ifCond .eq 14, (3, 1, 3, 1, 0, 0), 0, [])],
  [(.aload_n 0, (1, 0, 0, 0, 0, 0), 0, []), (.getfield 15, (3, 0, 26, 0, 6197, 0), 0, []), (.ifCond .ne 7, (3, 1, 3, 2, 0, 0), 0, [])],
  [(.iconst 1, (1, 0, 0, 0, 0, 0), 1, []), (.goto 4, (3, 1, 4, 0, 0, 0), 0, [])],
  [(.iconst 0, (1, 0, 0, 0, 0, 0), 0, []), (.nop, (0, 1, 4, 0, 0, 0), 0, [])],
  [(.ireturn, (1, 3, 0, 0, 0, 1), 0, [])]]
/-- java/lang/String.checkIndex(II)V -/
noncomputable def bk_212 : List (List am_P) := [[(.iload_n 0, (1, 0, 0, 0, 0, 0), 0, []), (.iload_n 1, (1, 0, 1, 0, 0, 0), 0, []), (.getstatic 1053, (3, 0, 2, 0, 2215, 0), 0, []), (.invokestatic 1059, (3, 2, 216, 1, 3, 0), 2217, [])],
  [(.pop, (1, 0, 0, 0, 0, 0), 0, []), (.return_, (1, 3, 0, 0, 0, 0), 0, [])]]
/-- java/lang/StringLatin1.charAt([BI)C -/
noncomputable def bk_213 : List (List am_P) := [[(.iload_n 1, (1, 0, 1, 0, 0, 0), 0, []), (.aload_n 0, (1, 0, 0, 0, 0, 0), 0, []), (.arraylength, (1, 0, 0, 0, 0, 0), 0, []), (.invokestatic 9, (3, 2, 212, 1, 2, 0), 2212, [])],
  [(.aload_n 0, (1, 0, 0, 0, 0, 0), 0, []), (.iload_n 1, (1, 0, 1, 0, 0, 0), 0, []), (.baload, (1, 0, 25, 0, 0, 0), 0, []), (.sipush 255, (3, 0, 0, 0, 0, 0), 255, []), (.iand, (1, 0, 0, 0, 0, 0), 0, []), (.i2c, (1, 0, 0, 0, 0, 0), 0, []), (.ireturn, (1, 3, 0, 0, 0, 2), 0, [])]]
/-- java/util/Arrays.fill([II)V -/
noncomputable def bk_214 : List (List am_P) := [[(.iconst 0, (1, 0, 0, 0, 0, 0), 0, []), (.istore_n 2, (1, 0, 2, 0, 0, 0), 0, []), (.aload_n 0, (1, 0, 0, 0, 0, 0), 0, []), (.arraylength, (1, 0, 0, 0, 0, 0), 0, []), (.istore_n 3, (1, 0, 3, 0, 0, 0), 0, []), (.nop, (0, 1, 1, 0, 0, 0), 0, [])],
  [(.iload_n 2, (1, 0, 2, 0, 0, 0), 0, []), (.iload_n 3, (1, 0, 3, 0, 0, 0), 0, []), (.if_icmp .ge 13, (3, 1, 3, 2, 0, 0), 0, [])],
  [(.aload_n 0, (1, 0, 0, 0, 0, 0), 0, []), (.iload_n 2, (1, 0, 2, 0, 0, 0), 0, []), (.iload_n 1, (1, 0, 1, 0, 0, 0), 0, []), (.iastore, (1, 0, 0, 0, 0, 0), 0, []), (.iinc 2 1, (3, 0, 2, 0, 0, 0), 1, []), (.goto (-12), (3, 1, 1, 0, 0, 0), 0, [])],
  [(.return_, (1, 3, 0, 0, 0, 0), 0, [])]]
/-- java/util/Arrays.copyOf([II)[I -/
noncomputable def bk_215 : List (List am_P) := [[(.iload_n 1, (1, 0, 1, 0, 0, 0), 0, []), (.aload_n 0, (1, 0, 0, 0, 0, 0), 0, []), (.arraylength, (1, 0, 0, 0, 0, 0), 0, []), (.if_icmp .ne 11, (3, 1, 3, 1, 0, 0), 0, [])],
  [(.aload_n 0, (1, 0, 0, 0, 0, 0), 0, []), (.invokevirtual 316, (3, 2, 9999, 2, 0, 0), 0, [])],
  [(.checkcast 317, (3, 0, 0, 0, 0, 0), 0, []), (.areturn, (1, 3, 0, 0, 0, 0), 0, [])],
  [(.iload_n 1, (1, 0, 1, 0, 0, 0), 0, []), (.newarray .int, (2, 0, 20, 0, 0, 0), 0, []), (.astore_n 2, (1, 0, 2, 0, 0, 0), 0, []), (.aload_n 0, (1, 0, 0, 0, 0, 0), 0, []), (.iconst 0, (1, 0, 0, 0, 0, 0), 0, []), (.aload_n 2, (1, 0, 2, 0, 0, 0), 0, []), (.iconst 0, (1, 0, 0, 0, 0, 0), 0, []), (.aload_n 0, (1, 0, 0, 0, 0, 0), 0, []), (.arraylength, (1, 0, 0, 0, 0, 0), 0, []), (.iload_n 1, (1, 0, 1, 0, 0, 0), 0, []), (.invokestatic 304, (3, 0, 0, 0, 3055, 2), 0, []), (.invokestatic 150, (3, 0, 0, 0, 3058, 0), 0, []), (.aload_n 2, (1, 0, 2, 0, 0, 0), 0, []), (.areturn, (1, 3, 0, 0, 0, 0), 0, [])]]
/-- jdk/internal/util/Preconditions.checkIndex(IILjava/util/function/BiFunction;)I -/
noncomputable def bk_216 : List (List am_P) := [[(.iload_n 0, (1, 0, 0, 0, 0, 0), 0, []), (.ifCond .lt 8, (3, 1, 2, 1, 0, 0), 0, [])],
  [(.iload_n 0, (1, 0, 0, 0, 0, 0), 0, []), (.iload_n 1, (1, 0, 1, 0, 0, 0), 0, []), (.if_icmp .lt 10, (3, 1, 4, 2, 0, 0), 0, [])],
  [(.aload_n 2, (1, 0, 2, 0, 0, 0), 0, []), (.iload_n 0, (1, 0, 0, 0, 0, 0), 0, []), (.iload_n 1, (1, 0, 1, 0, 0, 0), 0, []), (.invokestatic 95, (3, 2, 9999, 3, 0, 0), 0, [])],
  [(.athrow, (1, 0, 0, 0, 0, 0), 0, []), (.nop, (0, 1, 4, 0, 0, 0), 0, [])],
  [(.iload_n 0, (1, 0, 0, 0, 0, 0), 0, []), (.ireturn, (1, 3, 0, 0, 0, 0), 0, [])]]
noncomputable def am_pg : List (List (List am_P)) := [bk_0, bk_1, bk_2, bk_3, bk_4, bk_5, bk_6, bk_7, bk_8, bk_9, bk_10, bk_11, bk_12, bk_13, bk_14, bk_15, bk_16, bk_17, bk_18, bk_19, bk_20, bk_21, bk_22, bk_23, bk_24, bk_25, bk_26, bk_27, bk_28, bk_29, bk_30, bk_31, bk_32, bk_33, bk_34, bk_35, bk_36, bk_37, bk_38, bk_39, bk_40, bk_41, bk_42, bk_43, bk_44, bk_45, bk_46, bk_47, bk_48, bk_49, bk_50, bk_51, bk_52, bk_53, bk_54, bk_55, bk_56, bk_57, bk_58, bk_59, bk_60, bk_61, bk_62, bk_63, bk_64, bk_65, bk_66, bk_67, bk_68, bk_69, bk_70, bk_71, bk_72, bk_73, bk_74, bk_75, bk_76, bk_77, bk_78, bk_79, bk_80, bk_81, bk_82, bk_83, bk_84, bk_85, bk_86, bk_87, bk_88, bk_89, bk_90, bk_91, bk_92, bk_93, bk_94, bk_95, bk_96, bk_97, bk_98, bk_99, bk_100, bk_101, bk_102, bk_103, bk_104, bk_105, bk_106, bk_107, bk_108, bk_109, bk_110, bk_111, bk_112, bk_113, bk_114, bk_115, bk_116, bk_117, bk_118, bk_119, bk_120, bk_121, bk_122, bk_123, bk_124, bk_125, bk_126, bk_127, bk_128, bk_129, bk_130, bk_131, bk_132, bk_133, bk_134, bk_135, bk_136, bk_137, bk_138, bk_139, bk_140, bk_141, bk_142, bk_143, bk_144, bk_145, bk_146, bk_147, bk_148, bk_149, bk_150, bk_151, bk_152, bk_153, bk_154, bk_155, bk_156, bk_157, bk_158, bk_159, bk_160, bk_161, bk_162, bk_163, bk_164, bk_165, bk_166, bk_167, bk_168, bk_169, bk_170, bk_171, bk_172, bk_173, bk_174, bk_175, bk_176, bk_177, bk_178, bk_179, bk_180, bk_181, bk_182, bk_183, bk_184, bk_185, bk_186, bk_187, bk_188, bk_189, bk_190, bk_191, bk_192, bk_193, bk_194, bk_195, bk_196, bk_197, bk_198, bk_199, bk_200, bk_201, bk_202, bk_203, bk_204, bk_205, bk_206, bk_207, bk_208, bk_209, bk_210, bk_211, bk_212, bk_213, bk_214, bk_215, bk_216]
noncomputable def am_blk (m b : Nat) : List am_P := (am_pg.getD m []).getD b []
/-- how many slots a method has -/
noncomputable def am_mx (m : Nat) : Nat := ([1, 1, 4, 4, 3, 6, 4, 2, 4, 7, 1, 3, 2, 2, 4, 1, 1, 1, 2, 2, 6, 3, 3, 2, 1, 2, 7, 7, 5, 5, 1, 3, 1, 6, 4, 3, 2, 7, 4, 1, 3, 1, 2, 3, 3, 1, 4, 3, 4, 5, 6, 5, 1, 1, 1, 2, 4, 5, 1, 2, 1, 2, 6, 2, 3, 4, 6, 4, 3, 3, 4, 4, 3, 4, 2, 3, 2, 2, 2, 1, 1, 2, 2, 3, 3, 2, 4, 2, 1, 2, 6, 3, 1, 3, 2, 4, 7, 3, 1, 1, 12, 3, 2, 6, 4, 4, 3, 5, 4, 5, 4, 2, 4, 3, 8, 1, 5, 2, 2, 2, 4, 4, 8, 9, 3, 1, 1, 6, 3, 1, 10, 2, 2, 6, 3, 4, 2, 3, 2, 2, 3, 1, 3, 9, 2, 1, 1, 2, 2, 4, 4, 3, 3, 3, 6, 2, 3, 6, 2, 4, 6, 6, 2, 7, 4, 2, 3, 4, 7, 5, 11, 3, 3, 7, 2, 3, 2, 3, 2, 2, 2, 7, 2, 5, 7, 3, 3, 3, 6, 6, 2, 6, 7, 6, 5, 3, 8, 2, 2, 2, 1, 5, 4, 9, 7, 1, 4, 4, 1, 2, 1, 1, 2, 2, 4, 3, 3] : List Nat).getD m 0
/-- where a block begins -/
noncomputable def am_pcs : List (List Nat) := [[0],
  [0],
  [0, 7, 13, 17, 20, 25, 27, 39],
  [0, 5, 12, 14, 52, 61, 66, 67, 72, 75, 87, 88, 98, 103, 111, 116, 119, 124],
  [0, 12, 16, 21],
  [0, 14, 21, 25, 43],
  [0, 4, 9, 18, 20, 26],
  [0],
  [0, 10, 43, 51],
  [0, 8, 12, 16, 35, 42, 52, 61, 91],
  [0, 11],
  [0, 4, 12, 24, 36],
  [0, 19, 26],
  [0],
  [0, 7, 23, 30, 37, 42, 46, 51, 58, 62, 72],
  [0],
  [0],
  [0, 7, 21, 31],
  [0, 10, 16, 22, 33],
  [0, 4, 8, 13, 17],
  [0, 7, 8, 13, 18, 19, 24, 28, 33, 39, 45, 46, 54, 59, 63, 66, 70, 76, 83, 87, 90, 94, 98, 104, 112, 118, 124],
  [0, 4, 9, 14, 18, 21, 27, 33, 39, 42, 48, 54, 60, 63, 68],
  [0, 5, 11, 15, 23],
  [0, 10, 30],
  [0, 68, 70, 72, 74, 76, 78],
  [0],
  [0, 5, 13, 21, 30, 31, 84, 87, 96, 99, 108, 116, 122, 128],
  [0, 2, 7, 10, 19, 31, 38, 46, 57, 60, 69, 79, 88, 94, 100],
  [0],
  [0, 13, 17, 18, 21, 31, 41, 42],
  [0, 7, 8, 34, 38, 45],
  [0, 2, 8, 18, 20, 26],
  [0, 8, 16],
  [0, 8, 13, 14, 17, 26, 32, 35, 43, 86, 92, 98, 99, 102, 125, 131],
  [0, 13, 26, 30, 31, 32, 36, 44, 57, 60, 66, 74, 78, 79],
  [0, 11, 36, 44, 52, 79],
  [0, 14, 22],
  [0, 8, 15, 16, 19, 28, 36, 56, 97, 120, 126],
  [0, 2, 10, 22, 23, 29, 36, 41],
  [0],
  [0, 14, 18],
  [0, 8, 12, 13],
  [0, 4, 12, 16, 17],
  [0, 4, 8, 16, 26, 30, 31],
  [0, 32, 36, 43, 47, 54, 58, 61],
  [0],
  [0, 9, 16, 24, 29, 41, 52, 66, 87, 95],
  [0, 13, 16, 24, 33, 36, 42, 51, 54, 62, 71, 74, 80],
  [0, 11, 14, 20, 21, 25, 28, 35, 40, 46, 47, 51, 54, 59, 61],
  [0, 5, 11, 33],
  [0, 8, 15, 18, 25, 30, 41, 50, 53, 59, 67, 69, 70, 79, 85],
  [0, 3, 9, 16, 30, 32, 38],
  [0, 6, 12, 16, 17],
  [0, 6, 12, 16, 17],
  [0, 104, 106],
  [0],
  [0],
  [0],
  [0, 8, 11, 17],
  [0, 8, 11, 17],
  [0, 8, 11, 17],
  [0],
  [0, 4, 10, 20, 26, 28, 41, 46, 56, 63, 70, 77, 82, 84, 108, 114, 119, 123, 124, 128, 133, 135, 138, 164, 165, 171, 176, 185, 186],
  [0, 6, 15, 16],
  [0, 60, 64, 68, 72, 73, 74, 78, 82, 86, 87, 88, 93, 97, 98, 99, 104, 108, 109, 110, 114, 118],
  [0],
  [0, 72, 87, 106, 188, 193, 200, 215, 218, 225, 238, 245, 248, 254, 267, 274, 283, 295, 308],
  [0, 32, 37, 38, 43, 44, 50, 51, 57, 58],
  [0, 5, 10, 13, 31],
  [0, 4, 10, 13, 31],
  [0, 5, 8, 12, 18, 21, 27, 37],
  [0, 4, 7, 11, 17, 20],
  [0, 28, 33, 36, 42, 48, 50, 51, 56, 59, 65, 71, 73, 74, 78, 81, 90, 92, 93],
  [0, 5, 8, 13, 16, 19],
  [0, 5, 8, 17, 19],
  [0, 4, 7, 11, 17, 20, 29, 32, 41, 54],
  [0, 4, 12, 16, 17],
  [0, 4, 12, 16, 17],
  [0, 4, 12, 16, 17],
  [0, 4, 10, 14, 15],
  [0, 4, 10, 14, 15],
  [0, 4, 11, 14, 27, 30],
  [0, 9, 12, 19, 32, 41, 43],
  [0, 4, 12, 15],
  [0, 5, 8, 12, 17, 20, 24, 52, 62, 72, 80],
  [0, 4, 9, 12, 16, 48, 55, 56, 63, 64, 72, 80, 84],
  [0, 5, 8, 12, 15, 19, 23, 37, 43, 59],
  [0, 4, 14, 17, 21, 24, 27, 31, 60, 68, 76],
  [0, 4, 7, 10, 14],
  [0, 4, 10, 13, 17, 20, 23, 27, 35],
  [0, 4, 9, 12, 21, 24, 31, 35, 44, 50, 58, 64, 70, 74, 78, 79],
  [0, 13, 26, 28, 36, 51, 57, 70, 77],
  [0, 5],
  [0, 13, 24, 26, 34, 44, 59, 65],
  [0, 2, 7, 12, 15, 19, 25],
  [0, 6, 9, 17, 23, 27, 29, 35],
  [0, 5, 14, 25, 31, 37, 50, 55, 61],
  [0, 4, 12, 25, 27, 33],
  [0, 17, 28, 35],
  [0, 4, 9, 13, 14],
  [0, 9, 17, 24, 45, 52, 56, 61, 65, 66],
  [0, 5, 8, 13, 18, 21, 24, 31, 34, 39, 46, 49, 55],
  [0, 5, 8, 11, 18, 21, 45],
  [0, 4, 9, 12, 19, 28, 36, 39, 46, 53, 59, 65, 71, 75, 79, 80],
  [0, 13, 24, 26, 34, 50, 68, 74],
  [0, 5, 10, 13, 16, 24, 26, 32, 45, 47, 55, 59, 65, 92, 98, 103, 114, 117, 123],
  [0, 4, 10, 19, 24, 39, 41, 47],
  [0, 11, 17, 41],
  [0, 4, 7, 11, 16, 19, 24, 29, 31, 40, 44, 47, 50, 67, 78, 88, 91, 94, 98, 108, 115],
  [0, 4, 7, 10, 15, 20, 22, 27, 36, 44, 47, 54, 57, 61, 64, 71, 77],
  [0, 4, 7, 10, 15, 20, 22, 24, 32, 37, 44, 47, 51, 54, 56, 62],
  [0, 6, 9, 12, 15, 21, 31, 35, 37],
  [0, 2, 10, 15, 30, 32, 38],
  [0, 4, 7, 13, 16, 18],
  [0, 5, 11, 15, 18, 23, 26, 30, 36, 42, 53, 63, 72],
  [0, 4, 10, 14, 15],
  [0, 15, 26, 29, 38, 72, 78, 85],
  [0, 90, 98, 112, 122],
  [0, 10, 13, 95, 103, 109, 127],
  [0, 40, 45, 50, 55, 60, 68, 73],
  [0, 4, 7, 12, 16, 19, 22, 27, 33, 38, 40, 46, 49, 53, 56, 62, 67],
  [0, 4, 7, 10, 16, 19, 22, 25, 31, 35, 38, 41, 47, 52],
  [0, 4, 7, 11, 14, 17, 23, 31, 38, 41, 46, 49, 52, 65, 68, 76, 79, 88, 91, 94, 99, 105],
  [0, 4, 7, 11, 14, 19, 26, 29, 35, 42, 45, 48, 57, 60, 66, 73, 82, 85, 88, 93, 106, 109, 115, 118, 130, 136],
  [0, 4, 7, 10, 15, 18, 21, 27, 31, 34, 40, 46, 48],
  [0, 4, 9, 13, 14],
  [0, 4, 9, 13, 14],
  [0, 6, 13, 17, 18],
  [0, 5, 9, 14, 18, 19],
  [0, 208, 230, 252, 274, 296, 318],
  [0],
  [0, 13],
  [0, 13],
  [0, 9, 12, 17, 22, 25, 30, 39, 42, 48, 52, 53, 57, 63, 68, 74, 79, 85, 88, 91, 94, 97, 101, 108, 113, 120, 125, 134, 140, 146, 154, 159, 167, 172, 182, 189, 192, 199, 204, 218],
  [0, 9, 12, 17, 22, 25, 28, 37, 40, 43, 47, 56, 61, 70, 76],
  [0, 13, 16, 21, 24, 27],
  [0, 13, 16, 25, 27],
  [0, 9, 12, 21, 24, 27, 36, 39],
  [0, 9, 12, 15, 25, 28],
  [0, 8, 22, 23],
  [0, 8, 13, 21, 26, 39, 55, 65, 81, 92, 95, 100, 108, 118, 121, 134, 145, 148, 160, 168, 178, 181, 187, 203, 212, 216, 235, 241, 245, 246, 252, 258, 264, 270, 276, 282, 288, 294, 300, 321],
  [0, 7, 20],
  [0, 13, 23, 27, 31, 35, 39, 43, 44],
  [0, 7, 15, 29, 35, 38, 44, 47, 53, 56, 63, 66, 73, 76, 83, 86, 94, 97, 105, 108, 112, 113],
  [0, 7, 15, 25, 29, 30],
  [0, 8, 12, 14, 28],
  [0, 16, 19, 24, 41, 44, 49, 65, 68, 73, 88, 91, 96, 112, 115, 120, 135, 138, 143, 147],
  [0, 8, 11, 15, 18, 22, 37, 43, 46, 50, 53, 57, 64, 67, 71, 88, 92, 95, 102, 110, 120, 123, 130, 138, 142, 150, 154, 157, 161],
  [0, 4, 5, 11, 14, 18, 23, 28],
  [0, 4, 5, 11, 14, 20, 23, 34, 38, 39, 44, 48, 53, 59, 62, 66],
  [0, 15, 18, 22, 25, 27, 31, 46, 50, 51, 52, 56, 63, 66, 72, 75, 77, 88, 92, 93, 98, 102, 107, 112, 115, 120, 124, 125],
  [0, 4, 5, 20, 23, 27, 31, 36, 40, 44, 45, 49],
  [0, 4, 5, 19, 22, 26, 30, 35, 39, 43, 44, 48],
  [0, 4, 8, 15, 19, 26, 30, 34, 41, 44, 48, 55, 59],
  [0, 38, 57, 60, 68, 72, 90, 93, 102, 106, 124, 127, 136, 143, 147, 151, 155, 160, 165, 167],
  [0, 9, 12, 14, 22, 49, 76, 84, 92],
  [0, 13, 16, 19],
  [0, 47, 53, 59, 62, 65],
  [0, 2, 9, 29],
  [0],
  [0, 8, 21, 37, 38],
  [0, 8, 21, 37, 38],
  [0, 2, 7, 27],
  [0, 8, 12, 16, 32, 42, 56, 65, 70, 72, 102],
  [0, 16, 24, 34, 43, 44, 55, 64, 65, 72],
  [0, 4, 8, 10, 18, 30, 36],
  [0, 5, 8, 17, 20, 23, 27, 31, 40, 45, 54, 71],
  [0, 2, 7, 13, 16, 24, 30, 34, 38, 44, 50],
  [0, 5, 14, 20, 26, 39, 51, 56, 57, 65],
  [0, 9, 12, 15, 20, 24, 25, 29, 34, 38, 42, 45, 50, 57, 61, 62, 66, 74, 97, 106, 112, 114, 122],
  [0, 6, 13, 31, 36, 43, 47],
  [0, 5, 8, 15, 18, 22, 26, 35, 41, 59],
  [0, 4, 12, 19, 32, 39, 43, 44],
  [0, 8, 12, 13, 32, 40, 48, 58, 85, 99, 129, 135],
  [0, 2, 10, 28, 30, 36],
  [0, 8, 12, 20, 24, 47, 51, 52, 59, 63, 81, 85, 86, 90, 93, 94, 98, 107, 115, 123, 134, 142, 143, 151, 159, 167, 178, 200],
  [0, 2, 10, 28],
  [0, 4, 8, 24, 28, 29, 37],
  [0, 9, 12, 17, 27, 30, 34, 37, 40, 46, 50, 57, 62, 69, 77],
  [0, 4, 7, 10, 16, 18, 26, 44],
  [0, 9, 12, 15, 19, 22, 25, 31],
  [0, 7, 10, 13, 22, 25, 42, 51, 81, 98, 105, 111, 117, 123, 137, 141, 142],
  [0, 11, 20, 33],
  [0, 8, 12, 16, 22, 27, 43],
  [0, 20, 29, 35, 40, 41, 47, 54, 62, 68, 77, 78, 84, 89, 94, 95, 101, 110, 127, 132, 134, 142],
  [0, 4, 8, 10, 18, 29, 42, 48],
  [0, 5, 8, 23, 26, 29, 34, 39, 43, 46, 52],
  [0, 5, 8, 11, 16, 18, 26, 44, 48],
  [0, 7, 10, 13, 20, 29, 35, 39, 46, 52, 58, 64, 68, 72, 73],
  [0, 5, 10, 13, 16, 18, 23, 36, 40, 48, 54, 60, 67, 76, 82, 99, 103, 109, 143, 148, 155, 173, 182, 193, 203, 204, 217, 227, 229, 237],
  [0, 4, 7, 10, 19, 22, 35, 39, 41],
  [0, 4, 7, 14, 17, 20, 25, 30, 32, 41, 45, 48, 51, 57, 61, 66, 73, 75, 81, 90, 111],
  [0, 5, 10, 12, 17, 26, 32, 38, 47, 52, 74, 78, 79, 87, 93, 97, 98, 109],
  [0, 5, 10, 12, 16, 18, 26, 30, 33, 42, 53, 67, 73, 79, 88, 93, 99, 121, 125, 126, 134, 139, 141, 147],
  [0, 4, 9, 18, 49, 55, 59],
  [0, 9, 12, 15, 19, 25],
  [0, 9, 12, 21, 24, 32, 35, 39, 43, 49, 55, 66, 76, 85],
  [0, 2, 8, 26, 28, 34, 52, 54, 60, 78],
  [0, 8, 11, 13, 19, 37, 39, 45, 63, 65, 71, 89],
  [0, 9, 12, 15, 20, 24, 31, 36, 43, 47, 48, 53, 60, 65, 72, 76],
  [0, 9],
  [0, 4, 7, 18, 21, 25, 31, 34, 38, 42, 45, 54, 58, 59, 77, 83, 87, 106],
  [0, 4, 7, 10, 19, 22, 37, 40, 43, 62, 67, 77, 82, 83],
  [0, 4, 7, 11, 14, 17, 26, 35, 38, 53, 56, 61, 65, 70, 83, 97, 100, 105, 111, 115, 116, 121, 128, 133, 143, 145, 182],
  [0, 4, 7, 16, 19, 29, 32, 35, 44, 54, 57, 66, 69, 75, 82, 86, 101, 104, 126, 129, 133, 134, 143],
  [0, 4, 8, 13, 17, 22, 27, 31, 32],
  [0, 9, 12, 15, 20, 23, 26, 33, 38, 43, 47, 51, 56, 65, 67],
  [0, 7, 15, 18, 27, 176, 195, 214, 217, 219, 233, 247, 250, 252, 266, 280, 283, 285, 294, 303, 306, 308, 322, 336, 339, 341, 350, 359, 362, 364, 368, 372, 375, 377, 386, 395, 398, 400, 414, 428, 431, 433, 442, 451, 454, 456, 470, 484, 488, 490, 499, 508, 511, 513, 517, 521, 524, 526, 535, 544, 547, 549, 558, 567, 570, 572, 586, 600, 603, 605, 614, 623, 626, 628, 637, 646, 649, 651, 660, 669, 672, 674, 688, 702, 705, 707, 716, 725, 728, 730, 739, 748, 751, 753, 767, 781, 784, 786, 810, 834, 838, 840, 844, 848, 851, 853, 857, 861, 864, 866, 875, 884, 887, 889, 908, 927, 930, 932, 951, 970, 973, 975, 1004, 1033, 1036, 1038, 1062, 1086, 1089, 1091, 1105, 1119, 1122, 1124, 1130],
  [0, 9],
  [0, 4, 7, 15, 16, 24],
  [0, 6, 13, 14],
  [0, 6, 13, 17, 18],
  [0, 8],
  [0, 6],
  [0, 5, 10, 20],
  [0, 6, 10, 14],
  [0, 4, 9, 15, 16]]
end
section
/-! THE RUN. Fuel n counts blocks, d the calls that may stand open. -/
noncomputable def am_isV (v : Value) : Bool := am_isT 0 v || (am_isT 1 v || am_isT 2 v)
/-- what a call hands over fits -/
noncomputable def am_okA (y : Nat) (as : List Value) : Bool := Nat.ble (am_sl as).length (am_mx y) && as.all am_isV
noncomputable def am_run : Nat → Nat → Nat → Nat → am_M → am_L → List Value → Option am_V
  | 0, _, _, _, _, _, _ => none
  | n + 1, d, m, b, M, L, S => am_ex d (fun b' M' L' S' => am_run n d m b' M' L' S') (fun y M' as => match d with | 0 => none | e + 1 => cond (am_okA y as) (am_run n e y 0 M' (am_in (am_mx y) as) []) none) (am_blk m b) true M L S
theorem am_ex_cons (d : Nat) (J : Nat → am_M → am_L → List Value → Option am_V) (C : Nat → am_M → List Value → Option am_V) (i : am_P) (is : List am_P) : am_ex d J C (i :: is) = am_st d J C i (am_ex d J C is) := rfl
theorem am_ex_nil (d : Nat) (J : Nat → am_M → am_L → List Value → Option am_V) (C : Nat → am_M → List Value → Option am_V) (f : Bool) (M : am_M) (L : am_L) (S : List Value) : am_ex d J C [] f M L S = none := rfl
/-- more answers behind, more answers ahead -/
theorem am_ex_mono {d : Nat} {J J' : Nat → am_M → am_L → List Value → Option am_V} {C C' : Nat → am_M → List Value → Option am_V} (hJ : ∀ b M L S v, J b M L S = some v → J' b M L S = some v) (hC : ∀ y M as v, C y M as = some v → C' y M as = some v) : ∀ (is : List am_P) (f : Bool) (M : am_M) (L : am_L) (S : List Value) (v : am_V), am_ex d J C is f M L S = some v → am_ex d J' C' is f M L S = some v := by
  intro is
  induction is with
  | nil => intro f M L S v h; exact h
  | cons i is ih =>
    intro f M L S v h
    rw [am_ex_cons] at h ⊢
    unfold am_st at h ⊢
    generalize am_srt i = s at h ⊢
    rcases s with _ | _ | _ | s
    · unfold am_sS at h ⊢
      cases hq : am_s1 d i M L S with
      | none => rw [hq] at h; cases h
      | some q => rw [hq] at h; exact ih _ _ _ _ _ h
    · unfold am_sS at h ⊢
      cases hq : am_s2 i S with
      | none => rw [hq] at h; cases h
      | some q =>
        rw [hq] at h
        cases f with
        | false => cases h
        | true => exact hJ _ _ _ _ _ h
    · unfold am_sS at h ⊢
      cases hq : am_s3 i M S with
      | none => rw [hq] at h; cases h
      | some q =>
        rw [hq] at h
        simp only [Option.bind_some] at h ⊢
        cases hf : (q.1 && f) with
        | false => rw [hf] at h; cases h
        | true =>
          rw [hf] at h
          simp only [cond_true] at h ⊢
          cases hc : C (am_x i) M q.2.1 with
          | none => rw [hc] at h; cases h
          | some r =>
            rw [hc] at h
            rw [hC _ _ _ _ hc]
            exact hJ _ _ _ _ _ h
    · exact h
theorem am_run_mono1 : ∀ (n d m b : Nat) (M : am_M) (L : am_L) (S : List Value) (v : am_V), am_run n d m b M L S = some v → am_run (n + 1) d m b M L S = some v := by
  intro n
  induction n with
  | zero => intro d m b M L S v h; cases h
  | succ n ih =>
    intro d m b M L S v h
    rw [am_run] at h ⊢
    refine am_ex_mono (fun b M L S v h => ih _ _ _ _ _ _ _ h) (fun y M as v h => ?_) _ _ _ _ _ _ h
    cases d with
    | zero => cases h
    | succ e =>
      cases hk : am_okA y as with
      | false => simp only [hk, cond_false] at h; cases h
      | true =>
        simp only [hk, cond_true] at h ⊢
        exact ih _ _ _ _ _ _ _ h
theorem am_run_mono {n n' : Nat} (hn : n ≤ n') {d m b : Nat} {M : am_M} {L : am_L} {S : List Value} {v : am_V} (h : am_run n d m b M L S = some v) : am_run n' d m b M L S = some v := by
  induction hn with
  | refl => exact h
  | step _ ih => exact am_run_mono1 _ _ _ _ _ _ _ _ ih
noncomputable def am_R (d m b : Nat) (M : am_M) (L : am_L) (S : List Value) : Option am_V := Classical.epsilon (fun o => (∃ n, am_run n d m b M L S = o ∧ o.isSome) ∨ (o = none ∧ ∀ n, am_run n d m b M L S = none))
theorem am_R_spec (d m b : Nat) (M : am_M) (L : am_L) (S : List Value) : (∃ n, am_run n d m b M L S = am_R d m b M L S ∧ (am_R d m b M L S).isSome) ∨ (am_R d m b M L S = none ∧ ∀ n, am_run n d m b M L S = none) := by
  refine Classical.epsilon_spec (p := fun o => (∃ n, am_run n d m b M L S = o ∧ o.isSome) ∨ (o = none ∧ ∀ n, am_run n d m b M L S = none)) ?_
  by_cases h : ∃ n, (am_run n d m b M L S).isSome
  · obtain ⟨n, hn⟩ := h
    exact ⟨_, Or.inl ⟨n, rfl, hn⟩⟩
  · refine ⟨none, Or.inr ⟨rfl, fun n => ?_⟩⟩
    cases hr : am_run n d m b M L S with
    | none => rfl
    | some v => exact absurd ⟨n, by rw [hr]; rfl⟩ h
theorem am_R_some {d m b : Nat} {M : am_M} {L : am_L} {S : List Value} {v : am_V} (h : am_R d m b M L S = some v) : ∃ n, am_run n d m b M L S = some v := by
  rcases am_R_spec d m b M L S with ⟨n, h1, -⟩ | ⟨h1, -⟩
  · exact ⟨n, h1.trans h⟩
  · rw [h] at h1; cases h1
theorem am_R_of {n d m b : Nat} {M : am_M} {L : am_L} {S : List Value} {v : am_V} (h : am_run n d m b M L S = some v) : am_R d m b M L S = some v := by
  rcases am_R_spec d m b M L S with ⟨k, h1, h2⟩ | ⟨-, h1⟩
  · cases hr : am_R d m b M L S with
    | none => rw [hr] at h2; cases h2
    | some w =>
      rw [hr] at h1
      have e1 := am_run_mono (Nat.le_max_left n k) h
      have e2 := am_run_mono (Nat.le_max_right n k) h1
      rw [e1] at e2
      exact e2.symm
  · rw [h1 n] at h; cases h
/-- what a call answers -/
noncomputable def am_C (d y : Nat) (M : am_M) (as : List Value) : Option am_V := match d with
  | 0 => none
  | e + 1 => cond (am_okA y as) (am_R e y 0 M (am_in (am_mx y) as) []) none
/-- finitely many answers behind an answer: one fuel for all of them -/
theorem am_ex_fin {d m : Nat} : ∀ (is : List am_P) (f : Bool) (M : am_M) (L : am_L) (S : List Value) (v : am_V), am_ex d (am_R d m) (am_C d) is f M L S = some v → ∃ n, am_ex d (fun b' M' L' S' => am_run n d m b' M' L' S') (fun y M' as => match d with | 0 => none | e + 1 => cond (am_okA y as) (am_run n e y 0 M' (am_in (am_mx y) as) []) none) is f M L S = some v := by
  intro is
  induction is with
  | nil => intro f M L S v h; cases h
  | cons i is ih =>
    intro f M L S v h
    rw [am_ex_cons] at h
    simp only [am_ex_cons]
    unfold am_st at h ⊢
    generalize am_srt i = s at h ⊢
    rcases s with _ | _ | _ | s
    · unfold am_sS at h ⊢
      cases hq : am_s1 d i M L S with
      | none => rw [hq] at h; cases h
      | some q => rw [hq] at h; exact ih _ _ _ _ _ h
    · unfold am_sS at h ⊢
      cases hq : am_s2 i S with
      | none => rw [hq] at h; cases h
      | some q =>
        rw [hq] at h
        cases f with
        | false => cases h
        | true => exact am_R_some h
    · unfold am_sS at h ⊢
      cases hq : am_s3 i M S with
      | none => rw [hq] at h; cases h
      | some q =>
        rw [hq] at h
        simp only [Option.bind_some] at h ⊢
        cases hf : (q.1 && f) with
        | false => rw [hf] at h; cases h
        | true =>
          rw [hf] at h
          simp only [cond_true] at h ⊢
          cases hc : am_C d (am_x i) M q.2.1 with
          | none => rw [hc] at h; cases h
          | some r =>
            rw [hc] at h
            obtain ⟨n2, h2⟩ := am_R_some h
            cases d with
            | zero => cases hc
            | succ e =>
              cases hk : am_okA (am_x i) q.2.1 with
              | false => simp only [am_C, hk, cond_false] at hc; cases hc
              | true =>
                simp only [am_C, hk, cond_true] at hc
                obtain ⟨n1, h1⟩ := am_R_some hc
                refine ⟨max n1 n2, ?_⟩
                simp only [hk, cond_true, am_run_mono (Nat.le_max_left n1 n2) h1, Option.bind_some]
                exact am_run_mono (Nat.le_max_right n1 n2) h2
    · exact ⟨0, h⟩
/-- THE EQUATION OF A BLOCK -/
theorem am_R_eq (d m b : Nat) (M : am_M) (L : am_L) (S : List Value) : am_R d m b M L S = am_ex d (am_R d m) (am_C d) (am_blk m b) true M L S := by
  cases hr : am_ex d (am_R d m) (am_C d) (am_blk m b) true M L S with
  | some v =>
    obtain ⟨n, hn⟩ := am_ex_fin _ _ _ _ _ _ hr
    exact am_R_of (n := n + 1) (by rw [am_run]; exact hn)
  | none =>
    cases h : am_R d m b M L S with
    | none => rfl
    | some v =>
      obtain ⟨n, hn⟩ := am_R_some h
      cases n with
      | zero => cases hn
      | succ n =>
        rw [am_run] at hn
        have := am_ex_mono (J' := am_R d m) (C' := am_C d) (fun b M L S v h => am_R_of h) (fun y M as v h => by
          cases d with
          | zero => cases h
          | succ e =>
            cases hk : am_okA y as with
            | false => simp only [hk, cond_false] at h; cases h
            | true =>
              simp only [am_C, hk, cond_true] at h ⊢
              exact am_R_of h) _ _ _ _ _ _ hn
        rw [hr] at this
        cases this
theorem am_R_b {m b : Nat} {is : List am_P} (h : am_blk m b = is) (d : Nat) (M : am_M) (L : am_L) (S : List Value) : am_R d m b M L S = am_ex d (am_R d m) (am_C d) is true M L S := by rw [am_R_eq, h]
end
section
/-! TABLES: the classes, the methods by their numbers; what a program decides of each instruction -/
def TC0 : u_T := fun k => match k with
  | 0 => ("EvenlyPoured$Kept", "there", "Z", false)
  | 1 => ("EvenlyPoured$Kept", "cups", "I", false)
  | 2 => ("EvenlyPoured$Kept", "dribs", "I", false)
  | 3 => ("EvenlyPoured$Kept", "pourers", "I", false)
  | 4 => ("EvenlyPoured$Kept", "rule", "I", false)
  | 5 => ("EvenlyPoured$Kept", "row", "[I", true)
  | 6 => ("EvenlyPoured$Kept", "prices", "[I", true)
  | _ => ("EvenlyPoured$Kept", "numbers", "[I", true)
def tC0 : Nat → FieldType := fun k => match k with
  | 0 => .boolean
  | 1 => .int
  | 2 => .int
  | 3 => .int
  | 4 => .int
  | 5 => .array .int
  | 6 => .array .int
  | _ => .array .int
def TC1 : u_T := fun k => match k with
  | 0 => ("EvenlyPoured$Pourer", "kind", "I", false)
  | _ => ("EvenlyPoured$Pourer", "number", "I", false)
def tC1 : Nat → FieldType := fun k => match k with
  | 0 => .int
  | _ => .int
def TC2 : u_T := fun k => match k with
  | 0 => ("EvenlyPoured$Pouring", "teller", "LEvenlyPoured$Teller;", true)
  | 1 => ("EvenlyPoured$Pouring", "full", "[I", true)
  | 2 => ("EvenlyPoured$Pouring", "strength", "[I", true)
  | 3 => ("EvenlyPoured$Pouring", "cups", "I", false)
  | 4 => ("EvenlyPoured$Pouring", "dribs", "I", false)
  | 5 => ("EvenlyPoured$Pouring", "was", "I", false)
  | 6 => ("EvenlyPoured$Pouring", "changes", "I", false)
  | _ => ("EvenlyPoured$Pouring", "dripped", "I", false)
def tC2 : Nat → FieldType := fun k => match k with
  | 0 => .object "EvenlyPoured$Teller"
  | 1 => .array .int
  | 2 => .array .int
  | 3 => .int
  | 4 => .int
  | 5 => .int
  | 6 => .int
  | _ => .int
def TC3 : u_T := fun k => match k with
  | 0 => ("EvenlyPoured$Reader", "tape", "LEvenlyPoured$Tape;", true)
  | 1 => ("EvenlyPoured$Reader", "hand", "I", false)
  | 2 => ("EvenlyPoured$Reader", "faulty", "Z", false)
  | 3 => ("EvenlyPoured$Reader", "formula", "[I", true)
  | _ => ("EvenlyPoured$Reader", "length", "I", false)
def tC3 : Nat → FieldType := fun k => match k with
  | 0 => .object "EvenlyPoured$Tape"
  | 1 => .int
  | 2 => .boolean
  | 3 => .array .int
  | _ => .int
def TC4 : u_T := fun k => match k with
  | 0 => ("EvenlyPoured$Search", "teller", "LEvenlyPoured$Teller;", true)
  | 1 => ("EvenlyPoured$Search", "gains", "[I", true)
  | 2 => ("EvenlyPoured$Search", "full", "[I", true)
  | 3 => ("EvenlyPoured$Search", "strength", "[I", true)
  | 4 => ("EvenlyPoured$Search", "way", "[I", true)
  | 5 => ("EvenlyPoured$Search", "rule", "I", false)
  | 6 => ("EvenlyPoured$Search", "cups", "I", false)
  | 7 => ("EvenlyPoured$Search", "dribs", "I", false)
  | 8 => ("EvenlyPoured$Search", "each", "I", false)
  | 9 => ("EvenlyPoured$Search", "fullerMost", "I", false)
  | 10 => ("EvenlyPoured$Search", "evenestKnown", "Z", false)
  | 11 => ("EvenlyPoured$Search", "evenestRow", "[I", true)
  | 12 => ("EvenlyPoured$Search", "leastUneven", "I", false)
  | 13 => ("EvenlyPoured$Search", "changesThen", "I", false)
  | 14 => ("EvenlyPoured$Search", "leastBy", "[I", true)
  | 15 => ("EvenlyPoured$Search", "tasted", "I", false)
  | _ => ("EvenlyPoured$Search", "firstTasted", "I", false)
def tC4 : Nat → FieldType := fun k => match k with
  | 0 => .object "EvenlyPoured$Teller"
  | 1 => .array .int
  | 2 => .array .int
  | 3 => .array .int
  | 4 => .array .int
  | 5 => .int
  | 6 => .int
  | 7 => .int
  | 8 => .int
  | 9 => .int
  | 10 => .boolean
  | 11 => .array .int
  | 12 => .int
  | 13 => .int
  | 14 => .array .int
  | 15 => .int
  | _ => .int
def TC5 : u_T := fun k => match k with
  | 0 => ("EvenlyPoured$Sheet", "sort", "I", false)
  | 1 => ("EvenlyPoured$Sheet", "size", "I", false)
  | _ => ("EvenlyPoured$Sheet", "items", "[I", true)
def tC5 : Nat → FieldType := fun k => match k with
  | 0 => .int
  | 1 => .int
  | _ => .array .int
def TC6 : u_T := fun k => match k with
  | 0 => ("EvenlyPoured$Tape", "bytes", "[I", true)
  | 1 => ("EvenlyPoured$Tape", "size", "I", false)
  | 2 => ("EvenlyPoured$Tape", "tokens", "[I", true)
  | 3 => ("EvenlyPoured$Tape", "places", "[I", true)
  | _ => ("EvenlyPoured$Tape", "split", "I", false)
def tC6 : Nat → FieldType := fun k => match k with
  | 0 => .array .int
  | 1 => .int
  | 2 => .array .int
  | 3 => .array .int
  | _ => .int
def TC7 : u_T := fun k => match k with
  | 0 => ("EvenlyPoured$Teller", "names", "[I", true)
  | 1 => ("EvenlyPoured$Teller", "stack", "[I", true)
  | _ => ("EvenlyPoured$Teller", "text", "LEvenlyPoured$Text;", false)
def tC7 : Nat → FieldType := fun k => match k with
  | 0 => .array .int
  | 1 => .array .int
  | _ => .object "EvenlyPoured$Text"
def TC8 : u_T := fun k => match k with
  | 0 => ("EvenlyPoured$Text", "strong", "[I", true)
  | 1 => ("EvenlyPoured$Text", "drips", "[I", true)
  | _ => ("EvenlyPoured$Text", "liked", "[I", true)
def tC8 : Nat → FieldType := fun k => match k with
  | 0 => .array .int
  | 1 => .array .int
  | _ => .array .int
def TC9 : u_T := fun k => match k with
  | 0 => ("EvenlyPoured", "cups", "I", false)
  | 1 => ("EvenlyPoured", "dribs", "I", false)
  | 2 => ("EvenlyPoured", "row", "[I", true)
  | 3 => ("EvenlyPoured", "prices", "[I", true)
  | 4 => ("EvenlyPoured", "pourers", "[LEvenlyPoured$Pourer;", true)
  | 5 => ("EvenlyPoured", "pourersMade", "I", false)
  | 6 => ("EvenlyPoured", "texts", "[LEvenlyPoured$Text;", true)
  | 7 => ("EvenlyPoured", "textsMade", "I", false)
  | 8 => ("EvenlyPoured", "rule", "I", false)
  | 9 => ("EvenlyPoured", "tape", "LEvenlyPoured$Tape;", true)
  | 10 => ("EvenlyPoured", "reader", "LEvenlyPoured$Reader;", true)
  | 11 => ("EvenlyPoured", "sheets", "[LEvenlyPoured$Sheet;", true)
  | 12 => ("EvenlyPoured", "kept", "LEvenlyPoured$Kept;", true)
  | 13 => ("EvenlyPoured", "pouring", "LEvenlyPoured$Pouring;", true)
  | 14 => ("EvenlyPoured", "search", "LEvenlyPoured$Search;", true)
  | 15 => ("EvenlyPoured", "pouredRow", "[I", true)
  | 16 => ("EvenlyPoured", "had", "[I", true)
  | _ => ("EvenlyPoured", "gone", "[Z", true)
def tC9 : Nat → FieldType := fun k => match k with
  | 0 => .int
  | 1 => .int
  | 2 => .array .int
  | 3 => .array .int
  | 4 => .array (.object "EvenlyPoured$Pourer")
  | 5 => .int
  | 6 => .array (.object "EvenlyPoured$Text")
  | 7 => .int
  | 8 => .int
  | 9 => .object "EvenlyPoured$Tape"
  | 10 => .object "EvenlyPoured$Reader"
  | 11 => .array (.object "EvenlyPoured$Sheet")
  | 12 => .object "EvenlyPoured$Kept"
  | 13 => .object "EvenlyPoured$Pouring"
  | 14 => .object "EvenlyPoured$Search"
  | 15 => .array .int
  | 16 => .array .int
  | _ => .array .boolean
def TC10 : u_T := fun k => match k with
  | 0 => ("EvenlyPouredModel", "thrown", "I", false)
  | 1 => ("EvenlyPouredModel", "texts", "[I", true)
  | 2 => ("EvenlyPouredModel", "textSize", "[I", true)
  | 3 => ("EvenlyPouredModel", "textCount", "I", false)
  | 4 => ("EvenlyPouredModel", "rule", "I", false)
  | 5 => ("EvenlyPouredModel", "tape", "[I", true)
  | 6 => ("EvenlyPouredModel", "taped", "I", false)
  | 7 => ("EvenlyPouredModel", "cups", "I", false)
  | 8 => ("EvenlyPouredModel", "dribs", "I", false)
  | 9 => ("EvenlyPouredModel", "row", "[I", true)
  | 10 => ("EvenlyPouredModel", "kinds", "[I", true)
  | 11 => ("EvenlyPouredModel", "numbers", "[I", true)
  | 12 => ("EvenlyPouredModel", "pourers", "I", false)
  | 13 => ("EvenlyPouredModel", "prices", "[I", true)
  | 14 => ("EvenlyPouredModel", "ofDrib", "I", false)
  | 15 => ("EvenlyPouredModel", "ofDribs", "I", false)
  | 16 => ("EvenlyPouredModel", "ofCups", "I", false)
  | 17 => ("EvenlyPouredModel", "ofCup", "I", false)
  | 18 => ("EvenlyPouredModel", "ofFull", "I", false)
  | 19 => ("EvenlyPouredModel", "ofWas", "I", false)
  | 20 => ("EvenlyPouredModel", "from", "I", false)
  | 21 => ("EvenlyPouredModel", "size", "I", false)
  | 22 => ("EvenlyPouredModel", "here", "I", false)
  | 23 => ("EvenlyPouredModel", "token", "I", false)
  | 24 => ("EvenlyPouredModel", "tokenAt", "I", false)
  | 25 => ("EvenlyPouredModel", "tokenWorth", "J", false)
  | 26 => ("EvenlyPouredModel", "open", "I", false)
  | 27 => ("EvenlyPouredModel", "bad", "Z", false)
  | 28 => ("EvenlyPouredModel", "fault", "I", false)
  | 29 => ("EvenlyPouredModel", "strongNote", "[I", true)
  | 30 => ("EvenlyPouredModel", "dripsNote", "[I", true)
  | 31 => ("EvenlyPouredModel", "fulls", "[I", true)
  | 32 => ("EvenlyPouredModel", "strengths", "[I", true)
  | 33 => ("EvenlyPouredModel", "last", "I", false)
  | 34 => ("EvenlyPouredModel", "changes", "I", false)
  | 35 => ("EvenlyPouredModel", "dripped", "I", false)
  | 36 => ("EvenlyPouredModel", "way", "[I", true)
  | 37 => ("EvenlyPouredModel", "bestWay", "[I", true)
  | 38 => ("EvenlyPouredModel", "bestUneven", "I", false)
  | 39 => ("EvenlyPouredModel", "bestChanges", "I", false)
  | 40 => ("EvenlyPouredModel", "sought", "I", false)
  | 41 => ("EvenlyPouredModel", "told1", "I", false)
  | 42 => ("EvenlyPouredModel", "found", "I", false)
  | 43 => ("EvenlyPouredModel", "havings", "[I", true)
  | 44 => ("EvenlyPouredModel", "rowKept", "[I", true)
  | 45 => ("EvenlyPouredModel", "pricesKept", "[I", true)
  | 46 => ("EvenlyPouredModel", "numbersKept", "[I", true)
  | 47 => ("EvenlyPouredModel", "dribsKept", "I", false)
  | 48 => ("EvenlyPouredModel", "cupsKept", "I", false)
  | 49 => ("EvenlyPouredModel", "pourersKept", "I", false)
  | 50 => ("EvenlyPouredModel", "ruleKept", "I", false)
  | 51 => ("EvenlyPouredModel", "isThere", "[Z", true)
  | 52 => ("EvenlyPouredModel", "sorts", "[I", true)
  | 53 => ("EvenlyPouredModel", "sheetSize", "[I", true)
  | _ => ("EvenlyPouredModel", "items", "[I", true)
def tC10 : Nat → FieldType := fun k => match k with
  | 0 => .int
  | 1 => .array .int
  | 2 => .array .int
  | 3 => .int
  | 4 => .int
  | 5 => .array .int
  | 6 => .int
  | 7 => .int
  | 8 => .int
  | 9 => .array .int
  | 10 => .array .int
  | 11 => .array .int
  | 12 => .int
  | 13 => .array .int
  | 14 => .int
  | 15 => .int
  | 16 => .int
  | 17 => .int
  | 18 => .int
  | 19 => .int
  | 20 => .int
  | 21 => .int
  | 22 => .int
  | 23 => .int
  | 24 => .int
  | 25 => .long
  | 26 => .int
  | 27 => .boolean
  | 28 => .int
  | 29 => .array .int
  | 30 => .array .int
  | 31 => .array .int
  | 32 => .array .int
  | 33 => .int
  | 34 => .int
  | 35 => .int
  | 36 => .array .int
  | 37 => .array .int
  | 38 => .int
  | 39 => .int
  | 40 => .int
  | 41 => .int
  | 42 => .int
  | 43 => .array .int
  | 44 => .array .int
  | 45 => .array .int
  | 46 => .array .int
  | 47 => .int
  | 48 => .int
  | 49 => .int
  | 50 => .int
  | 51 => .array .boolean
  | 52 => .array .int
  | 53 => .array .int
  | _ => .array .int
abbrev am_cl : List vw_C := [("EvenlyPoured$Kept", TC0, 8), ("EvenlyPoured$Pourer", TC1, 2), ("EvenlyPoured$Pouring", TC2, 8), ("EvenlyPoured$Reader", TC3, 5), ("EvenlyPoured$Search", TC4, 17), ("EvenlyPoured$Sheet", TC5, 3), ("EvenlyPoured$Tape", TC6, 5), ("EvenlyPoured$Teller", TC7, 3), ("EvenlyPoured$Text", TC8, 3), ("EvenlyPoured", TC9, 18), ("EvenlyPouredModel", TC10, 55)]
def am_ty (c : Nat) : Nat → FieldType := match c with
  | 0 => tC0
  | 1 => tC1
  | 2 => tC2
  | 3 => tC3
  | 4 => tC4
  | 5 => tC5
  | 6 => tC6
  | 7 => tC7
  | 8 => tC8
  | 9 => tC9
  | _ => tC10
/-- a method: name, code, slots, answer, is it static; the places in lw_tbl of its code, of static or instanceMethod, of selects, of initialized -/
abbrev am_N : Type := MethodName × ByteArray × Nat × Option FieldType × Bool × Nat × Nat × Nat × Nat × Nat
noncomputable def am_mt : List am_N := [(⟨"EvenlyPoured$Kept", "<init>", "()V"⟩, prog_2_method_1_code, 1, none, false, 1087, 1086, 9999, 1004, 0),
  (⟨"EvenlyPoured$Pourer", "<init>", "()V"⟩, prog_3_method_1_code, 1, none, false, 1140, 1139, 9999, 1006, 0),
  (⟨"EvenlyPoured$Pourer", "isOf", "(I)Z"⟩, prog_3_method_2_code, 4, (some .boolean), false, 4167, 4165, 4166, 1006, 1),
  (⟨"EvenlyPoured$Pourer", "goes", "(II[I)I"⟩, prog_3_method_3_code, 4, (some .int), false, 4029, 4027, 4028, 1006, 3),
  (⟨"EvenlyPoured$Pourer", "zigzag", "(II)I"⟩, prog_3_method_4_code, 3, (some .int), true, 4032, 4031, 9999, 1006, 2),
  (⟨"EvenlyPoured$Pourer", "digits", "(II)I"⟩, prog_3_method_5_code, 6, (some .int), true, 4035, 4034, 9999, 1006, 2),
  (⟨"EvenlyPoured$Pourer", "weakest", "(I[I)I"⟩, prog_3_method_6_code, 4, (some .int), true, 4039, 4038, 9999, 1006, 2),
  (⟨"EvenlyPoured$Pouring", "<init>", "(LEvenlyPoured$Teller;)V"⟩, prog_4_method_1_code, 2, none, false, 1189, 1188, 9999, 1009, 1),
  (⟨"EvenlyPoured$Pouring", "begin", "(LEvenlyPoured$Text;II)V"⟩, prog_4_method_2_code, 4, none, false, 3087, 3085, 3086, 1009, 3),
  (⟨"EvenlyPoured$Pouring", "drop", "(III)V"⟩, prog_4_method_3_code, 7, none, false, 3096, 3094, 3095, 1009, 3),
  (⟨"EvenlyPoured$Pouring", "uneven", "()I"⟩, prog_4_method_4_code, 1, (some .int), false, 3142, 3140, 3141, 1009, 0),
  (⟨"EvenlyPoured$Pouring", "odd", "()I"⟩, prog_4_method_5_code, 3, (some .int), false, 3151, 3149, 3150, 1009, 0),
  (⟨"EvenlyPoured$Pouring", "wanted", "(I)I"⟩, prog_4_method_6_code, 2, (some .int), false, 3130, 3128, 3129, 1009, 1),
  (⟨"EvenlyPoured$Reader", "<init>", "(LEvenlyPoured$Tape;)V"⟩, prog_5_method_1_code, 2, none, false, 1063, 1062, 9999, 1003, 1),
  (⟨"EvenlyPoured$Reader", "read", "()LEvenlyPoured$Text;"⟩, prog_5_method_2_code, 4, (some (.object "EvenlyPoured$Text")), false, 2167, 2165, 2166, 1003, 0),
  (⟨"EvenlyPoured$Reader", "place", "()I"⟩, prog_5_method_3_code, 1, (some .int), false, 3066, 3064, 3065, 1003, 0),
  (⟨"EvenlyPoured$Reader", "token", "()I"⟩, prog_5_method_4_code, 1, (some .int), false, 3021, 3020, 14, 1003, 0),
  (⟨"EvenlyPoured$Reader", "step", "()V"⟩, prog_5_method_5_code, 1, none, false, 3025, 3024, 15, 1003, 0),
  (⟨"EvenlyPoured$Reader", "clause", "(I)[I"⟩, prog_5_method_6_code, 2, (some (.array .int)), false, 3013, 3012, 12, 1003, 1),
  (⟨"EvenlyPoured$Reader", "demand", "(I)V"⟩, prog_5_method_7_code, 2, none, false, 3017, 3016, 13, 1003, 1),
  (⟨"EvenlyPoured$Reader", "part", "(II)V"⟩, prog_5_method_8_code, 6, none, false, 3029, 3028, 16, 1003, 2),
  (⟨"EvenlyPoured$Reader", "one", "(I)V"⟩, prog_5_method_9_code, 3, none, false, 3033, 3032, 17, 1003, 1),
  (⟨"EvenlyPoured$Reader", "inside", "(II)V"⟩, prog_5_method_10_code, 3, none, false, 3041, 3040, 19, 1003, 2),
  (⟨"EvenlyPoured$Reader", "put", "(I)V"⟩, prog_5_method_11_code, 2, none, false, 3037, 3036, 18, 1003, 1),
  (⟨"EvenlyPoured$Reader", "levelOf", "(I)I"⟩, prog_5_method_12_code, 1, (some .int), true, 3044, 3043, 9999, 1003, 1),
  (⟨"EvenlyPoured$Search", "<init>", "(LEvenlyPoured$Teller;)V"⟩, prog_6_method_1_code, 2, none, false, 1224, 1223, 9999, 1010, 1),
  (⟨"EvenlyPoured$Search", "ready", "(ILEvenlyPoured$Text;II)V"⟩, prog_6_method_2_code, 7, none, false, 3195, 3193, 3194, 1010, 4),
  (⟨"EvenlyPoured$Search", "learnGains", "(II)V"⟩, prog_6_method_3_code, 7, none, false, 3200, 3199, 29, 1010, 2),
  (⟨"EvenlyPoured$Search", "gainPlace", "(IIII)I"⟩, prog_6_method_4_code, 5, (some .int), false, 3207, 3206, 30, 1010, 4),
  (⟨"EvenlyPoured$Search", "gain", "(III)I"⟩, prog_6_method_5_code, 5, (some .int), false, 3235, 3234, 35, 1010, 3),
  (⟨"EvenlyPoured$Search", "findEvenest", "()V"⟩, prog_6_method_6_code, 1, none, false, 3211, 3209, 3210, 1010, 0),
  (⟨"EvenlyPoured$Search", "fewestChanges", "(I)I"⟩, prog_6_method_7_code, 3, (some .int), false, 4009, 4007, 4008, 1010, 1),
  (⟨"EvenlyPoured$Search", "empty", "()V"⟩, prog_6_method_8_code, 1, none, false, 3216, 3215, 31, 1010, 0),
  (⟨"EvenlyPoured$Search", "tryBalanced", "(III)V"⟩, prog_6_method_9_code, 6, none, false, 3220, 3219, 32, 1010, 3),
  (⟨"EvenlyPoured$Search", "hasRoom", "(I)Z"⟩, prog_6_method_10_code, 4, (some .boolean), false, 3231, 3230, 34, 1010, 1),
  (⟨"EvenlyPoured$Search", "judge", "(I)V"⟩, prog_6_method_11_code, 3, none, false, 3224, 3223, 33, 1010, 1),
  (⟨"EvenlyPoured$Search", "findTasted", "([I)V"⟩, prog_6_method_12_code, 2, none, false, 4075, 4073, 4074, 1010, 1),
  (⟨"EvenlyPoured$Search", "tryTold", "(III[I)V"⟩, prog_6_method_13_code, 7, none, false, 4079, 4078, 40, 1010, 4),
  (⟨"EvenlyPoured$Search", "tellTasted", "(I[I)V"⟩, prog_6_method_14_code, 4, none, false, 4083, 4082, 41, 1010, 2),
  (⟨"EvenlyPoured$Sheet", "<init>", "()V"⟩, prog_7_method_1_code, 1, none, false, 1154, 1153, 9999, 1007, 0),
  (⟨"EvenlyPoured$Sheet", "begin", "(II)V"⟩, prog_7_method_2_code, 3, none, false, 4134, 4132, 4133, 1007, 2),
  (⟨"EvenlyPoured$Sheet", "isMissing", "()Z"⟩, prog_7_method_3_code, 1, (some .boolean), false, 4071, 4069, 4070, 1007, 0),
  (⟨"EvenlyPoured$Sheet", "has", "(I)Z"⟩, prog_7_method_4_code, 2, (some .boolean), false, 4143, 4141, 4142, 1007, 1),
  (⟨"EvenlyPoured$Sheet", "hasAll", "(II)Z"⟩, prog_7_method_5_code, 3, (some .boolean), false, 4155, 4153, 4154, 1007, 2),
  (⟨"EvenlyPoured$Sheet", "write", "(II)V"⟩, prog_7_method_6_code, 3, none, false, 4147, 4145, 4146, 1007, 2),
  (⟨"EvenlyPoured$Tape", "<init>", "()V"⟩, prog_8_method_1_code, 1, none, false, 1035, 1034, 9999, 1002, 0),
  (⟨"EvenlyPoured$Tape", "splitUp", "()V"⟩, prog_8_method_2_code, 4, none, false, 2171, 2169, 2170, 1002, 0),
  (⟨"EvenlyPoured$Tape", "endOf", "(I)I"⟩, prog_8_method_3_code, 3, (some .int), false, 2175, 2174, 7, 1002, 1),
  (⟨"EvenlyPoured$Tape", "tokenOf", "(II)I"⟩, prog_8_method_4_code, 4, (some .int), false, 2185, 2184, 8, 1002, 2),
  (⟨"EvenlyPoured$Tape", "numberOf", "(II)I"⟩, prog_8_method_5_code, 5, (some .int), false, 3006, 3005, 11, 1002, 2),
  (⟨"EvenlyPoured$Tape", "wordOf", "(II)I"⟩, prog_8_method_6_code, 6, (some .int), false, 2189, 2188, 9, 1002, 2),
  (⟨"EvenlyPoured$Tape", "isSpelled", "(III)Z"⟩, prog_8_method_7_code, 5, (some .boolean), false, 3002, 3001, 10, 1002, 3),
  (⟨"EvenlyPoured$Tape", "isLetter", "(I)Z"⟩, prog_8_method_8_code, 1, (some .boolean), true, 2178, 2177, 9999, 1002, 1),
  (⟨"EvenlyPoured$Tape", "isDigit", "(I)Z"⟩, prog_8_method_9_code, 1, (some .boolean), true, 2181, 2180, 9999, 1002, 1),
  (⟨"EvenlyPoured$Tape", "isSign", "(I)Z"⟩, prog_8_method_10_code, 1, (some .boolean), true, 3009, 3008, 9999, 1002, 1),
  (⟨"EvenlyPoured$Teller", "<init>", "(LEvenlyPoured$Text;)V"⟩, prog_9_method_1_code, 2, none, false, 1173, 1172, 9999, 1008, 1),
  (⟨"EvenlyPoured$Teller", "begin", "(LEvenlyPoured$Text;II)V"⟩, prog_9_method_2_code, 4, none, false, 3091, 3089, 3090, 1008, 3),
  (⟨"EvenlyPoured$Teller", "look", "(IIII)V"⟩, prog_9_method_3_code, 5, none, false, 3100, 3098, 3099, 1008, 4),
  (⟨"EvenlyPoured$Teller", "strong", "()I"⟩, prog_9_method_4_code, 1, (some .int), false, 3104, 3102, 3103, 1008, 0),
  (⟨"EvenlyPoured$Teller", "drips", "(I)I"⟩, prog_9_method_5_code, 2, (some .int), false, 3126, 3124, 3125, 1008, 1),
  (⟨"EvenlyPoured$Teller", "liked", "()I"⟩, prog_9_method_6_code, 1, (some .int), false, 3134, 3132, 3133, 1008, 0),
  (⟨"EvenlyPoured$Teller", "within", "(II)I"⟩, prog_9_method_7_code, 2, (some .int), true, 3118, 3117, 9999, 1008, 2),
  (⟨"EvenlyPoured$Teller", "worth", "([I)I"⟩, prog_9_method_8_code, 6, (some .int), false, 3108, 3107, 22, 1008, 1),
  (⟨"EvenlyPoured$Teller", "named", "(I)I"⟩, prog_9_method_9_code, 2, (some .int), false, 3112, 3111, 23, 1008, 1),
  (⟨"EvenlyPoured$Teller", "joined", "(III)I"⟩, prog_9_method_10_code, 3, (some .int), true, 3115, 3114, 9999, 1008, 3),
  (⟨"EvenlyPoured$Text", "<init>", "([I[I[I)V"⟩, prog_10_method_1_code, 4, none, false, 1121, 1120, 9999, 1005, 3),
  (⟨"EvenlyPoured", "<init>", "()V"⟩, prog_1_method_1_code, 6, none, false, 1023, 1022, 9999, 1001, 0),
  (⟨"EvenlyPoured", "set", "(III)I"⟩, prog_1_method_2_code, 4, (some .int), false, 2102, 2100, 2101, 1001, 3),
  (⟨"EvenlyPoured", "changeCups", "(I)I"⟩, prog_1_method_3_code, 3, (some .int), false, 2106, 2105, 0, 1001, 1),
  (⟨"EvenlyPoured", "changeDribs", "(I)I"⟩, prog_1_method_4_code, 3, (some .int), false, 2113, 2112, 1, 1001, 1),
  (⟨"EvenlyPoured", "changeNumber", "(II)I"⟩, prog_1_method_5_code, 4, (some .int), false, 2117, 2116, 2, 1001, 2),
  (⟨"EvenlyPoured", "changePrice", "(II)I"⟩, prog_1_method_6_code, 4, (some .int), false, 2125, 2124, 4, 1001, 2),
  (⟨"EvenlyPoured", "told", "(II)I"⟩, prog_1_method_7_code, 3, (some .int), false, 2132, 2130, 2131, 1001, 2),
  (⟨"EvenlyPoured", "lay", "(II)I"⟩, prog_1_method_8_code, 4, (some .int), false, 2136, 2134, 2135, 1001, 2),
  (⟨"EvenlyPoured", "at", "(I)I"⟩, prog_1_method_9_code, 2, (some .int), false, 2148, 2146, 2147, 1001, 1),
  (⟨"EvenlyPoured", "pourer", "(II)I"⟩, prog_1_method_10_code, 3, (some .int), false, 2152, 2150, 2151, 1001, 2),
  (⟨"EvenlyPoured", "isCup", "(I)Z"⟩, prog_1_method_11_code, 2, (some .boolean), false, 2144, 2143, 6, 1001, 1),
  (⟨"EvenlyPoured", "isDrib", "(I)Z"⟩, prog_1_method_12_code, 2, (some .boolean), false, 2140, 2139, 5, 1001, 1),
  (⟨"EvenlyPoured", "isPourer", "(I)Z"⟩, prog_1_method_13_code, 2, (some .boolean), false, 2121, 2120, 3, 1001, 1),
  (⟨"EvenlyPoured", "isKind", "(I)Z"⟩, prog_1_method_14_code, 1, (some .boolean), true, 2155, 2154, 9999, 1001, 1),
  (⟨"EvenlyPoured", "isThing", "(I)Z"⟩, prog_1_method_15_code, 1, (some .boolean), true, 2128, 2127, 9999, 1001, 1),
  (⟨"EvenlyPoured", "feed", "(I)I"⟩, prog_1_method_16_code, 2, (some .int), false, 2159, 2157, 2158, 1001, 1),
  (⟨"EvenlyPoured", "text", "()I"⟩, prog_1_method_17_code, 2, (some .int), false, 2163, 2161, 2162, 1001, 0),
  (⟨"EvenlyPoured", "force", "(I)I"⟩, prog_1_method_18_code, 3, (some .int), false, 3071, 3069, 3070, 1001, 1),
  (⟨"EvenlyPoured", "cup", "(II)I"⟩, prog_1_method_19_code, 3, (some .int), false, 3075, 3073, 3074, 1001, 2),
  (⟨"EvenlyPoured", "all", "(I)I"⟩, prog_1_method_20_code, 2, (some .int), false, 3138, 3136, 3137, 1001, 1),
  (⟨"EvenlyPoured", "mean", "(II)J"⟩, prog_1_method_21_code, 4, (some .long), false, 3171, 3169, 3170, 1001, 2),
  (⟨"EvenlyPoured", "evenest", "(I)I"⟩, prog_1_method_22_code, 2, (some .int), false, 3182, 3180, 3181, 1001, 1),
  (⟨"EvenlyPoured", "become", "()I"⟩, prog_1_method_23_code, 1, (some .int), false, 3239, 3237, 3238, 1001, 0),
  (⟨"EvenlyPoured", "fewest", "(I)I"⟩, prog_1_method_24_code, 2, (some .int), false, 4004, 4002, 4003, 1001, 1),
  (⟨"EvenlyPoured", "next", "(I)I"⟩, prog_1_method_25_code, 6, (some .int), false, 4013, 4011, 4012, 1001, 1),
  (⟨"EvenlyPoured", "unevenWithOneMore", "(I)I"⟩, prog_1_method_26_code, 3, (some .int), false, 4017, 4016, 36, 1001, 1),
  (⟨"EvenlyPoured", "pourRow", "()V"⟩, prog_1_method_27_code, 1, none, false, 3079, 3078, 20, 1001, 0),
  (⟨"EvenlyPoured", "pourAllBut", "(I)V"⟩, prog_1_method_28_code, 3, none, false, 3083, 3082, 21, 1001, 1),
  (⟨"EvenlyPoured", "greatestEvenPower", "()I"⟩, prog_1_method_29_code, 2, (some .int), false, 3159, 3158, 24, 1001, 0),
  (⟨"EvenlyPoured", "isAsMuchInEachCup", "(I)Z"⟩, prog_1_method_30_code, 4, (some .boolean), false, 3163, 3162, 25, 1001, 1),
  (⟨"EvenlyPoured", "sumOfPowers", "(II)I"⟩, prog_1_method_31_code, 7, (some .int), false, 3167, 3166, 26, 1001, 2),
  (⟨"EvenlyPoured", "waysAreFew", "()Z"⟩, prog_1_method_32_code, 3, (some .boolean), false, 3186, 3185, 27, 1001, 0),
  (⟨"EvenlyPoured", "findEvenest", "()V"⟩, prog_1_method_33_code, 1, none, false, 3191, 3190, 28, 1001, 0),
  (⟨"EvenlyPoured", "isPart", "(I)Z"⟩, prog_1_method_34_code, 1, (some .boolean), true, 3174, 3173, 9999, 1001, 1),
  (⟨"EvenlyPoured", "inLowestTerms", "(JJI)J"⟩, prog_1_method_35_code, 12, (some .long), true, 3178, 3177, 9999, 1001, 3),
  (⟨"EvenlyPoured", "poured", "(II)I"⟩, prog_1_method_36_code, 3, (some .int), false, 4021, 4019, 4020, 1001, 2),
  (⟨"EvenlyPoured", "follow", "(I)I"⟩, prog_1_method_37_code, 2, (some .int), false, 4043, 4041, 4042, 1001, 1),
  (⟨"EvenlyPoured", "which", "(I)I"⟩, prog_1_method_38_code, 6, (some .int), false, 4047, 4045, 4046, 1001, 1),
  (⟨"EvenlyPoured", "pourBy", "(LEvenlyPoured$Pourer;)V"⟩, prog_1_method_39_code, 4, none, false, 4025, 4024, 37, 1001, 1),
  (⟨"EvenlyPoured", "captains", "(I)I"⟩, prog_1_method_40_code, 4, (some .int), false, 4051, 4049, 4050, 1001, 1),
  (⟨"EvenlyPoured", "dearestLeft", "()I"⟩, prog_1_method_41_code, 3, (some .int), false, 4055, 4054, 38, 1001, 0),
  (⟨"EvenlyPoured", "mostLessLeast", "([II)I"⟩, prog_1_method_42_code, 5, (some .int), true, 3145, 3144, 9999, 1001, 2),
  (⟨"EvenlyPoured", "tastes", "(II)I"⟩, prog_1_method_43_code, 4, (some .int), false, 4060, 4058, 4059, 1001, 2),
  (⟨"EvenlyPoured", "whom", "(I)I"⟩, prog_1_method_44_code, 5, (some .int), false, 4087, 4085, 4086, 1001, 1),
  (⟨"EvenlyPoured", "forgotten", "(I)I"⟩, prog_1_method_45_code, 4, (some .int), false, 4095, 4093, 4094, 1001, 1),
  (⟨"EvenlyPoured", "notTasted", "(I)I"⟩, prog_1_method_46_code, 2, (some .int), false, 4067, 4066, 39, 1001, 1),
  (⟨"EvenlyPoured", "tastesAsTold", "([II)Z"⟩, prog_1_method_47_code, 4, (some .boolean), false, 4091, 4090, 42, 1001, 2),
  (⟨"EvenlyPoured", "drawn", "(II)I"⟩, prog_1_method_48_code, 3, (some .int), false, 4099, 4097, 4098, 1001, 2),
  (⟨"EvenlyPoured", "chance", "(IIII)J"⟩, prog_1_method_49_code, 8, (some .long), false, 4111, 4109, 4110, 1001, 4),
  (⟨"EvenlyPoured", "isOff", "(I)Z"⟩, prog_1_method_50_code, 1, (some .boolean), true, 4102, 4101, 9999, 1001, 1),
  (⟨"EvenlyPoured", "unevenByLot", "(II)I"⟩, prog_1_method_51_code, 5, (some .int), false, 4106, 4105, 43, 1001, 2),
  (⟨"EvenlyPoured", "image", "()I"⟩, prog_1_method_52_code, 2, (some .int), false, 4115, 4113, 4114, 1001, 0),
  (⟨"EvenlyPoured", "back", "()I"⟩, prog_1_method_53_code, 2, (some .int), false, 4119, 4117, 4118, 1001, 0),
  (⟨"EvenlyPoured", "count", "(I)I"⟩, prog_1_method_54_code, 2, (some .int), false, 4123, 4121, 4122, 1001, 1),
  (⟨"EvenlyPoured", "sheet", "(III)I"⟩, prog_1_method_55_code, 4, (some .int), false, 4127, 4125, 4126, 1001, 3),
  (⟨"EvenlyPoured", "cell", "(III)I"⟩, prog_1_method_56_code, 4, (some .int), false, 4139, 4137, 4138, 1001, 3),
  (⟨"EvenlyPoured", "copy", "(IIIII)I"⟩, prog_1_method_57_code, 8, (some .int), false, 4151, 4149, 4150, 1001, 5),
  (⟨"EvenlyPoured", "rows", "(IIII)I"⟩, prog_1_method_58_code, 9, (some .int), false, 4159, 4157, 4158, 1001, 4),
  (⟨"EvenlyPoured", "taken", "(II)I"⟩, prog_1_method_59_code, 3, (some .int), false, 4163, 4161, 4162, 1001, 2),
  (⟨"EvenlyPoured", "isSheet", "(I)Z"⟩, prog_1_method_60_code, 1, (some .boolean), true, 4063, 4062, 9999, 1001, 1),
  (⟨"EvenlyPoured", "isSort", "(I)Z"⟩, prog_1_method_61_code, 1, (some .boolean), true, 4130, 4129, 9999, 1001, 1),
  (⟨"EvenlyPouredModel", "in", "(JJJ)Z"⟩, prog_12_method_2_code, 6, (some .boolean), true, 5113, 5112, 9999, 1011, 3),
  (⟨"EvenlyPouredModel", "within", "(III)I"⟩, prog_12_method_3_code, 3, (some .int), true, 6022, 6021, 9999, 1011, 3),
  (⟨"EvenlyPouredModel", "<init>", "()V"⟩, prog_12_method_4_code, 1, none, false, 4175, 4174, 9999, 1011, 0),
  (⟨"EvenlyPouredModel", "spell", "(IIIIIIIII)V"⟩, prog_12_method_5_code, 10, none, false, 4180, 4179, 44, 1011, 9),
  (⟨"EvenlyPouredModel", "isCup", "(I)Z"⟩, prog_12_method_6_code, 2, (some .boolean), false, 5135, 5134, 46, 1011, 1),
  (⟨"EvenlyPouredModel", "isPourer", "(I)Z"⟩, prog_12_method_7_code, 2, (some .boolean), false, 5117, 5116, 45, 1011, 1),
  (⟨"EvenlyPouredModel", "set", "(III)I"⟩, prog_12_method_8_code, 6, (some .int), false, 5109, 5107, 5108, 1011, 3),
  (⟨"EvenlyPouredModel", "told", "(II)I"⟩, prog_12_method_9_code, 3, (some .int), false, 5126, 5124, 5125, 1011, 2),
  (⟨"EvenlyPouredModel", "lay", "(II)I"⟩, prog_12_method_10_code, 4, (some .int), false, 5131, 5129, 5130, 1011, 2),
  (⟨"EvenlyPouredModel", "at", "(I)I"⟩, prog_12_method_11_code, 2, (some .int), false, 5139, 5137, 5138, 1011, 1),
  (⟨"EvenlyPouredModel", "pourer", "(II)I"⟩, prog_12_method_12_code, 3, (some .int), false, 5143, 5141, 5142, 1011, 2),
  (⟨"EvenlyPouredModel", "feed", "(I)I"⟩, prog_12_method_13_code, 2, (some .int), false, 5148, 5146, 5147, 1011, 1),
  (⟨"EvenlyPouredModel", "byteAt", "(I)I"⟩, prog_12_method_14_code, 2, (some .int), false, 5165, 5164, 49, 1011, 1),
  (⟨"EvenlyPouredModel", "nextToken", "()V"⟩, prog_12_method_15_code, 3, none, false, 5161, 5160, 48, 1011, 0),
  (⟨"EvenlyPouredModel", "fail", "()V"⟩, prog_12_method_16_code, 1, none, false, 5186, 5185, 53, 1011, 0),
  (⟨"EvenlyPouredModel", "isLetter", "(II)Z"⟩, prog_12_method_17_code, 3, (some .boolean), false, 5178, 5177, 51, 1011, 2),
  (⟨"EvenlyPouredModel", "isWord", "(IIIIIIII)Z"⟩, prog_12_method_18_code, 9, (some .boolean), false, 5174, 5173, 50, 1011, 8),
  (⟨"EvenlyPouredModel", "isSign", "(I)Z"⟩, prog_12_method_19_code, 2, (some .boolean), false, 5218, 5217, 61, 1011, 1),
  (⟨"EvenlyPouredModel", "opens", "()Z"⟩, prog_12_method_20_code, 1, (some .boolean), false, 5202, 5201, 57, 1011, 0),
  (⟨"EvenlyPouredModel", "name", "()I"⟩, prog_12_method_21_code, 1, (some .int), false, 5222, 5221, 62, 1011, 0),
  (⟨"EvenlyPouredModel", "atom", "()I"⟩, prog_12_method_22_code, 2, (some .int), false, 5214, 5213, 60, 1011, 0),
  (⟨"EvenlyPouredModel", "term", "()I"⟩, prog_12_method_23_code, 2, (some .int), false, 5210, 5209, 59, 1011, 0),
  (⟨"EvenlyPouredModel", "added", "()I"⟩, prog_12_method_24_code, 4, (some .int), false, 5206, 5205, 58, 1011, 0),
  (⟨"EvenlyPouredModel", "not", "()I"⟩, prog_12_method_25_code, 4, (some .int), false, 5198, 5197, 56, 1011, 0),
  (⟨"EvenlyPouredModel", "both", "()I"⟩, prog_12_method_26_code, 3, (some .int), false, 5194, 5193, 55, 1011, 0),
  (⟨"EvenlyPouredModel", "either", "()I"⟩, prog_12_method_27_code, 3, (some .int), false, 5190, 5189, 54, 1011, 0),
  (⟨"EvenlyPouredModel", "part", "(Z)I"⟩, prog_12_method_28_code, 3, (some .int), false, 5182, 5181, 52, 1011, 1),
  (⟨"EvenlyPouredModel", "read", "(II)I"⟩, prog_12_method_29_code, 6, (some .int), false, 5157, 5156, 47, 1011, 2),
  (⟨"EvenlyPouredModel", "text", "()I"⟩, prog_12_method_30_code, 2, (some .int), false, 5153, 5151, 5152, 1011, 0),
  (⟨"EvenlyPouredModel", "force", "(I)I"⟩, prog_12_method_31_code, 3, (some .int), false, 5228, 5226, 5227, 1011, 1),
  (⟨"EvenlyPouredModel", "says", "(IIIII)I"⟩, prog_12_method_32_code, 6, (some .int), false, 6019, 6018, 68, 1011, 5),
  (⟨"EvenlyPouredModel", "forgets", "()V"⟩, prog_12_method_33_code, 2, none, false, 6000, 5239, 64, 1011, 0),
  (⟨"EvenlyPouredModel", "noteOf", "(IIII)I"⟩, prog_12_method_34_code, 4, (some .int), true, 6015, 6014, 9999, 1011, 4),
  (⟨"EvenlyPouredModel", "strong", "(IIII)I"⟩, prog_12_method_35_code, 6, (some .int), false, 6012, 6011, 67, 1011, 4),
  (⟨"EvenlyPouredModel", "drips", "(IIII)I"⟩, prog_12_method_36_code, 6, (some .int), false, 6026, 6025, 69, 1011, 4),
  (⟨"EvenlyPouredModel", "begins", "()V"⟩, prog_12_method_37_code, 2, none, false, 6004, 6003, 65, 1011, 0),
  (⟨"EvenlyPouredModel", "pours", "(III)V"⟩, prog_12_method_38_code, 7, none, false, 6008, 6007, 66, 1011, 3),
  (⟨"EvenlyPouredModel", "uneven", "()I"⟩, prog_12_method_39_code, 4, (some .int), false, 6042, 6041, 72, 1011, 0),
  (⟨"EvenlyPouredModel", "poursRow", "()V"⟩, prog_12_method_40_code, 2, none, false, 5236, 5235, 63, 1011, 0),
  (⟨"EvenlyPouredModel", "cup", "(II)I"⟩, prog_12_method_41_code, 3, (some .int), false, 5232, 5230, 5231, 1011, 2),
  (⟨"EvenlyPouredModel", "power", "()I"⟩, prog_12_method_42_code, 4, (some .int), false, 6034, 6033, 70, 1011, 0),
  (⟨"EvenlyPouredModel", "sumOf", "(II)I"⟩, prog_12_method_43_code, 7, (some .int), false, 6038, 6037, 71, 1011, 2),
  (⟨"EvenlyPouredModel", "all", "(I)I"⟩, prog_12_method_44_code, 5, (some .int), false, 6030, 6028, 6029, 1011, 1),
  (⟨"EvenlyPouredModel", "lowest", "(JJI)J"⟩, prog_12_method_45_code, 11, (some .long), true, 6050, 6049, 9999, 1011, 3),
  (⟨"EvenlyPouredModel", "mean", "(II)J"⟩, prog_12_method_46_code, 3, (some .long), false, 6046, 6044, 6045, 1011, 2),
  (⟨"EvenlyPouredModel", "areMany", "()Z"⟩, prog_12_method_47_code, 3, (some .boolean), false, 6059, 6058, 73, 1011, 0),
  (⟨"EvenlyPouredModel", "goes", "(I)V"⟩, prog_12_method_48_code, 7, none, false, 6068, 6067, 75, 1011, 1),
  (⟨"EvenlyPouredModel", "areBalanced", "()Z"⟩, prog_12_method_49_code, 2, (some .boolean), false, 6080, 6079, 78, 1011, 0),
  (⟨"EvenlyPouredModel", "ends", "()V"⟩, prog_12_method_50_code, 3, none, false, 6072, 6071, 76, 1011, 0),
  (⟨"EvenlyPouredModel", "keepsWay", "()V"⟩, prog_12_method_51_code, 2, none, false, 6076, 6075, 77, 1011, 0),
  (⟨"EvenlyPouredModel", "seeks", "(II)V"⟩, prog_12_method_52_code, 3, none, false, 6064, 6063, 74, 1011, 2),
  (⟨"EvenlyPouredModel", "evenest", "(I)I"⟩, prog_12_method_53_code, 2, (some .int), false, 6054, 6052, 6053, 1011, 1),
  (⟨"EvenlyPouredModel", "become", "()I"⟩, prog_12_method_54_code, 2, (some .int), false, 6084, 6082, 6083, 1011, 0),
  (⟨"EvenlyPouredModel", "fewest", "(I)I"⟩, prog_12_method_55_code, 2, (some .int), false, 6088, 6086, 6087, 1011, 1),
  (⟨"EvenlyPouredModel", "next", "(I)I"⟩, prog_12_method_56_code, 7, (some .int), false, 6093, 6091, 6092, 1011, 1),
  (⟨"EvenlyPouredModel", "zigzag", "(I)I"⟩, prog_12_method_57_code, 2, (some .int), false, 6114, 6113, 82, 1011, 1),
  (⟨"EvenlyPouredModel", "digits", "(I)I"⟩, prog_12_method_58_code, 5, (some .int), false, 6110, 6109, 81, 1011, 1),
  (⟨"EvenlyPouredModel", "goesTo", "(II)I"⟩, prog_12_method_59_code, 7, (some .int), false, 6106, 6105, 80, 1011, 2),
  (⟨"EvenlyPouredModel", "poursBy", "(I)V"⟩, prog_12_method_60_code, 3, none, false, 6102, 6101, 79, 1011, 1),
  (⟨"EvenlyPouredModel", "poured", "(II)I"⟩, prog_12_method_61_code, 3, (some .int), false, 6097, 6095, 6096, 1011, 2),
  (⟨"EvenlyPouredModel", "follow", "(I)I"⟩, prog_12_method_62_code, 3, (some .int), false, 6118, 6116, 6117, 1011, 1),
  (⟨"EvenlyPouredModel", "which", "(I)I"⟩, prog_12_method_63_code, 6, (some .int), false, 6122, 6120, 6121, 1011, 1),
  (⟨"EvenlyPouredModel", "captains", "(I)I"⟩, prog_12_method_64_code, 6, (some .int), false, 6126, 6124, 6125, 1011, 1),
  (⟨"EvenlyPouredModel", "tasteBad", "(I)I"⟩, prog_12_method_65_code, 2, (some .int), false, 6137, 6136, 83, 1011, 1),
  (⟨"EvenlyPouredModel", "tastes", "(II)I"⟩, prog_12_method_66_code, 6, (some .int), false, 6130, 6128, 6129, 1011, 2),
  (⟨"EvenlyPouredModel", "whom", "(I)I"⟩, prog_12_method_67_code, 7, (some .int), false, 6141, 6139, 6140, 1011, 1),
  (⟨"EvenlyPouredModel", "forgotten", "(I)I"⟩, prog_12_method_68_code, 6, (some .int), false, 6145, 6143, 6144, 1011, 1),
  (⟨"EvenlyPouredModel", "draws", "(II)I"⟩, prog_12_method_69_code, 5, (some .int), false, 6154, 6153, 84, 1011, 2),
  (⟨"EvenlyPouredModel", "drawn", "(II)I"⟩, prog_12_method_70_code, 3, (some .int), false, 6149, 6147, 6148, 1011, 2),
  (⟨"EvenlyPouredModel", "chance", "(IIII)J"⟩, prog_12_method_71_code, 8, (some .long), false, 6159, 6157, 6158, 1011, 4),
  (⟨"EvenlyPouredModel", "image", "()I"⟩, prog_12_method_72_code, 2, (some .int), false, 6163, 6161, 6162, 1011, 0),
  (⟨"EvenlyPouredModel", "back", "()I"⟩, prog_12_method_73_code, 2, (some .int), false, 6167, 6165, 6166, 1011, 0),
  (⟨"EvenlyPouredModel", "count", "(I)I"⟩, prog_12_method_74_code, 2, (some .int), false, 6171, 6169, 6170, 1011, 1),
  (⟨"EvenlyPouredModel", "isSheet", "(I)Z"⟩, prog_12_method_75_code, 1, (some .boolean), true, 6133, 6132, 9999, 1011, 1),
  (⟨"EvenlyPouredModel", "sheet", "(III)I"⟩, prog_12_method_76_code, 5, (some .int), false, 6175, 6173, 6174, 1011, 3),
  (⟨"EvenlyPouredModel", "cell", "(III)I"⟩, prog_12_method_77_code, 4, (some .int), false, 6179, 6177, 6178, 1011, 3),
  (⟨"EvenlyPouredModel", "copy", "(IIIII)I"⟩, prog_12_method_78_code, 9, (some .int), false, 6183, 6181, 6182, 1011, 5),
  (⟨"EvenlyPouredModel", "rows", "(IIII)I"⟩, prog_12_method_79_code, 7, (some .int), false, 6187, 6185, 6186, 1011, 4),
  (⟨"EvenlyPouredModel", "over", "(I)I"⟩, prog_12_method_80_code, 1, (some .int), true, 6195, 6194, 9999, 1011, 1),
  (⟨"EvenlyPouredModel", "taken", "(II)I"⟩, prog_12_method_81_code, 4, (some .int), false, 6192, 6190, 6191, 1011, 2),
  (⟨"EvenlyPouredLaw", "law", "([I)Z"⟩, code, 4, some .boolean, true, 0, 0, 0, 1000, 1),
  (⟨"java/lang/String", "length", "()I"⟩, prog_15_method_54_code, 1, (some .int), false, 2194, 2192, 2193, 1013, 0),
  (⟨"java/lang/String", "charAt", "(I)C"⟩, prog_15_method_56_code, 2, (some .char), false, 2204, 2202, 2203, 1013, 1),
  (⟨"java/lang/String", "coder", "()B"⟩, prog_15_method_152_code, 1, (some .byte), false, 2198, 2196, 2197, 1013, 0),
  (⟨"java/lang/String", "isLatin1", "()Z"⟩, prog_15_method_154_code, 1, (some .boolean), false, 2208, 2206, 2207, 1013, 0),
  (⟨"java/lang/String", "checkIndex", "(II)V"⟩, prog_15_method_155_code, 2, none, true, 2214, 2213, 9999, 1013, 2),
  (⟨"java/lang/StringLatin1", "charAt", "([BI)C"⟩, prog_16_method_2_code, 2, (some .char), true, 2211, 2210, 9999, 1014, 2),
  (⟨"java/util/Arrays", "fill", "([II)V"⟩, prog_19_method_103_code, 4, none, true, 2109, 2108, 9999, 1012, 2),
  (⟨"java/util/Arrays", "copyOf", "([II)[I"⟩, prog_19_method_123_code, 3, (some (.array .int)), true, 3047, 3046, 9999, 1012, 2),
  (⟨"jdk/internal/util/Preconditions", "checkIndex", "(IILjava/util/function/BiFunction;)I"⟩, prog_20_method_11_code, 3, (some .int), true, 2219, 2218, 9999, 1015, 3)]
noncomputable def am_no0 : am_N := (⟨"", "", ""⟩, ⟨#[]⟩, 0, none, false, 0, 0, 0, 0, 0)
noncomputable def am_me (m : Nat) : am_N := am_mt.getD m am_no0
noncomputable def am_nm (m : Nat) : MethodName := (am_me m).1
noncomputable def am_cd (m : Nat) : ByteArray := (am_me m).2.1
noncomputable def am_rt (m : Nat) : Option FieldType := (am_me m).2.2.2.1
noncomputable def am_pc (m b : Nat) : Nat := (am_pcs.getD m []).getD b 0
/-- the words that every method has -/
noncomputable def am_W : List Cond := lw_tbl.filter goodWord
/-- lw_tbl in its pieces: a place is 1000 times the piece, and the place in it -/
noncomputable def am_tp (k : Nat) : List Cond := match k with
  | 0 => k2_sels lw_privs
  | 1 => tables_1_1
  | 2 => tables_1_2
  | 3 => tables_1_3
  | 4 => tables_1_4
  | 5 => tables_1_5
  | _ => tables_1_6
noncomputable def am_lk (pl : Nat) (w : Cond) : Bool := decide ((am_tp (pl / 1000))[pl % 1000]? = some w) && goodWord w
noncomputable def am_nk (pl : Nat) (w : Cond) : Bool := decide ((am_tp (pl / 1000))[pl % 1000]? = some w)
theorem am_tp_in {k : Nat} {w : Cond} (h : w ∈ am_tp k) : w ∈ lw_tbl := by
  unfold lw_tbl tables_1
  unfold am_tp at h
  split at h
  · exact List.mem_append_left _ h
  · exact List.mem_append_right _ (List.mem_append_left _ h)
  · exact List.mem_append_right _ (List.mem_append_right _ (List.mem_append_left _ h))
  · exact List.mem_append_right _ (List.mem_append_right _ (List.mem_append_right _ (List.mem_append_left _ h)))
  · exact List.mem_append_right _ (List.mem_append_right _ (List.mem_append_right _ (List.mem_append_right _ (List.mem_append_left _ h))))
  · exact List.mem_append_right _ (List.mem_append_right _ (List.mem_append_right _ (List.mem_append_right _ (List.mem_append_right _ (List.mem_append_left _ h)))))
  · exact List.mem_append_right _ (List.mem_append_right _ (List.mem_append_right _ (List.mem_append_right _ (List.mem_append_right _ (List.mem_append_right _ h)))))
theorem am_nk_in {pl : Nat} {w : Cond} (h : am_nk pl w = true) : w ∈ lw_tbl := am_tp_in (List.mem_of_getElem? (of_decide_eq_true h))
theorem am_lk_in {pl : Nat} {w : Cond} (h : am_lk pl w = true) : w ∈ am_W := by
  unfold am_lk at h
  rw [Bool.and_eq_true] at h
  exact List.mem_filter.mpr ⟨am_tp_in (List.mem_of_getElem? (of_decide_eq_true h.1)), h.2⟩
def am_wc (t : FieldType) : Nat := match t with
  | .int => 0
  | .long => 2
  | .boolean => 3
  | .object _ => 1
  | .array _ => 1
  | _ => 9
/-- a field's link: plain, or a nest mate's -/
noncomputable def am_fl (own : String) (k x y z w : Nat) : Bool := match am_cl[x]? with
  | some q => Nat.blt y q.2.2 && (decide ((q.2.1 y).1 = q.1) && (Nat.beq (am_wc (am_ty x y)) w && (am_lk z (.fieldLink own k q.1 (q.2.1 y).2.1 (q.2.1 y).2.2.1) || am_nk z (.fieldLinkNest own k q.1 (q.2.1 y).2.1 (q.2.1 y).2.2.1 "EvenlyPoured"))))
  | none => false
/-- a final field is written in its own class's constructor alone -/
noncomputable def am_fp (own name : String) (k x y z w : Nat) : Bool := match am_cl[x]? with
  | some q => Nat.blt y q.2.2 && (decide ((q.2.1 y).1 = q.1) && (Nat.beq (am_wc (am_ty x y)) w && (cond (q.2.1 y).2.2.2 (decide (name = "<init>") && (decide (q.1 = own) && am_lk z (.fieldLink own k q.1 (q.2.1 y).2.1 (q.2.1 y).2.2.1))) (am_lk z (.fieldLink own k q.1 (q.2.1 y).2.1 (q.2.1 y).2.2.1) || am_nk z (.fieldLinkNest own k q.1 (q.2.1 y).2.1 (q.2.1 y).2.2.1 "EvenlyPoured")))))
  | none => false
def am_rc (x : Nat) : String := match x with
  | 22 => "EvenlyPoured$Pourer"
  | 23 => "EvenlyPoured$Text"
  | _ => "EvenlyPoured$Sheet"
/-- the name of the class of a kind -/
def am_kn (c : Nat) : String := match am_cl[c]? with
  | some q => q.1
  | none => "java/lang/String"
/-- of a method, once: its words, its descriptor -/
noncomputable def am_okn (m : Nat) : Bool := match am_me m with
  | (y, cc, mx, r, st, p1, p2, p3, p4, n) => (am_lk p4 (.initialized y.cls) && (Nat.beq mx (am_mx m) && (Nat.ble mx 20 && (decide (y.cls ≠ "java/lang/invoke/MethodHandle" ∧ y.cls ≠ "java/lang/invoke/VarHandle") && (decide ((parseMethodDescriptor y.desc).map (fun d => d.parameters.length) = some n) && (plainName y.cls && (cond st (am_lk p2 (.static y)) (am_lk p2 (.instanceMethod y) && (decide (y.name = "<init>" ∧ r = none) || am_lk p3 (.selects y.cls y y))))))))))
noncomputable def am_cw (own : String) (k : Nat) (i : am_P) (sort : Nat) : Bool := match am_me (am_x i) with
  | (y, _, _, _, st, _, _, _, _, n) => (am_lk (am_im i).toNatClampNeg (.methodLink own k y) || am_nk (am_im i).toNatClampNeg (.methodLinkNest own k y "EvenlyPoured")) && (
      match sort with
      | 0 => cond st false (decide (¬ y.name = "<init>") && (Nat.ble 1 (am_w i) && ((Nat.ble (am_w i) 11 || Nat.beq (am_w i) 27) && (decide (am_kn (am_w i - 1) = y.cls) && Nat.beq (am_z i) (n + 1)))))
      | 1 => cond st (Nat.beq (am_w i) 0 && Nat.beq (am_z i) n) false
      | _ => cond st false (decide (y.name = "<init>") && (Nat.beq (am_w i) 0 && Nat.beq (am_z i) (n + 1))))
/-- a switch: each of its numbers leads to the block that the offset names -/
def am_swl (m pc : Nat) (tb : List (Int32 × Nat)) (ps : List (Int × Int)) (f : Nat → Nat) : Bool := match tb, ps with
  | [], [] => true
  | (k, b) :: tb, (a, o) :: ps => decide (k.toInt = a) && (decide ((pc : Int) + o = (f b : Int)) && am_swl m pc tb ps f)
  | _, _ => false
def am_tbl (lo : Int) (os : List Int) : List (Int × Int) := match os with
  | [] => []
  | o :: os => (lo, o) :: am_tbl (lo + 1) os
noncomputable def am_chk (m pc : Nat) (i : am_P) : Bool := match am_srt i with
  | 0 => decide (decode (am_cd m) pc = .ok (i.1, am_len i)) && (match i.1 with
    | .aload_n n => Nat.beq (am_len i) 1 && Nat.beq n.val (am_x i)
    | .iload_n n => Nat.beq (am_len i) 1 && Nat.beq n.val (am_x i)
    | .lload_n n => Nat.beq (am_len i) 1 && Nat.beq n.val (am_x i)
    | .astore_n n => Nat.beq (am_len i) 1 && Nat.beq n.val (am_x i)
    | .istore_n n => Nat.beq (am_len i) 1 && Nat.beq n.val (am_x i)
    | .lstore_n n => Nat.beq (am_len i) 1 && Nat.beq n.val (am_x i)
    | .aload n => Nat.beq (am_len i) 2 && Nat.beq n (am_x i)
    | .iload n => Nat.beq (am_len i) 2 && Nat.beq n (am_x i)
    | .lload n => Nat.beq (am_len i) 2 && Nat.beq n (am_x i)
    | .astore n => Nat.beq (am_len i) 2 && Nat.beq n (am_x i)
    | .istore n => Nat.beq (am_len i) 2 && Nat.beq n (am_x i)
    | .lstore n => Nat.beq (am_len i) 2 && Nat.beq n (am_x i)
    | .iinc k n => Nat.beq (am_len i) 3 && (Nat.beq k (am_x i) && decide (Int32.ofInt n = am_im i))
    | .iconst n => Nat.beq (am_len i) 1 && decide (Int32.ofInt n = am_im i)
    | .bipush n => Nat.beq (am_len i) 2 && decide ((Int8.ofInt n).toInt32 = am_im i)
    | .sipush n => Nat.beq (am_len i) 3 && decide ((Int16.ofInt n).toInt32 = am_im i)
    | .ldc k => Nat.beq (am_len i) 2 && cond (Nat.beq (am_w i) 1) (decide ((am_nm m).cls = "EvenlyPoured$Tape") && Nat.beq k 52) (am_lk (am_z i) (.constant (am_nm m).cls k (am_im i)))
    | .ldc_w k => Nat.beq (am_len i) 3 && am_lk (am_z i) (.constant (am_nm m).cls k (am_im i))
    | .lconst n => Nat.beq (am_len i) 1 && decide (Int64.ofNat n.val = am_kl (am_x i))
    | .ldc2_w k => Nat.beq (am_len i) 3 && am_lk (am_z i) (.constantLong (am_nm m).cls k (am_kl (am_x i)))
    | .getfield k => Nat.beq (am_len i) 3 && cond (Nat.beq (am_x i) 26) (cond (Nat.beq (am_y i) 0) (Nat.beq (am_w i) 0 && am_lk (am_z i) (.fieldLink (am_nm m).cls k "java/lang/String" "coder" "B")) (Nat.beq (am_y i) 1 && (Nat.beq (am_w i) 1 && am_lk (am_z i) (.fieldLink (am_nm m).cls k "java/lang/String" "value" "[B")))) (am_fl (am_nm m).cls k (am_x i) (am_y i) (am_z i) (am_w i))
    | .putfield k => Nat.beq (am_len i) 3 && am_fp (am_nm m).cls (am_nm m).name k (am_x i) (am_y i) (am_z i) (am_w i)
    | .getstatic k => Nat.beq (am_len i) 3 && (match am_x i with
      | 0 => am_nk (am_z i) (.fieldLinkNest (am_nm m).cls k "EvenlyPoured" "UNDER" "[I" "EvenlyPoured")
      | 1 => am_lk (am_z i) (.fieldLink (am_nm m).cls k "java/lang/String" "COMPACT_STRINGS" "Z")
      | _ => am_lk (am_z i) (.fieldLink (am_nm m).cls k "jdk/internal/util/Preconditions" "SIOOBE_FORMATTER" "Ljava/util/function/BiFunction;"))
    | .baload => Nat.beq (am_len i) 1 && (Nat.beq (am_x i) 21 || Nat.beq (am_x i) 25)
    | .aaload => Nat.beq (am_len i) 1 && (Nat.ble 22 (am_x i) && Nat.ble (am_x i) 24)
    | .aastore => Nat.beq (am_len i) 1 && (Nat.ble 22 (am_x i) && (Nat.ble (am_x i) 24 && decide (am_kn (am_y i) = am_rc (am_x i))))
    | .newarray t => Nat.beq (am_len i) 2 && (match t with | .int => Nat.beq (am_x i) 20 | .boolean => Nat.beq (am_x i) 21 | _ => false)
    | .anewarray k => Nat.beq (am_len i) 3 && (Nat.ble 22 (am_x i) && (Nat.ble (am_x i) 24 && am_lk (am_z i) (.classLink (am_nm m).cls k (am_rc (am_x i)))))
    | .new k => Nat.beq (am_len i) 3 && (match am_cl[am_x i]? with | some q => Nat.beq (am_y i) q.2.2 && am_lk (am_z i) (.classLink (am_nm m).cls k q.1) | none => false)
    | .invokespecial k => Nat.beq (am_len i) 3 && am_lk (am_z i) (.methodLink (am_nm m).cls k objectInit)
    | .invokestatic k => Nat.beq (am_len i) 3 && (match am_w i with | 0 => am_lk (am_z i) (.methodLink (am_nm m).cls k arraycopyName) | 1 => am_lk (am_z i) (.methodLink (am_nm m).cls k Lib.Math.max.name) | 2 => am_lk (am_z i) (.methodLink (am_nm m).cls k Lib.Math.min.name) | _ => am_lk (am_z i) (.methodLink (am_nm m).cls k Lib.Math.abs.name))
    | .athrow => true
    | .checkcast _ => true
    | _ => Nat.beq (am_len i) 1)
  | 1 => (match i.1 with
    | .nop => Nat.beq (am_pc m (am_x i)) pc
    | .goto o => decide (decode (am_cd m) pc = .ok (i.1, 3)) && decide ((pc : Int) + o = (am_pc m (am_x i) : Int))
    | .ifCond _ o => decide (decode (am_cd m) pc = .ok (i.1, 3)) && (decide ((pc : Int) + o = (am_pc m (am_x i) : Int)) && Nat.beq (am_pc m (am_y i)) (pc + 3))
    | .if_icmp _ o => decide (decode (am_cd m) pc = .ok (i.1, 3)) && (decide ((pc : Int) + o = (am_pc m (am_x i) : Int)) && Nat.beq (am_pc m (am_y i)) (pc + 3))
    | .ifnonnull o => decide (decode (am_cd m) pc = .ok (i.1, 3)) && (decide ((pc : Int) + o = (am_pc m (am_x i) : Int)) && Nat.beq (am_pc m (am_y i)) (pc + 3))
    | .tableswitch d lo hi os => decide (decode (am_cd m) pc = .ok (i.1, am_len i)) && (decide ((pc : Int) + d = (am_pc m (am_y i) : Int)) && (decide (lo + (os.toList.length : Int) = hi + 1) && (decide (lo ≤ hi) && am_swl m pc (am_tb i) (am_tbl lo os.toList) (am_pc m))))
    | .lookupswitch d ps => decide (decode (am_cd m) pc = .ok (i.1, am_len i)) && (decide ((pc : Int) + d = (am_pc m (am_y i) : Int)) && ((ps.toList.zip (ps.toList.drop 1)).all (fun (a, next) => a.1 < next.1) && am_swl m pc (am_tb i) ps.toList (am_pc m)))
    | _ => false)
  | 2 => decide (decode (am_cd m) pc = .ok (i.1, 3)) && (Nat.ble 217 (am_x i) || (Nat.beq (am_pc m (am_y i)) (pc + 3) && (match i.1 with
    | .invokevirtual k => am_cw (am_nm m).cls k i 0
    | .invokestatic k => am_cw (am_nm m).cls k i 1
    | .invokespecial k => am_cw (am_nm m).cls k i 2
    | _ => false)))
  | _ => decide (decode (am_cd m) pc = .ok (i.1, 1)) && (match i.1 with
    | .ireturn => (match am_rt m with | some .int => Nat.beq (am_w i) 0 | some .boolean => Nat.beq (am_w i) 1 | some .char => Nat.beq (am_w i) 2 | some .byte => Nat.beq (am_w i) 3 | _ => false)
    | .lreturn => decide (am_rt m = some .long)
    | .areturn => (match am_rt m with | some (.object _) => true | some (.array _) => true | _ => false)
    | .return_ => decide (am_rt m = none)
    | _ => false)
noncomputable def am_oks (m : Nat) : Nat → List am_P → Bool
  | _, [] => true
  | pc, i :: is => am_chk m pc i && am_oks m (pc + am_len i) is
noncomputable def am_okm (m : Nat) : Bool := (List.range (am_pg.getD m []).length).all (fun b => am_oks m (am_pc m b) (am_blk m b))
theorem am_mem_W {k j : Nat} {w : Cond} (h : (am_tp k)[j]? = some w) (g : goodWord w = true) : w ∈ am_W := List.mem_filter.mpr ⟨am_tp_in (List.mem_of_getElem? h), g⟩
end
section
/-! EACH INSTRUCTION is as its row says: decided, some blocks at a time -/
noncomputable def ok_c (c : Nat × Nat × Nat) : Bool := (List.range c.2.2).all (fun b => am_oks c.1 (am_pc c.1 (c.2.1 + b)) (am_blk c.1 (c.2.1 + b)))
theorem ok_0 : ok_c (0, 0, 1) = true := by decide +kernel
theorem ok_1 : ok_c (1, 0, 1) = true := by decide +kernel
theorem ok_2 : ok_c (2, 0, 8) = true := by decide +kernel
theorem ok_3 : ok_c (3, 0, 18) = true := by decide +kernel
theorem ok_4 : ok_c (4, 0, 4) = true := by decide +kernel
theorem ok_5 : ok_c (5, 0, 5) = true := by decide +kernel
theorem ok_6 : ok_c (6, 0, 6) = true := by decide +kernel
theorem ok_7 : ok_c (7, 0, 1) = true := by decide +kernel
theorem ok_8 : ok_c (8, 0, 4) = true := by decide +kernel
theorem ok_9 : ok_c (9, 0, 9) = true := by decide +kernel
theorem ok_10 : ok_c (10, 0, 2) = true := by decide +kernel
theorem ok_11 : ok_c (11, 0, 5) = true := by decide +kernel
theorem ok_12 : ok_c (12, 0, 3) = true := by decide +kernel
theorem ok_13 : ok_c (13, 0, 1) = true := by decide +kernel
theorem ok_14 : ok_c (14, 0, 11) = true := by decide +kernel
theorem ok_15 : ok_c (15, 0, 1) = true := by decide +kernel
theorem ok_16 : ok_c (16, 0, 1) = true := by decide +kernel
theorem ok_17 : ok_c (17, 0, 4) = true := by decide +kernel
theorem ok_18 : ok_c (18, 0, 5) = true := by decide +kernel
theorem ok_19 : ok_c (19, 0, 5) = true := by decide +kernel
theorem ok_20 : ok_c (20, 0, 27) = true := by decide +kernel
theorem ok_21 : ok_c (21, 0, 15) = true := by decide +kernel
theorem ok_22 : ok_c (22, 0, 5) = true := by decide +kernel
theorem ok_23 : ok_c (23, 0, 3) = true := by decide +kernel
theorem ok_24 : ok_c (24, 0, 7) = true := by decide +kernel
theorem ok_25 : ok_c (25, 0, 1) = true := by decide +kernel
theorem ok_26 : ok_c (26, 0, 14) = true := by decide +kernel
theorem ok_27 : ok_c (27, 0, 15) = true := by decide +kernel
theorem ok_28 : ok_c (28, 0, 1) = true := by decide +kernel
theorem ok_29 : ok_c (29, 0, 8) = true := by decide +kernel
theorem ok_30 : ok_c (30, 0, 6) = true := by decide +kernel
theorem ok_31 : ok_c (31, 0, 6) = true := by decide +kernel
theorem ok_32 : ok_c (32, 0, 3) = true := by decide +kernel
theorem ok_33 : ok_c (33, 0, 16) = true := by decide +kernel
theorem ok_34 : ok_c (34, 0, 14) = true := by decide +kernel
theorem ok_35 : ok_c (35, 0, 6) = true := by decide +kernel
theorem ok_36 : ok_c (36, 0, 3) = true := by decide +kernel
theorem ok_37 : ok_c (37, 0, 11) = true := by decide +kernel
theorem ok_38 : ok_c (38, 0, 8) = true := by decide +kernel
theorem ok_39 : ok_c (39, 0, 1) = true := by decide +kernel
theorem ok_40 : ok_c (40, 0, 3) = true := by decide +kernel
theorem ok_41 : ok_c (41, 0, 4) = true := by decide +kernel
theorem ok_42 : ok_c (42, 0, 5) = true := by decide +kernel
theorem ok_43 : ok_c (43, 0, 7) = true := by decide +kernel
theorem ok_44 : ok_c (44, 0, 8) = true := by decide +kernel
theorem ok_45 : ok_c (45, 0, 1) = true := by decide +kernel
theorem ok_46 : ok_c (46, 0, 10) = true := by decide +kernel
theorem ok_47 : ok_c (47, 0, 13) = true := by decide +kernel
theorem ok_48 : ok_c (48, 0, 15) = true := by decide +kernel
theorem ok_49 : ok_c (49, 0, 4) = true := by decide +kernel
theorem ok_50 : ok_c (50, 0, 15) = true := by decide +kernel
theorem ok_51 : ok_c (51, 0, 7) = true := by decide +kernel
theorem ok_52 : ok_c (52, 0, 5) = true := by decide +kernel
theorem ok_53 : ok_c (53, 0, 5) = true := by decide +kernel
theorem ok_54 : ok_c (54, 0, 3) = true := by decide +kernel
theorem ok_55 : ok_c (55, 0, 1) = true := by decide +kernel
theorem ok_56 : ok_c (56, 0, 1) = true := by decide +kernel
theorem ok_57 : ok_c (57, 0, 1) = true := by decide +kernel
theorem ok_58 : ok_c (58, 0, 4) = true := by decide +kernel
theorem ok_59 : ok_c (59, 0, 4) = true := by decide +kernel
theorem ok_60 : ok_c (60, 0, 4) = true := by decide +kernel
theorem ok_61 : ok_c (61, 0, 1) = true := by decide +kernel
theorem ok_62 : ok_c (62, 0, 29) = true := by decide +kernel
theorem ok_63 : ok_c (63, 0, 4) = true := by decide +kernel
theorem ok_64 : ok_c (64, 0, 22) = true := by decide +kernel
theorem ok_65 : ok_c (65, 0, 1) = true := by decide +kernel
theorem ok_66 : ok_c (66, 0, 3) = true := by decide +kernel
theorem ok_67 : ok_c (66, 3, 13) = true := by decide +kernel
theorem ok_68 : ok_c (66, 16, 3) = true := by decide +kernel
theorem ok_69 : ok_c (67, 0, 10) = true := by decide +kernel
theorem ok_70 : ok_c (68, 0, 5) = true := by decide +kernel
theorem ok_71 : ok_c (69, 0, 5) = true := by decide +kernel
theorem ok_72 : ok_c (70, 0, 8) = true := by decide +kernel
theorem ok_73 : ok_c (71, 0, 6) = true := by decide +kernel
theorem ok_74 : ok_c (72, 0, 19) = true := by decide +kernel
theorem ok_75 : ok_c (73, 0, 6) = true := by decide +kernel
theorem ok_76 : ok_c (74, 0, 5) = true := by decide +kernel
theorem ok_77 : ok_c (75, 0, 10) = true := by decide +kernel
theorem ok_78 : ok_c (76, 0, 5) = true := by decide +kernel
theorem ok_79 : ok_c (77, 0, 5) = true := by decide +kernel
theorem ok_80 : ok_c (78, 0, 5) = true := by decide +kernel
theorem ok_81 : ok_c (79, 0, 5) = true := by decide +kernel
theorem ok_82 : ok_c (80, 0, 5) = true := by decide +kernel
theorem ok_83 : ok_c (81, 0, 6) = true := by decide +kernel
theorem ok_84 : ok_c (82, 0, 7) = true := by decide +kernel
theorem ok_85 : ok_c (83, 0, 4) = true := by decide +kernel
theorem ok_86 : ok_c (84, 0, 11) = true := by decide +kernel
theorem ok_87 : ok_c (85, 0, 13) = true := by decide +kernel
theorem ok_88 : ok_c (86, 0, 10) = true := by decide +kernel
theorem ok_89 : ok_c (87, 0, 11) = true := by decide +kernel
theorem ok_90 : ok_c (88, 0, 5) = true := by decide +kernel
theorem ok_91 : ok_c (89, 0, 9) = true := by decide +kernel
theorem ok_92 : ok_c (90, 0, 16) = true := by decide +kernel
theorem ok_93 : ok_c (91, 0, 9) = true := by decide +kernel
theorem ok_94 : ok_c (92, 0, 2) = true := by decide +kernel
theorem ok_95 : ok_c (93, 0, 8) = true := by decide +kernel
theorem ok_96 : ok_c (94, 0, 7) = true := by decide +kernel
theorem ok_97 : ok_c (95, 0, 8) = true := by decide +kernel
theorem ok_98 : ok_c (96, 0, 9) = true := by decide +kernel
theorem ok_99 : ok_c (97, 0, 6) = true := by decide +kernel
theorem ok_100 : ok_c (98, 0, 4) = true := by decide +kernel
theorem ok_101 : ok_c (99, 0, 5) = true := by decide +kernel
theorem ok_102 : ok_c (100, 0, 10) = true := by decide +kernel
theorem ok_103 : ok_c (101, 0, 13) = true := by decide +kernel
theorem ok_104 : ok_c (102, 0, 7) = true := by decide +kernel
theorem ok_105 : ok_c (103, 0, 16) = true := by decide +kernel
theorem ok_106 : ok_c (104, 0, 8) = true := by decide +kernel
theorem ok_107 : ok_c (105, 0, 19) = true := by decide +kernel
theorem ok_108 : ok_c (106, 0, 8) = true := by decide +kernel
theorem ok_109 : ok_c (107, 0, 4) = true := by decide +kernel
theorem ok_110 : ok_c (108, 0, 21) = true := by decide +kernel
theorem ok_111 : ok_c (109, 0, 17) = true := by decide +kernel
theorem ok_112 : ok_c (110, 0, 16) = true := by decide +kernel
theorem ok_113 : ok_c (111, 0, 9) = true := by decide +kernel
theorem ok_114 : ok_c (112, 0, 7) = true := by decide +kernel
theorem ok_115 : ok_c (113, 0, 6) = true := by decide +kernel
theorem ok_116 : ok_c (114, 0, 13) = true := by decide +kernel
theorem ok_117 : ok_c (115, 0, 5) = true := by decide +kernel
theorem ok_118 : ok_c (116, 0, 8) = true := by decide +kernel
theorem ok_119 : ok_c (117, 0, 5) = true := by decide +kernel
theorem ok_120 : ok_c (118, 0, 7) = true := by decide +kernel
theorem ok_121 : ok_c (119, 0, 8) = true := by decide +kernel
theorem ok_122 : ok_c (120, 0, 17) = true := by decide +kernel
theorem ok_123 : ok_c (121, 0, 14) = true := by decide +kernel
theorem ok_124 : ok_c (122, 0, 22) = true := by decide +kernel
theorem ok_125 : ok_c (123, 0, 26) = true := by decide +kernel
theorem ok_126 : ok_c (124, 0, 13) = true := by decide +kernel
theorem ok_127 : ok_c (125, 0, 5) = true := by decide +kernel
theorem ok_128 : ok_c (126, 0, 5) = true := by decide +kernel
theorem ok_129 : ok_c (127, 0, 5) = true := by decide +kernel
theorem ok_130 : ok_c (128, 0, 6) = true := by decide +kernel
end
section
theorem ok_131 : ok_c (129, 0, 1) = true := by decide +kernel
theorem ok_132 : ok_c (129, 1, 6) = true := by decide +kernel
theorem ok_133 : ok_c (130, 0, 1) = true := by decide +kernel
theorem ok_134 : ok_c (131, 0, 2) = true := by decide +kernel
theorem ok_135 : ok_c (132, 0, 2) = true := by decide +kernel
theorem ok_136 : ok_c (133, 0, 40) = true := by decide +kernel
theorem ok_137 : ok_c (134, 0, 15) = true := by decide +kernel
theorem ok_138 : ok_c (135, 0, 6) = true := by decide +kernel
theorem ok_139 : ok_c (136, 0, 5) = true := by decide +kernel
theorem ok_140 : ok_c (137, 0, 8) = true := by decide +kernel
theorem ok_141 : ok_c (138, 0, 6) = true := by decide +kernel
theorem ok_142 : ok_c (139, 0, 4) = true := by decide +kernel
theorem ok_143 : ok_c (140, 0, 23) = true := by decide +kernel
theorem ok_144 : ok_c (140, 23, 17) = true := by decide +kernel
theorem ok_145 : ok_c (141, 0, 3) = true := by decide +kernel
theorem ok_146 : ok_c (142, 0, 9) = true := by decide +kernel
theorem ok_147 : ok_c (143, 0, 22) = true := by decide +kernel
theorem ok_148 : ok_c (144, 0, 6) = true := by decide +kernel
theorem ok_149 : ok_c (145, 0, 5) = true := by decide +kernel
theorem ok_150 : ok_c (146, 0, 20) = true := by decide +kernel
theorem ok_151 : ok_c (147, 0, 29) = true := by decide +kernel
theorem ok_152 : ok_c (148, 0, 8) = true := by decide +kernel
theorem ok_153 : ok_c (149, 0, 16) = true := by decide +kernel
theorem ok_154 : ok_c (150, 0, 28) = true := by decide +kernel
theorem ok_155 : ok_c (151, 0, 12) = true := by decide +kernel
theorem ok_156 : ok_c (152, 0, 12) = true := by decide +kernel
theorem ok_157 : ok_c (153, 0, 13) = true := by decide +kernel
theorem ok_158 : ok_c (154, 0, 20) = true := by decide +kernel
theorem ok_159 : ok_c (155, 0, 9) = true := by decide +kernel
theorem ok_160 : ok_c (156, 0, 4) = true := by decide +kernel
theorem ok_161 : ok_c (157, 0, 6) = true := by decide +kernel
theorem ok_162 : ok_c (158, 0, 4) = true := by decide +kernel
theorem ok_163 : ok_c (159, 0, 1) = true := by decide +kernel
theorem ok_164 : ok_c (160, 0, 5) = true := by decide +kernel
theorem ok_165 : ok_c (161, 0, 5) = true := by decide +kernel
theorem ok_166 : ok_c (162, 0, 4) = true := by decide +kernel
theorem ok_167 : ok_c (163, 0, 11) = true := by decide +kernel
theorem ok_168 : ok_c (164, 0, 10) = true := by decide +kernel
theorem ok_169 : ok_c (165, 0, 7) = true := by decide +kernel
theorem ok_170 : ok_c (166, 0, 12) = true := by decide +kernel
theorem ok_171 : ok_c (167, 0, 11) = true := by decide +kernel
theorem ok_172 : ok_c (168, 0, 10) = true := by decide +kernel
theorem ok_173 : ok_c (169, 0, 23) = true := by decide +kernel
theorem ok_174 : ok_c (170, 0, 7) = true := by decide +kernel
theorem ok_175 : ok_c (171, 0, 10) = true := by decide +kernel
theorem ok_176 : ok_c (172, 0, 8) = true := by decide +kernel
theorem ok_177 : ok_c (173, 0, 12) = true := by decide +kernel
theorem ok_178 : ok_c (174, 0, 6) = true := by decide +kernel
theorem ok_179 : ok_c (175, 0, 28) = true := by decide +kernel
theorem ok_180 : ok_c (176, 0, 4) = true := by decide +kernel
theorem ok_181 : ok_c (177, 0, 7) = true := by decide +kernel
theorem ok_182 : ok_c (178, 0, 15) = true := by decide +kernel
theorem ok_183 : ok_c (179, 0, 8) = true := by decide +kernel
theorem ok_184 : ok_c (180, 0, 8) = true := by decide +kernel
theorem ok_185 : ok_c (181, 0, 17) = true := by decide +kernel
theorem ok_186 : ok_c (182, 0, 4) = true := by decide +kernel
theorem ok_187 : ok_c (183, 0, 7) = true := by decide +kernel
theorem ok_188 : ok_c (184, 0, 22) = true := by decide +kernel
theorem ok_189 : ok_c (185, 0, 8) = true := by decide +kernel
theorem ok_190 : ok_c (186, 0, 11) = true := by decide +kernel
theorem ok_191 : ok_c (187, 0, 9) = true := by decide +kernel
theorem ok_192 : ok_c (188, 0, 15) = true := by decide +kernel
theorem ok_193 : ok_c (189, 0, 26) = true := by decide +kernel
theorem ok_194 : ok_c (189, 26, 4) = true := by decide +kernel
theorem ok_195 : ok_c (190, 0, 9) = true := by decide +kernel
theorem ok_196 : ok_c (191, 0, 21) = true := by decide +kernel
theorem ok_197 : ok_c (192, 0, 18) = true := by decide +kernel
theorem ok_198 : ok_c (193, 0, 24) = true := by decide +kernel
theorem ok_199 : ok_c (194, 0, 7) = true := by decide +kernel
theorem ok_200 : ok_c (195, 0, 6) = true := by decide +kernel
theorem ok_201 : ok_c (196, 0, 14) = true := by decide +kernel
theorem ok_202 : ok_c (197, 0, 10) = true := by decide +kernel
theorem ok_203 : ok_c (198, 0, 12) = true := by decide +kernel
theorem ok_204 : ok_c (199, 0, 16) = true := by decide +kernel
theorem ok_205 : ok_c (200, 0, 2) = true := by decide +kernel
theorem ok_206 : ok_c (201, 0, 18) = true := by decide +kernel
theorem ok_207 : ok_c (202, 0, 14) = true := by decide +kernel
theorem ok_208 : ok_c (203, 0, 27) = true := by decide +kernel
theorem ok_209 : ok_c (204, 0, 23) = true := by decide +kernel
theorem ok_210 : ok_c (205, 0, 9) = true := by decide +kernel
theorem ok_211 : ok_c (206, 0, 15) = true := by decide +kernel
end
section
theorem ok_212 : ok_c (207, 0, 5) = true := by decide +kernel
theorem ok_213 : ok_c (207, 5, 1) = true := by decide +kernel
theorem ok_214 : ok_c (207, 6, 4) = true := by decide +kernel
theorem ok_215 : ok_c (207, 10, 4) = true := by decide +kernel
theorem ok_216 : ok_c (207, 14, 7) = true := by decide +kernel
theorem ok_217 : ok_c (207, 21, 4) = true := by decide +kernel
theorem ok_218 : ok_c (207, 25, 9) = true := by decide +kernel
theorem ok_219 : ok_c (207, 34, 4) = true := by decide +kernel
theorem ok_220 : ok_c (207, 38, 7) = true := by decide +kernel
theorem ok_221 : ok_c (207, 45, 4) = true := by decide +kernel
theorem ok_222 : ok_c (207, 49, 9) = true := by decide +kernel
theorem ok_223 : ok_c (207, 58, 7) = true := by decide +kernel
theorem ok_224 : ok_c (207, 65, 4) = true := by decide +kernel
theorem ok_225 : ok_c (207, 69, 7) = true := by decide +kernel
theorem ok_226 : ok_c (207, 76, 6) = true := by decide +kernel
theorem ok_227 : ok_c (207, 82, 7) = true := by decide +kernel
theorem ok_228 : ok_c (207, 89, 5) = true := by decide +kernel
theorem ok_229 : ok_c (207, 94, 3) = true := by decide +kernel
theorem ok_230 : ok_c (207, 97, 1) = true := by decide +kernel
theorem ok_231 : ok_c (207, 98, 7) = true := by decide +kernel
theorem ok_232 : ok_c (207, 105, 8) = true := by decide +kernel
theorem ok_233 : ok_c (207, 113, 1) = true := by decide +kernel
theorem ok_234 : ok_c (207, 114, 3) = true := by decide +kernel
theorem ok_235 : ok_c (207, 117, 1) = true := by decide +kernel
theorem ok_236 : ok_c (207, 118, 3) = true := by decide +kernel
theorem ok_237 : ok_c (207, 121, 1) = true := by decide +kernel
theorem ok_238 : ok_c (207, 122, 3) = true := by decide +kernel
theorem ok_239 : ok_c (207, 125, 1) = true := by decide +kernel
theorem ok_240 : ok_c (207, 126, 3) = true := by decide +kernel
theorem ok_241 : ok_c (207, 129, 6) = true := by decide +kernel
theorem ok_242 : ok_c (208, 0, 2) = true := by decide +kernel
theorem ok_243 : ok_c (209, 0, 6) = true := by decide +kernel
theorem ok_244 : ok_c (210, 0, 4) = true := by decide +kernel
theorem ok_245 : ok_c (211, 0, 5) = true := by decide +kernel
theorem ok_246 : ok_c (212, 0, 2) = true := by decide +kernel
theorem ok_247 : ok_c (213, 0, 2) = true := by decide +kernel
theorem ok_248 : ok_c (214, 0, 4) = true := by decide +kernel
theorem ok_249 : ok_c (215, 0, 4) = true := by decide +kernel
theorem ok_250 : ok_c (216, 0, 5) = true := by decide +kernel
end
section
def ok_l0 : List (Nat × Nat × Nat) := [(0, 0, 1), (1, 0, 1), (2, 0, 8), (3, 0, 18), (4, 0, 4), (5, 0, 5), (6, 0, 6), (7, 0, 1), (8, 0, 4), (9, 0, 9), (10, 0, 2), (11, 0, 5), (12, 0, 3), (13, 0, 1), (14, 0, 11), (15, 0, 1), (16, 0, 1), (17, 0, 4), (18, 0, 5), (19, 0, 5)]
theorem ok_a0 : ∀ c ∈ ok_l0, ok_c c = true := List.forall_mem_cons.mpr ⟨ok_0, List.forall_mem_cons.mpr ⟨ok_1, List.forall_mem_cons.mpr ⟨ok_2, List.forall_mem_cons.mpr ⟨ok_3, List.forall_mem_cons.mpr ⟨ok_4, List.forall_mem_cons.mpr ⟨ok_5, List.forall_mem_cons.mpr ⟨ok_6, List.forall_mem_cons.mpr ⟨ok_7, List.forall_mem_cons.mpr ⟨ok_8, List.forall_mem_cons.mpr ⟨ok_9, List.forall_mem_cons.mpr ⟨ok_10, List.forall_mem_cons.mpr ⟨ok_11, List.forall_mem_cons.mpr ⟨ok_12, List.forall_mem_cons.mpr ⟨ok_13, List.forall_mem_cons.mpr ⟨ok_14, List.forall_mem_cons.mpr ⟨ok_15, List.forall_mem_cons.mpr ⟨ok_16, List.forall_mem_cons.mpr ⟨ok_17, List.forall_mem_cons.mpr ⟨ok_18, List.forall_mem_cons.mpr ⟨ok_19, fun _ h => absurd h List.not_mem_nil⟩⟩⟩⟩⟩⟩⟩⟩⟩⟩⟩⟩⟩⟩⟩⟩⟩⟩⟩⟩
def ok_l1 : List (Nat × Nat × Nat) := [(20, 0, 27), (21, 0, 15), (22, 0, 5), (23, 0, 3), (24, 0, 7), (25, 0, 1), (26, 0, 14), (27, 0, 15), (28, 0, 1), (29, 0, 8), (30, 0, 6), (31, 0, 6), (32, 0, 3), (33, 0, 16), (34, 0, 14), (35, 0, 6), (36, 0, 3), (37, 0, 11), (38, 0, 8), (39, 0, 1)]
theorem ok_a1 : ∀ c ∈ ok_l1, ok_c c = true := List.forall_mem_cons.mpr ⟨ok_20, List.forall_mem_cons.mpr ⟨ok_21, List.forall_mem_cons.mpr ⟨ok_22, List.forall_mem_cons.mpr ⟨ok_23, List.forall_mem_cons.mpr ⟨ok_24, List.forall_mem_cons.mpr ⟨ok_25, List.forall_mem_cons.mpr ⟨ok_26, List.forall_mem_cons.mpr ⟨ok_27, List.forall_mem_cons.mpr ⟨ok_28, List.forall_mem_cons.mpr ⟨ok_29, List.forall_mem_cons.mpr ⟨ok_30, List.forall_mem_cons.mpr ⟨ok_31, List.forall_mem_cons.mpr ⟨ok_32, List.forall_mem_cons.mpr ⟨ok_33, List.forall_mem_cons.mpr ⟨ok_34, List.forall_mem_cons.mpr ⟨ok_35, List.forall_mem_cons.mpr ⟨ok_36, List.forall_mem_cons.mpr ⟨ok_37, List.forall_mem_cons.mpr ⟨ok_38, List.forall_mem_cons.mpr ⟨ok_39, fun _ h => absurd h List.not_mem_nil⟩⟩⟩⟩⟩⟩⟩⟩⟩⟩⟩⟩⟩⟩⟩⟩⟩⟩⟩⟩
def ok_l2 : List (Nat × Nat × Nat) := [(40, 0, 3), (41, 0, 4), (42, 0, 5), (43, 0, 7), (44, 0, 8), (45, 0, 1), (46, 0, 10), (47, 0, 13), (48, 0, 15), (49, 0, 4), (50, 0, 15), (51, 0, 7), (52, 0, 5), (53, 0, 5), (54, 0, 3), (55, 0, 1), (56, 0, 1), (57, 0, 1), (58, 0, 4), (59, 0, 4)]
theorem ok_a2 : ∀ c ∈ ok_l2, ok_c c = true := List.forall_mem_cons.mpr ⟨ok_40, List.forall_mem_cons.mpr ⟨ok_41, List.forall_mem_cons.mpr ⟨ok_42, List.forall_mem_cons.mpr ⟨ok_43, List.forall_mem_cons.mpr ⟨ok_44, List.forall_mem_cons.mpr ⟨ok_45, List.forall_mem_cons.mpr ⟨ok_46, List.forall_mem_cons.mpr ⟨ok_47, List.forall_mem_cons.mpr ⟨ok_48, List.forall_mem_cons.mpr ⟨ok_49, List.forall_mem_cons.mpr ⟨ok_50, List.forall_mem_cons.mpr ⟨ok_51, List.forall_mem_cons.mpr ⟨ok_52, List.forall_mem_cons.mpr ⟨ok_53, List.forall_mem_cons.mpr ⟨ok_54, List.forall_mem_cons.mpr ⟨ok_55, List.forall_mem_cons.mpr ⟨ok_56, List.forall_mem_cons.mpr ⟨ok_57, List.forall_mem_cons.mpr ⟨ok_58, List.forall_mem_cons.mpr ⟨ok_59, fun _ h => absurd h List.not_mem_nil⟩⟩⟩⟩⟩⟩⟩⟩⟩⟩⟩⟩⟩⟩⟩⟩⟩⟩⟩⟩
def ok_l3 : List (Nat × Nat × Nat) := [(60, 0, 4), (61, 0, 1), (62, 0, 29), (63, 0, 4), (64, 0, 22), (65, 0, 1), (66, 0, 3), (66, 3, 13), (66, 16, 3), (67, 0, 10), (68, 0, 5), (69, 0, 5), (70, 0, 8), (71, 0, 6), (72, 0, 19), (73, 0, 6), (74, 0, 5), (75, 0, 10), (76, 0, 5), (77, 0, 5)]
theorem ok_a3 : ∀ c ∈ ok_l3, ok_c c = true := List.forall_mem_cons.mpr ⟨ok_60, List.forall_mem_cons.mpr ⟨ok_61, List.forall_mem_cons.mpr ⟨ok_62, List.forall_mem_cons.mpr ⟨ok_63, List.forall_mem_cons.mpr ⟨ok_64, List.forall_mem_cons.mpr ⟨ok_65, List.forall_mem_cons.mpr ⟨ok_66, List.forall_mem_cons.mpr ⟨ok_67, List.forall_mem_cons.mpr ⟨ok_68, List.forall_mem_cons.mpr ⟨ok_69, List.forall_mem_cons.mpr ⟨ok_70, List.forall_mem_cons.mpr ⟨ok_71, List.forall_mem_cons.mpr ⟨ok_72, List.forall_mem_cons.mpr ⟨ok_73, List.forall_mem_cons.mpr ⟨ok_74, List.forall_mem_cons.mpr ⟨ok_75, List.forall_mem_cons.mpr ⟨ok_76, List.forall_mem_cons.mpr ⟨ok_77, List.forall_mem_cons.mpr ⟨ok_78, List.forall_mem_cons.mpr ⟨ok_79, fun _ h => absurd h List.not_mem_nil⟩⟩⟩⟩⟩⟩⟩⟩⟩⟩⟩⟩⟩⟩⟩⟩⟩⟩⟩⟩
def ok_l4 : List (Nat × Nat × Nat) := [(78, 0, 5), (79, 0, 5), (80, 0, 5), (81, 0, 6), (82, 0, 7), (83, 0, 4), (84, 0, 11), (85, 0, 13), (86, 0, 10), (87, 0, 11), (88, 0, 5), (89, 0, 9), (90, 0, 16), (91, 0, 9), (92, 0, 2), (93, 0, 8), (94, 0, 7), (95, 0, 8), (96, 0, 9), (97, 0, 6)]
theorem ok_a4 : ∀ c ∈ ok_l4, ok_c c = true := List.forall_mem_cons.mpr ⟨ok_80, List.forall_mem_cons.mpr ⟨ok_81, List.forall_mem_cons.mpr ⟨ok_82, List.forall_mem_cons.mpr ⟨ok_83, List.forall_mem_cons.mpr ⟨ok_84, List.forall_mem_cons.mpr ⟨ok_85, List.forall_mem_cons.mpr ⟨ok_86, List.forall_mem_cons.mpr ⟨ok_87, List.forall_mem_cons.mpr ⟨ok_88, List.forall_mem_cons.mpr ⟨ok_89, List.forall_mem_cons.mpr ⟨ok_90, List.forall_mem_cons.mpr ⟨ok_91, List.forall_mem_cons.mpr ⟨ok_92, List.forall_mem_cons.mpr ⟨ok_93, List.forall_mem_cons.mpr ⟨ok_94, List.forall_mem_cons.mpr ⟨ok_95, List.forall_mem_cons.mpr ⟨ok_96, List.forall_mem_cons.mpr ⟨ok_97, List.forall_mem_cons.mpr ⟨ok_98, List.forall_mem_cons.mpr ⟨ok_99, fun _ h => absurd h List.not_mem_nil⟩⟩⟩⟩⟩⟩⟩⟩⟩⟩⟩⟩⟩⟩⟩⟩⟩⟩⟩⟩
def ok_l5 : List (Nat × Nat × Nat) := [(98, 0, 4), (99, 0, 5), (100, 0, 10), (101, 0, 13), (102, 0, 7), (103, 0, 16), (104, 0, 8), (105, 0, 19), (106, 0, 8), (107, 0, 4), (108, 0, 21), (109, 0, 17), (110, 0, 16), (111, 0, 9), (112, 0, 7), (113, 0, 6), (114, 0, 13), (115, 0, 5), (116, 0, 8), (117, 0, 5)]
theorem ok_a5 : ∀ c ∈ ok_l5, ok_c c = true := List.forall_mem_cons.mpr ⟨ok_100, List.forall_mem_cons.mpr ⟨ok_101, List.forall_mem_cons.mpr ⟨ok_102, List.forall_mem_cons.mpr ⟨ok_103, List.forall_mem_cons.mpr ⟨ok_104, List.forall_mem_cons.mpr ⟨ok_105, List.forall_mem_cons.mpr ⟨ok_106, List.forall_mem_cons.mpr ⟨ok_107, List.forall_mem_cons.mpr ⟨ok_108, List.forall_mem_cons.mpr ⟨ok_109, List.forall_mem_cons.mpr ⟨ok_110, List.forall_mem_cons.mpr ⟨ok_111, List.forall_mem_cons.mpr ⟨ok_112, List.forall_mem_cons.mpr ⟨ok_113, List.forall_mem_cons.mpr ⟨ok_114, List.forall_mem_cons.mpr ⟨ok_115, List.forall_mem_cons.mpr ⟨ok_116, List.forall_mem_cons.mpr ⟨ok_117, List.forall_mem_cons.mpr ⟨ok_118, List.forall_mem_cons.mpr ⟨ok_119, fun _ h => absurd h List.not_mem_nil⟩⟩⟩⟩⟩⟩⟩⟩⟩⟩⟩⟩⟩⟩⟩⟩⟩⟩⟩⟩
def ok_l6 : List (Nat × Nat × Nat) := [(118, 0, 7), (119, 0, 8), (120, 0, 17), (121, 0, 14), (122, 0, 22), (123, 0, 26), (124, 0, 13), (125, 0, 5), (126, 0, 5), (127, 0, 5), (128, 0, 6), (129, 0, 1), (129, 1, 6), (130, 0, 1), (131, 0, 2), (132, 0, 2), (133, 0, 40), (134, 0, 15), (135, 0, 6), (136, 0, 5)]
theorem ok_a6 : ∀ c ∈ ok_l6, ok_c c = true := List.forall_mem_cons.mpr ⟨ok_120, List.forall_mem_cons.mpr ⟨ok_121, List.forall_mem_cons.mpr ⟨ok_122, List.forall_mem_cons.mpr ⟨ok_123, List.forall_mem_cons.mpr ⟨ok_124, List.forall_mem_cons.mpr ⟨ok_125, List.forall_mem_cons.mpr ⟨ok_126, List.forall_mem_cons.mpr ⟨ok_127, List.forall_mem_cons.mpr ⟨ok_128, List.forall_mem_cons.mpr ⟨ok_129, List.forall_mem_cons.mpr ⟨ok_130, List.forall_mem_cons.mpr ⟨ok_131, List.forall_mem_cons.mpr ⟨ok_132, List.forall_mem_cons.mpr ⟨ok_133, List.forall_mem_cons.mpr ⟨ok_134, List.forall_mem_cons.mpr ⟨ok_135, List.forall_mem_cons.mpr ⟨ok_136, List.forall_mem_cons.mpr ⟨ok_137, List.forall_mem_cons.mpr ⟨ok_138, List.forall_mem_cons.mpr ⟨ok_139, fun _ h => absurd h List.not_mem_nil⟩⟩⟩⟩⟩⟩⟩⟩⟩⟩⟩⟩⟩⟩⟩⟩⟩⟩⟩⟩
def ok_l7 : List (Nat × Nat × Nat) := [(137, 0, 8), (138, 0, 6), (139, 0, 4), (140, 0, 23), (140, 23, 17), (141, 0, 3), (142, 0, 9), (143, 0, 22), (144, 0, 6), (145, 0, 5), (146, 0, 20), (147, 0, 29), (148, 0, 8), (149, 0, 16), (150, 0, 28), (151, 0, 12), (152, 0, 12), (153, 0, 13), (154, 0, 20), (155, 0, 9)]
theorem ok_a7 : ∀ c ∈ ok_l7, ok_c c = true := List.forall_mem_cons.mpr ⟨ok_140, List.forall_mem_cons.mpr ⟨ok_141, List.forall_mem_cons.mpr ⟨ok_142, List.forall_mem_cons.mpr ⟨ok_143, List.forall_mem_cons.mpr ⟨ok_144, List.forall_mem_cons.mpr ⟨ok_145, List.forall_mem_cons.mpr ⟨ok_146, List.forall_mem_cons.mpr ⟨ok_147, List.forall_mem_cons.mpr ⟨ok_148, List.forall_mem_cons.mpr ⟨ok_149, List.forall_mem_cons.mpr ⟨ok_150, List.forall_mem_cons.mpr ⟨ok_151, List.forall_mem_cons.mpr ⟨ok_152, List.forall_mem_cons.mpr ⟨ok_153, List.forall_mem_cons.mpr ⟨ok_154, List.forall_mem_cons.mpr ⟨ok_155, List.forall_mem_cons.mpr ⟨ok_156, List.forall_mem_cons.mpr ⟨ok_157, List.forall_mem_cons.mpr ⟨ok_158, List.forall_mem_cons.mpr ⟨ok_159, fun _ h => absurd h List.not_mem_nil⟩⟩⟩⟩⟩⟩⟩⟩⟩⟩⟩⟩⟩⟩⟩⟩⟩⟩⟩⟩
def ok_l8 : List (Nat × Nat × Nat) := [(156, 0, 4), (157, 0, 6), (158, 0, 4), (159, 0, 1), (160, 0, 5), (161, 0, 5), (162, 0, 4), (163, 0, 11), (164, 0, 10), (165, 0, 7), (166, 0, 12), (167, 0, 11), (168, 0, 10), (169, 0, 23), (170, 0, 7), (171, 0, 10), (172, 0, 8), (173, 0, 12), (174, 0, 6), (175, 0, 28)]
theorem ok_a8 : ∀ c ∈ ok_l8, ok_c c = true := List.forall_mem_cons.mpr ⟨ok_160, List.forall_mem_cons.mpr ⟨ok_161, List.forall_mem_cons.mpr ⟨ok_162, List.forall_mem_cons.mpr ⟨ok_163, List.forall_mem_cons.mpr ⟨ok_164, List.forall_mem_cons.mpr ⟨ok_165, List.forall_mem_cons.mpr ⟨ok_166, List.forall_mem_cons.mpr ⟨ok_167, List.forall_mem_cons.mpr ⟨ok_168, List.forall_mem_cons.mpr ⟨ok_169, List.forall_mem_cons.mpr ⟨ok_170, List.forall_mem_cons.mpr ⟨ok_171, List.forall_mem_cons.mpr ⟨ok_172, List.forall_mem_cons.mpr ⟨ok_173, List.forall_mem_cons.mpr ⟨ok_174, List.forall_mem_cons.mpr ⟨ok_175, List.forall_mem_cons.mpr ⟨ok_176, List.forall_mem_cons.mpr ⟨ok_177, List.forall_mem_cons.mpr ⟨ok_178, List.forall_mem_cons.mpr ⟨ok_179, fun _ h => absurd h List.not_mem_nil⟩⟩⟩⟩⟩⟩⟩⟩⟩⟩⟩⟩⟩⟩⟩⟩⟩⟩⟩⟩
def ok_l9 : List (Nat × Nat × Nat) := [(176, 0, 4), (177, 0, 7), (178, 0, 15), (179, 0, 8), (180, 0, 8), (181, 0, 17), (182, 0, 4), (183, 0, 7), (184, 0, 22), (185, 0, 8), (186, 0, 11), (187, 0, 9), (188, 0, 15), (189, 0, 26), (189, 26, 4), (190, 0, 9), (191, 0, 21), (192, 0, 18), (193, 0, 24), (194, 0, 7)]
theorem ok_a9 : ∀ c ∈ ok_l9, ok_c c = true := List.forall_mem_cons.mpr ⟨ok_180, List.forall_mem_cons.mpr ⟨ok_181, List.forall_mem_cons.mpr ⟨ok_182, List.forall_mem_cons.mpr ⟨ok_183, List.forall_mem_cons.mpr ⟨ok_184, List.forall_mem_cons.mpr ⟨ok_185, List.forall_mem_cons.mpr ⟨ok_186, List.forall_mem_cons.mpr ⟨ok_187, List.forall_mem_cons.mpr ⟨ok_188, List.forall_mem_cons.mpr ⟨ok_189, List.forall_mem_cons.mpr ⟨ok_190, List.forall_mem_cons.mpr ⟨ok_191, List.forall_mem_cons.mpr ⟨ok_192, List.forall_mem_cons.mpr ⟨ok_193, List.forall_mem_cons.mpr ⟨ok_194, List.forall_mem_cons.mpr ⟨ok_195, List.forall_mem_cons.mpr ⟨ok_196, List.forall_mem_cons.mpr ⟨ok_197, List.forall_mem_cons.mpr ⟨ok_198, List.forall_mem_cons.mpr ⟨ok_199, fun _ h => absurd h List.not_mem_nil⟩⟩⟩⟩⟩⟩⟩⟩⟩⟩⟩⟩⟩⟩⟩⟩⟩⟩⟩⟩
def ok_l10 : List (Nat × Nat × Nat) := [(195, 0, 6), (196, 0, 14), (197, 0, 10), (198, 0, 12), (199, 0, 16), (200, 0, 2), (201, 0, 18), (202, 0, 14), (203, 0, 27), (204, 0, 23), (205, 0, 9), (206, 0, 15), (207, 0, 5), (207, 5, 1), (207, 6, 4), (207, 10, 4), (207, 14, 7), (207, 21, 4), (207, 25, 9), (207, 34, 4)]
theorem ok_a10 : ∀ c ∈ ok_l10, ok_c c = true := List.forall_mem_cons.mpr ⟨ok_200, List.forall_mem_cons.mpr ⟨ok_201, List.forall_mem_cons.mpr ⟨ok_202, List.forall_mem_cons.mpr ⟨ok_203, List.forall_mem_cons.mpr ⟨ok_204, List.forall_mem_cons.mpr ⟨ok_205, List.forall_mem_cons.mpr ⟨ok_206, List.forall_mem_cons.mpr ⟨ok_207, List.forall_mem_cons.mpr ⟨ok_208, List.forall_mem_cons.mpr ⟨ok_209, List.forall_mem_cons.mpr ⟨ok_210, List.forall_mem_cons.mpr ⟨ok_211, List.forall_mem_cons.mpr ⟨ok_212, List.forall_mem_cons.mpr ⟨ok_213, List.forall_mem_cons.mpr ⟨ok_214, List.forall_mem_cons.mpr ⟨ok_215, List.forall_mem_cons.mpr ⟨ok_216, List.forall_mem_cons.mpr ⟨ok_217, List.forall_mem_cons.mpr ⟨ok_218, List.forall_mem_cons.mpr ⟨ok_219, fun _ h => absurd h List.not_mem_nil⟩⟩⟩⟩⟩⟩⟩⟩⟩⟩⟩⟩⟩⟩⟩⟩⟩⟩⟩⟩
def ok_l11 : List (Nat × Nat × Nat) := [(207, 38, 7), (207, 45, 4), (207, 49, 9), (207, 58, 7), (207, 65, 4), (207, 69, 7), (207, 76, 6), (207, 82, 7), (207, 89, 5), (207, 94, 3), (207, 97, 1), (207, 98, 7), (207, 105, 8), (207, 113, 1), (207, 114, 3), (207, 117, 1), (207, 118, 3), (207, 121, 1), (207, 122, 3), (207, 125, 1)]
theorem ok_a11 : ∀ c ∈ ok_l11, ok_c c = true := List.forall_mem_cons.mpr ⟨ok_220, List.forall_mem_cons.mpr ⟨ok_221, List.forall_mem_cons.mpr ⟨ok_222, List.forall_mem_cons.mpr ⟨ok_223, List.forall_mem_cons.mpr ⟨ok_224, List.forall_mem_cons.mpr ⟨ok_225, List.forall_mem_cons.mpr ⟨ok_226, List.forall_mem_cons.mpr ⟨ok_227, List.forall_mem_cons.mpr ⟨ok_228, List.forall_mem_cons.mpr ⟨ok_229, List.forall_mem_cons.mpr ⟨ok_230, List.forall_mem_cons.mpr ⟨ok_231, List.forall_mem_cons.mpr ⟨ok_232, List.forall_mem_cons.mpr ⟨ok_233, List.forall_mem_cons.mpr ⟨ok_234, List.forall_mem_cons.mpr ⟨ok_235, List.forall_mem_cons.mpr ⟨ok_236, List.forall_mem_cons.mpr ⟨ok_237, List.forall_mem_cons.mpr ⟨ok_238, List.forall_mem_cons.mpr ⟨ok_239, fun _ h => absurd h List.not_mem_nil⟩⟩⟩⟩⟩⟩⟩⟩⟩⟩⟩⟩⟩⟩⟩⟩⟩⟩⟩⟩
def ok_l12 : List (Nat × Nat × Nat) := [(207, 126, 3), (207, 129, 6), (208, 0, 2), (209, 0, 6), (210, 0, 4), (211, 0, 5), (212, 0, 2), (213, 0, 2), (214, 0, 4), (215, 0, 4), (216, 0, 5)]
theorem ok_a12 : ∀ c ∈ ok_l12, ok_c c = true := List.forall_mem_cons.mpr ⟨ok_240, List.forall_mem_cons.mpr ⟨ok_241, List.forall_mem_cons.mpr ⟨ok_242, List.forall_mem_cons.mpr ⟨ok_243, List.forall_mem_cons.mpr ⟨ok_244, List.forall_mem_cons.mpr ⟨ok_245, List.forall_mem_cons.mpr ⟨ok_246, List.forall_mem_cons.mpr ⟨ok_247, List.forall_mem_cons.mpr ⟨ok_248, List.forall_mem_cons.mpr ⟨ok_249, List.forall_mem_cons.mpr ⟨ok_250, fun _ h => absurd h List.not_mem_nil⟩⟩⟩⟩⟩⟩⟩⟩⟩⟩⟩
def ok_l : List (Nat × Nat × Nat) := ok_l0 ++ (ok_l1 ++ (ok_l2 ++ (ok_l3 ++ (ok_l4 ++ (ok_l5 ++ (ok_l6 ++ (ok_l7 ++ (ok_l8 ++ (ok_l9 ++ (ok_l10 ++ (ok_l11 ++ (ok_l12))))))))))))
theorem ok_all : ∀ c ∈ ok_l, ok_c c = true := List.forall_mem_append.mpr ⟨ok_a0, List.forall_mem_append.mpr ⟨ok_a1, List.forall_mem_append.mpr ⟨ok_a2, List.forall_mem_append.mpr ⟨ok_a3, List.forall_mem_append.mpr ⟨ok_a4, List.forall_mem_append.mpr ⟨ok_a5, List.forall_mem_append.mpr ⟨ok_a6, List.forall_mem_append.mpr ⟨ok_a7, List.forall_mem_append.mpr ⟨ok_a8, List.forall_mem_append.mpr ⟨ok_a9, List.forall_mem_append.mpr ⟨ok_a10, List.forall_mem_append.mpr ⟨ok_a11, ok_a12⟩⟩⟩⟩⟩⟩⟩⟩⟩⟩⟩⟩
noncomputable def ok_cov (m : Nat) : Bool := (List.range (am_pg.getD m []).length).all (fun b => ok_l.any (fun c => Nat.beq c.1 m && (Nat.ble c.2.1 b && Nat.blt b (c.2.1 + c.2.2))))
theorem ok_cov0 : (List.range' 0 44).all ok_cov = true := by decide +kernel
theorem ok_cov1 : (List.range' 44 44).all ok_cov = true := by decide +kernel
theorem ok_cov2 : (List.range' 88 44).all ok_cov = true := by decide +kernel
theorem ok_cov3 : (List.range' 132 44).all ok_cov = true := by decide +kernel
theorem ok_cov4 : (List.range' 176 44).all ok_cov = true := by decide +kernel
theorem ok_covm (m : Nat) (h : m < 217) : ok_cov m = true := by
  by_cases h0 : m < 44
  · exact List.all_eq_true.mp ok_cov0 m (List.mem_range'_1.mpr (by omega))
  by_cases h1 : m < 88
  · exact List.all_eq_true.mp ok_cov1 m (List.mem_range'_1.mpr (by omega))
  by_cases h2 : m < 132
  · exact List.all_eq_true.mp ok_cov2 m (List.mem_range'_1.mpr (by omega))
  by_cases h3 : m < 176
  · exact List.all_eq_true.mp ok_cov3 m (List.mem_range'_1.mpr (by omega))
  · exact List.all_eq_true.mp ok_cov4 m (List.mem_range'_1.mpr (by omega))
theorem am_pg_len : am_pg.length = 217 := by decide +kernel
theorem ok_blk (m b : Nat) : am_oks m (am_pc m b) (am_blk m b) = true := by
  by_cases hm : m < 217
  · by_cases hb : b < (am_pg.getD m []).length
    · have h := List.all_eq_true.mp (ok_covm m hm) b (List.mem_range.mpr hb)
      obtain ⟨c, hc, h2⟩ := List.any_eq_true.mp h
      simp only [Bool.and_eq_true] at h2
      obtain ⟨e1, e2, e3⟩ := h2
      have e1 := Nat.eq_of_beq_eq_true e1
      have e2 := Nat.le_of_ble_eq_true e2
      have e3 : b < c.2.1 + c.2.2 := Nat.le_of_ble_eq_true e3
      have h3 := List.all_eq_true.mp (ok_all c hc) (b - c.2.1) (List.mem_range.mpr (by omega))
      rw [show c.2.1 + (b - c.2.1) = b by omega, e1] at h3
      exact h3
    · have e : am_blk m b = [] := by
        unfold am_blk
        rw [List.getD_eq_getElem?_getD, List.getElem?_eq_none (by omega)]
        rfl
      rw [e]
      rfl
  · have e : am_blk m b = [] := by
      unfold am_blk
      rw [List.getD_eq_getElem?_getD (l := am_pg), List.getElem?_eq_none (by rw [am_pg_len]; omega)]
      rfl
    rw [e]
    rfl
end
section
theorem okn_0 : (List.range' 0 31).all (fun m => Nat.beq m 207 || am_okn m) = true := by decide +kernel
theorem okn_1 : (List.range' 31 31).all (fun m => Nat.beq m 207 || am_okn m) = true := by decide +kernel
theorem okn_2 : (List.range' 62 31).all (fun m => Nat.beq m 207 || am_okn m) = true := by decide +kernel
theorem okn_3 : (List.range' 93 31).all (fun m => Nat.beq m 207 || am_okn m) = true := by decide +kernel
theorem okn_4 : (List.range' 124 31).all (fun m => Nat.beq m 207 || am_okn m) = true := by decide +kernel
theorem okn_5 : (List.range' 155 31).all (fun m => Nat.beq m 207 || am_okn m) = true := by decide +kernel
theorem okn_6 : (List.range' 186 31).all (fun m => Nat.beq m 207 || am_okn m) = true := by decide +kernel
theorem okn_m (m : Nat) (h : m < 217) (h2 : ¬ m = 207) : am_okn m = true := by
  have key : ∀ (q : Nat), (List.range' q 31).all (fun m => Nat.beq m 207 || am_okn m) = true → q ≤ m → m < q + 31 → am_okn m = true := fun q hq h3 h4 => by
    have := List.all_eq_true.mp hq m (List.mem_range'_1.mpr ⟨h3, h4⟩)
    rw [Bool.or_eq_true] at this
    exact this.resolve_left (fun e => h2 (Nat.eq_of_beq_eq_true e))
  by_cases h10 : m < 31
  · exact key 0 okn_0 (by omega) (by omega)
  by_cases h11 : m < 62
  · exact key 31 okn_1 (by omega) (by omega)
  by_cases h12 : m < 93
  · exact key 62 okn_2 (by omega) (by omega)
  by_cases h13 : m < 124
  · exact key 93 okn_3 (by omega) (by omega)
  by_cases h14 : m < 155
  · exact key 124 okn_4 (by omega) (by omega)
  by_cases h15 : m < 186
  · exact key 155 okn_5 (by omega) (by omega)
  by_cases h16 : m < 217
  · exact key 186 okn_6 (by omega) (by omega)
  · omega
theorem okw_0 : Cond.code (am_nm 0) (am_cd 0) (am_mx 0) (am_rt 0) ∈ am_W := am_mem_W (k := 1) (j := 87) rfl rfl
theorem okw_1 : Cond.code (am_nm 1) (am_cd 1) (am_mx 1) (am_rt 1) ∈ am_W := am_mem_W (k := 1) (j := 140) rfl rfl
theorem okw_2 : Cond.code (am_nm 2) (am_cd 2) (am_mx 2) (am_rt 2) ∈ am_W := am_mem_W (k := 4) (j := 167) rfl rfl
theorem okw_3 : Cond.code (am_nm 3) (am_cd 3) (am_mx 3) (am_rt 3) ∈ am_W := am_mem_W (k := 4) (j := 29) rfl rfl
theorem okw_4 : Cond.code (am_nm 4) (am_cd 4) (am_mx 4) (am_rt 4) ∈ am_W := am_mem_W (k := 4) (j := 32) rfl rfl
theorem okw_5 : Cond.code (am_nm 5) (am_cd 5) (am_mx 5) (am_rt 5) ∈ am_W := am_mem_W (k := 4) (j := 35) rfl rfl
theorem okw_6 : Cond.code (am_nm 6) (am_cd 6) (am_mx 6) (am_rt 6) ∈ am_W := am_mem_W (k := 4) (j := 39) rfl rfl
theorem okw_7 : Cond.code (am_nm 7) (am_cd 7) (am_mx 7) (am_rt 7) ∈ am_W := am_mem_W (k := 1) (j := 189) rfl rfl
theorem okw_8 : Cond.code (am_nm 8) (am_cd 8) (am_mx 8) (am_rt 8) ∈ am_W := am_mem_W (k := 3) (j := 87) rfl rfl
theorem okw_9 : Cond.code (am_nm 9) (am_cd 9) (am_mx 9) (am_rt 9) ∈ am_W := am_mem_W (k := 3) (j := 96) rfl rfl
theorem okw_10 : Cond.code (am_nm 10) (am_cd 10) (am_mx 10) (am_rt 10) ∈ am_W := am_mem_W (k := 3) (j := 142) rfl rfl
theorem okw_11 : Cond.code (am_nm 11) (am_cd 11) (am_mx 11) (am_rt 11) ∈ am_W := am_mem_W (k := 3) (j := 151) rfl rfl
theorem okw_12 : Cond.code (am_nm 12) (am_cd 12) (am_mx 12) (am_rt 12) ∈ am_W := am_mem_W (k := 3) (j := 130) rfl rfl
theorem okw_13 : Cond.code (am_nm 13) (am_cd 13) (am_mx 13) (am_rt 13) ∈ am_W := am_mem_W (k := 1) (j := 63) rfl rfl
theorem okw_14 : Cond.code (am_nm 14) (am_cd 14) (am_mx 14) (am_rt 14) ∈ am_W := am_mem_W (k := 2) (j := 167) rfl rfl
theorem okw_15 : Cond.code (am_nm 15) (am_cd 15) (am_mx 15) (am_rt 15) ∈ am_W := am_mem_W (k := 3) (j := 66) rfl rfl
theorem okw_16 : Cond.code (am_nm 16) (am_cd 16) (am_mx 16) (am_rt 16) ∈ am_W := am_mem_W (k := 3) (j := 21) rfl rfl
theorem okw_17 : Cond.code (am_nm 17) (am_cd 17) (am_mx 17) (am_rt 17) ∈ am_W := am_mem_W (k := 3) (j := 25) rfl rfl
theorem okw_18 : Cond.code (am_nm 18) (am_cd 18) (am_mx 18) (am_rt 18) ∈ am_W := am_mem_W (k := 3) (j := 13) rfl rfl
theorem okw_19 : Cond.code (am_nm 19) (am_cd 19) (am_mx 19) (am_rt 19) ∈ am_W := am_mem_W (k := 3) (j := 17) rfl rfl
theorem okw_20 : Cond.code (am_nm 20) (am_cd 20) (am_mx 20) (am_rt 20) ∈ am_W := am_mem_W (k := 3) (j := 29) rfl rfl
theorem okw_21 : Cond.code (am_nm 21) (am_cd 21) (am_mx 21) (am_rt 21) ∈ am_W := am_mem_W (k := 3) (j := 33) rfl rfl
theorem okw_22 : Cond.code (am_nm 22) (am_cd 22) (am_mx 22) (am_rt 22) ∈ am_W := am_mem_W (k := 3) (j := 41) rfl rfl
theorem okw_23 : Cond.code (am_nm 23) (am_cd 23) (am_mx 23) (am_rt 23) ∈ am_W := am_mem_W (k := 3) (j := 37) rfl rfl
theorem okw_24 : Cond.code (am_nm 24) (am_cd 24) (am_mx 24) (am_rt 24) ∈ am_W := am_mem_W (k := 3) (j := 44) rfl rfl
theorem okw_25 : Cond.code (am_nm 25) (am_cd 25) (am_mx 25) (am_rt 25) ∈ am_W := am_mem_W (k := 1) (j := 224) rfl rfl
theorem okw_26 : Cond.code (am_nm 26) (am_cd 26) (am_mx 26) (am_rt 26) ∈ am_W := am_mem_W (k := 3) (j := 195) rfl rfl
theorem okw_27 : Cond.code (am_nm 27) (am_cd 27) (am_mx 27) (am_rt 27) ∈ am_W := am_mem_W (k := 3) (j := 200) rfl rfl
theorem okw_28 : Cond.code (am_nm 28) (am_cd 28) (am_mx 28) (am_rt 28) ∈ am_W := am_mem_W (k := 3) (j := 207) rfl rfl
theorem okw_29 : Cond.code (am_nm 29) (am_cd 29) (am_mx 29) (am_rt 29) ∈ am_W := am_mem_W (k := 3) (j := 235) rfl rfl
theorem okw_30 : Cond.code (am_nm 30) (am_cd 30) (am_mx 30) (am_rt 30) ∈ am_W := am_mem_W (k := 3) (j := 211) rfl rfl
theorem okw_31 : Cond.code (am_nm 31) (am_cd 31) (am_mx 31) (am_rt 31) ∈ am_W := am_mem_W (k := 4) (j := 9) rfl rfl
theorem okw_32 : Cond.code (am_nm 32) (am_cd 32) (am_mx 32) (am_rt 32) ∈ am_W := am_mem_W (k := 3) (j := 216) rfl rfl
theorem okw_33 : Cond.code (am_nm 33) (am_cd 33) (am_mx 33) (am_rt 33) ∈ am_W := am_mem_W (k := 3) (j := 220) rfl rfl
theorem okw_34 : Cond.code (am_nm 34) (am_cd 34) (am_mx 34) (am_rt 34) ∈ am_W := am_mem_W (k := 3) (j := 231) rfl rfl
theorem okw_35 : Cond.code (am_nm 35) (am_cd 35) (am_mx 35) (am_rt 35) ∈ am_W := am_mem_W (k := 3) (j := 224) rfl rfl
theorem okw_36 : Cond.code (am_nm 36) (am_cd 36) (am_mx 36) (am_rt 36) ∈ am_W := am_mem_W (k := 4) (j := 75) rfl rfl
theorem okw_37 : Cond.code (am_nm 37) (am_cd 37) (am_mx 37) (am_rt 37) ∈ am_W := am_mem_W (k := 4) (j := 79) rfl rfl
theorem okw_38 : Cond.code (am_nm 38) (am_cd 38) (am_mx 38) (am_rt 38) ∈ am_W := am_mem_W (k := 4) (j := 83) rfl rfl
theorem okw_39 : Cond.code (am_nm 39) (am_cd 39) (am_mx 39) (am_rt 39) ∈ am_W := am_mem_W (k := 1) (j := 154) rfl rfl
theorem okw_40 : Cond.code (am_nm 40) (am_cd 40) (am_mx 40) (am_rt 40) ∈ am_W := am_mem_W (k := 4) (j := 134) rfl rfl
theorem okw_41 : Cond.code (am_nm 41) (am_cd 41) (am_mx 41) (am_rt 41) ∈ am_W := am_mem_W (k := 4) (j := 71) rfl rfl
theorem okw_42 : Cond.code (am_nm 42) (am_cd 42) (am_mx 42) (am_rt 42) ∈ am_W := am_mem_W (k := 4) (j := 143) rfl rfl
theorem okw_43 : Cond.code (am_nm 43) (am_cd 43) (am_mx 43) (am_rt 43) ∈ am_W := am_mem_W (k := 4) (j := 155) rfl rfl
theorem okw_44 : Cond.code (am_nm 44) (am_cd 44) (am_mx 44) (am_rt 44) ∈ am_W := am_mem_W (k := 4) (j := 147) rfl rfl
theorem okw_45 : Cond.code (am_nm 45) (am_cd 45) (am_mx 45) (am_rt 45) ∈ am_W := am_mem_W (k := 1) (j := 35) rfl rfl
theorem okw_46 : Cond.code (am_nm 46) (am_cd 46) (am_mx 46) (am_rt 46) ∈ am_W := am_mem_W (k := 2) (j := 171) rfl rfl
theorem okw_47 : Cond.code (am_nm 47) (am_cd 47) (am_mx 47) (am_rt 47) ∈ am_W := am_mem_W (k := 2) (j := 175) rfl rfl
theorem okw_48 : Cond.code (am_nm 48) (am_cd 48) (am_mx 48) (am_rt 48) ∈ am_W := am_mem_W (k := 2) (j := 185) rfl rfl
theorem okw_49 : Cond.code (am_nm 49) (am_cd 49) (am_mx 49) (am_rt 49) ∈ am_W := am_mem_W (k := 3) (j := 6) rfl rfl
theorem okw_50 : Cond.code (am_nm 50) (am_cd 50) (am_mx 50) (am_rt 50) ∈ am_W := am_mem_W (k := 2) (j := 189) rfl rfl
theorem okw_51 : Cond.code (am_nm 51) (am_cd 51) (am_mx 51) (am_rt 51) ∈ am_W := am_mem_W (k := 3) (j := 2) rfl rfl
theorem okw_52 : Cond.code (am_nm 52) (am_cd 52) (am_mx 52) (am_rt 52) ∈ am_W := am_mem_W (k := 2) (j := 178) rfl rfl
theorem okw_53 : Cond.code (am_nm 53) (am_cd 53) (am_mx 53) (am_rt 53) ∈ am_W := am_mem_W (k := 2) (j := 181) rfl rfl
theorem okw_54 : Cond.code (am_nm 54) (am_cd 54) (am_mx 54) (am_rt 54) ∈ am_W := am_mem_W (k := 3) (j := 9) rfl rfl
theorem okw_55 : Cond.code (am_nm 55) (am_cd 55) (am_mx 55) (am_rt 55) ∈ am_W := am_mem_W (k := 1) (j := 173) rfl rfl
theorem okw_56 : Cond.code (am_nm 56) (am_cd 56) (am_mx 56) (am_rt 56) ∈ am_W := am_mem_W (k := 3) (j := 91) rfl rfl
theorem okw_57 : Cond.code (am_nm 57) (am_cd 57) (am_mx 57) (am_rt 57) ∈ am_W := am_mem_W (k := 3) (j := 100) rfl rfl
theorem okw_58 : Cond.code (am_nm 58) (am_cd 58) (am_mx 58) (am_rt 58) ∈ am_W := am_mem_W (k := 3) (j := 104) rfl rfl
theorem okw_59 : Cond.code (am_nm 59) (am_cd 59) (am_mx 59) (am_rt 59) ∈ am_W := am_mem_W (k := 3) (j := 126) rfl rfl
theorem okw_60 : Cond.code (am_nm 60) (am_cd 60) (am_mx 60) (am_rt 60) ∈ am_W := am_mem_W (k := 3) (j := 134) rfl rfl
theorem okw_61 : Cond.code (am_nm 61) (am_cd 61) (am_mx 61) (am_rt 61) ∈ am_W := am_mem_W (k := 3) (j := 118) rfl rfl
theorem okw_62 : Cond.code (am_nm 62) (am_cd 62) (am_mx 62) (am_rt 62) ∈ am_W := am_mem_W (k := 3) (j := 108) rfl rfl
theorem okw_63 : Cond.code (am_nm 63) (am_cd 63) (am_mx 63) (am_rt 63) ∈ am_W := am_mem_W (k := 3) (j := 112) rfl rfl
theorem okw_64 : Cond.code (am_nm 64) (am_cd 64) (am_mx 64) (am_rt 64) ∈ am_W := am_mem_W (k := 3) (j := 115) rfl rfl
theorem okw_65 : Cond.code (am_nm 65) (am_cd 65) (am_mx 65) (am_rt 65) ∈ am_W := am_mem_W (k := 1) (j := 121) rfl rfl
theorem okw_66 : Cond.code (am_nm 66) (am_cd 66) (am_mx 66) (am_rt 66) ∈ am_W := am_mem_W (k := 1) (j := 23) rfl rfl
theorem okw_67 : Cond.code (am_nm 67) (am_cd 67) (am_mx 67) (am_rt 67) ∈ am_W := am_mem_W (k := 2) (j := 102) rfl rfl
theorem okw_68 : Cond.code (am_nm 68) (am_cd 68) (am_mx 68) (am_rt 68) ∈ am_W := am_mem_W (k := 2) (j := 106) rfl rfl
theorem okw_69 : Cond.code (am_nm 69) (am_cd 69) (am_mx 69) (am_rt 69) ∈ am_W := am_mem_W (k := 2) (j := 113) rfl rfl
theorem okw_70 : Cond.code (am_nm 70) (am_cd 70) (am_mx 70) (am_rt 70) ∈ am_W := am_mem_W (k := 2) (j := 117) rfl rfl
theorem okw_71 : Cond.code (am_nm 71) (am_cd 71) (am_mx 71) (am_rt 71) ∈ am_W := am_mem_W (k := 2) (j := 125) rfl rfl
theorem okw_72 : Cond.code (am_nm 72) (am_cd 72) (am_mx 72) (am_rt 72) ∈ am_W := am_mem_W (k := 2) (j := 132) rfl rfl
theorem okw_73 : Cond.code (am_nm 73) (am_cd 73) (am_mx 73) (am_rt 73) ∈ am_W := am_mem_W (k := 2) (j := 136) rfl rfl
theorem okw_74 : Cond.code (am_nm 74) (am_cd 74) (am_mx 74) (am_rt 74) ∈ am_W := am_mem_W (k := 2) (j := 148) rfl rfl
theorem okw_75 : Cond.code (am_nm 75) (am_cd 75) (am_mx 75) (am_rt 75) ∈ am_W := am_mem_W (k := 2) (j := 152) rfl rfl
theorem okw_76 : Cond.code (am_nm 76) (am_cd 76) (am_mx 76) (am_rt 76) ∈ am_W := am_mem_W (k := 2) (j := 144) rfl rfl
theorem okw_77 : Cond.code (am_nm 77) (am_cd 77) (am_mx 77) (am_rt 77) ∈ am_W := am_mem_W (k := 2) (j := 140) rfl rfl
theorem okw_78 : Cond.code (am_nm 78) (am_cd 78) (am_mx 78) (am_rt 78) ∈ am_W := am_mem_W (k := 2) (j := 121) rfl rfl
theorem okw_79 : Cond.code (am_nm 79) (am_cd 79) (am_mx 79) (am_rt 79) ∈ am_W := am_mem_W (k := 2) (j := 155) rfl rfl
theorem okw_80 : Cond.code (am_nm 80) (am_cd 80) (am_mx 80) (am_rt 80) ∈ am_W := am_mem_W (k := 2) (j := 128) rfl rfl
theorem okw_81 : Cond.code (am_nm 81) (am_cd 81) (am_mx 81) (am_rt 81) ∈ am_W := am_mem_W (k := 2) (j := 159) rfl rfl
theorem okw_82 : Cond.code (am_nm 82) (am_cd 82) (am_mx 82) (am_rt 82) ∈ am_W := am_mem_W (k := 2) (j := 163) rfl rfl
theorem okw_83 : Cond.code (am_nm 83) (am_cd 83) (am_mx 83) (am_rt 83) ∈ am_W := am_mem_W (k := 3) (j := 71) rfl rfl
theorem okw_84 : Cond.code (am_nm 84) (am_cd 84) (am_mx 84) (am_rt 84) ∈ am_W := am_mem_W (k := 3) (j := 75) rfl rfl
theorem okw_85 : Cond.code (am_nm 85) (am_cd 85) (am_mx 85) (am_rt 85) ∈ am_W := am_mem_W (k := 3) (j := 138) rfl rfl
theorem okw_86 : Cond.code (am_nm 86) (am_cd 86) (am_mx 86) (am_rt 86) ∈ am_W := am_mem_W (k := 3) (j := 171) rfl rfl
theorem okw_87 : Cond.code (am_nm 87) (am_cd 87) (am_mx 87) (am_rt 87) ∈ am_W := am_mem_W (k := 3) (j := 182) rfl rfl
theorem okw_88 : Cond.code (am_nm 88) (am_cd 88) (am_mx 88) (am_rt 88) ∈ am_W := am_mem_W (k := 3) (j := 239) rfl rfl
theorem okw_89 : Cond.code (am_nm 89) (am_cd 89) (am_mx 89) (am_rt 89) ∈ am_W := am_mem_W (k := 4) (j := 4) rfl rfl
theorem okw_90 : Cond.code (am_nm 90) (am_cd 90) (am_mx 90) (am_rt 90) ∈ am_W := am_mem_W (k := 4) (j := 13) rfl rfl
theorem okw_91 : Cond.code (am_nm 91) (am_cd 91) (am_mx 91) (am_rt 91) ∈ am_W := am_mem_W (k := 4) (j := 17) rfl rfl
theorem okw_92 : Cond.code (am_nm 92) (am_cd 92) (am_mx 92) (am_rt 92) ∈ am_W := am_mem_W (k := 3) (j := 79) rfl rfl
theorem okw_93 : Cond.code (am_nm 93) (am_cd 93) (am_mx 93) (am_rt 93) ∈ am_W := am_mem_W (k := 3) (j := 83) rfl rfl
theorem okw_94 : Cond.code (am_nm 94) (am_cd 94) (am_mx 94) (am_rt 94) ∈ am_W := am_mem_W (k := 3) (j := 159) rfl rfl
theorem okw_95 : Cond.code (am_nm 95) (am_cd 95) (am_mx 95) (am_rt 95) ∈ am_W := am_mem_W (k := 3) (j := 163) rfl rfl
theorem okw_96 : Cond.code (am_nm 96) (am_cd 96) (am_mx 96) (am_rt 96) ∈ am_W := am_mem_W (k := 3) (j := 167) rfl rfl
theorem okw_97 : Cond.code (am_nm 97) (am_cd 97) (am_mx 97) (am_rt 97) ∈ am_W := am_mem_W (k := 3) (j := 186) rfl rfl
theorem okw_98 : Cond.code (am_nm 98) (am_cd 98) (am_mx 98) (am_rt 98) ∈ am_W := am_mem_W (k := 3) (j := 191) rfl rfl
theorem okw_99 : Cond.code (am_nm 99) (am_cd 99) (am_mx 99) (am_rt 99) ∈ am_W := am_mem_W (k := 3) (j := 174) rfl rfl
theorem okw_100 : Cond.code (am_nm 100) (am_cd 100) (am_mx 100) (am_rt 100) ∈ am_W := am_mem_W (k := 3) (j := 178) rfl rfl
theorem okw_101 : Cond.code (am_nm 101) (am_cd 101) (am_mx 101) (am_rt 101) ∈ am_W := am_mem_W (k := 4) (j := 21) rfl rfl
theorem okw_102 : Cond.code (am_nm 102) (am_cd 102) (am_mx 102) (am_rt 102) ∈ am_W := am_mem_W (k := 4) (j := 43) rfl rfl
theorem okw_103 : Cond.code (am_nm 103) (am_cd 103) (am_mx 103) (am_rt 103) ∈ am_W := am_mem_W (k := 4) (j := 47) rfl rfl
theorem okw_104 : Cond.code (am_nm 104) (am_cd 104) (am_mx 104) (am_rt 104) ∈ am_W := am_mem_W (k := 4) (j := 25) rfl rfl
theorem okw_105 : Cond.code (am_nm 105) (am_cd 105) (am_mx 105) (am_rt 105) ∈ am_W := am_mem_W (k := 4) (j := 51) rfl rfl
theorem okw_106 : Cond.code (am_nm 106) (am_cd 106) (am_mx 106) (am_rt 106) ∈ am_W := am_mem_W (k := 4) (j := 55) rfl rfl
theorem okw_107 : Cond.code (am_nm 107) (am_cd 107) (am_mx 107) (am_rt 107) ∈ am_W := am_mem_W (k := 3) (j := 145) rfl rfl
theorem okw_108 : Cond.code (am_nm 108) (am_cd 108) (am_mx 108) (am_rt 108) ∈ am_W := am_mem_W (k := 4) (j := 60) rfl rfl
theorem okw_109 : Cond.code (am_nm 109) (am_cd 109) (am_mx 109) (am_rt 109) ∈ am_W := am_mem_W (k := 4) (j := 87) rfl rfl
theorem okw_110 : Cond.code (am_nm 110) (am_cd 110) (am_mx 110) (am_rt 110) ∈ am_W := am_mem_W (k := 4) (j := 95) rfl rfl
theorem okw_111 : Cond.code (am_nm 111) (am_cd 111) (am_mx 111) (am_rt 111) ∈ am_W := am_mem_W (k := 4) (j := 67) rfl rfl
theorem okw_112 : Cond.code (am_nm 112) (am_cd 112) (am_mx 112) (am_rt 112) ∈ am_W := am_mem_W (k := 4) (j := 91) rfl rfl
theorem okw_113 : Cond.code (am_nm 113) (am_cd 113) (am_mx 113) (am_rt 113) ∈ am_W := am_mem_W (k := 4) (j := 99) rfl rfl
theorem okw_114 : Cond.code (am_nm 114) (am_cd 114) (am_mx 114) (am_rt 114) ∈ am_W := am_mem_W (k := 4) (j := 111) rfl rfl
theorem okw_115 : Cond.code (am_nm 115) (am_cd 115) (am_mx 115) (am_rt 115) ∈ am_W := am_mem_W (k := 4) (j := 102) rfl rfl
theorem okw_116 : Cond.code (am_nm 116) (am_cd 116) (am_mx 116) (am_rt 116) ∈ am_W := am_mem_W (k := 4) (j := 106) rfl rfl
theorem okw_117 : Cond.code (am_nm 117) (am_cd 117) (am_mx 117) (am_rt 117) ∈ am_W := am_mem_W (k := 4) (j := 115) rfl rfl
theorem okw_118 : Cond.code (am_nm 118) (am_cd 118) (am_mx 118) (am_rt 118) ∈ am_W := am_mem_W (k := 4) (j := 119) rfl rfl
theorem okw_119 : Cond.code (am_nm 119) (am_cd 119) (am_mx 119) (am_rt 119) ∈ am_W := am_mem_W (k := 4) (j := 123) rfl rfl
theorem okw_120 : Cond.code (am_nm 120) (am_cd 120) (am_mx 120) (am_rt 120) ∈ am_W := am_mem_W (k := 4) (j := 127) rfl rfl
theorem okw_121 : Cond.code (am_nm 121) (am_cd 121) (am_mx 121) (am_rt 121) ∈ am_W := am_mem_W (k := 4) (j := 139) rfl rfl
theorem okw_122 : Cond.code (am_nm 122) (am_cd 122) (am_mx 122) (am_rt 122) ∈ am_W := am_mem_W (k := 4) (j := 151) rfl rfl
theorem okw_123 : Cond.code (am_nm 123) (am_cd 123) (am_mx 123) (am_rt 123) ∈ am_W := am_mem_W (k := 4) (j := 159) rfl rfl
theorem okw_124 : Cond.code (am_nm 124) (am_cd 124) (am_mx 124) (am_rt 124) ∈ am_W := am_mem_W (k := 4) (j := 163) rfl rfl
theorem okw_125 : Cond.code (am_nm 125) (am_cd 125) (am_mx 125) (am_rt 125) ∈ am_W := am_mem_W (k := 4) (j := 63) rfl rfl
theorem okw_126 : Cond.code (am_nm 126) (am_cd 126) (am_mx 126) (am_rt 126) ∈ am_W := am_mem_W (k := 4) (j := 130) rfl rfl
theorem okw_127 : Cond.code (am_nm 127) (am_cd 127) (am_mx 127) (am_rt 127) ∈ am_W := am_mem_W (k := 5) (j := 113) rfl rfl
theorem okw_128 : Cond.code (am_nm 128) (am_cd 128) (am_mx 128) (am_rt 128) ∈ am_W := am_mem_W (k := 6) (j := 22) rfl rfl
theorem okw_129 : Cond.code (am_nm 129) (am_cd 129) (am_mx 129) (am_rt 129) ∈ am_W := am_mem_W (k := 4) (j := 175) rfl rfl
theorem okw_130 : Cond.code (am_nm 130) (am_cd 130) (am_mx 130) (am_rt 130) ∈ am_W := am_mem_W (k := 4) (j := 180) rfl rfl
theorem okw_131 : Cond.code (am_nm 131) (am_cd 131) (am_mx 131) (am_rt 131) ∈ am_W := am_mem_W (k := 5) (j := 135) rfl rfl
theorem okw_132 : Cond.code (am_nm 132) (am_cd 132) (am_mx 132) (am_rt 132) ∈ am_W := am_mem_W (k := 5) (j := 117) rfl rfl
theorem okw_133 : Cond.code (am_nm 133) (am_cd 133) (am_mx 133) (am_rt 133) ∈ am_W := am_mem_W (k := 5) (j := 109) rfl rfl
theorem okw_134 : Cond.code (am_nm 134) (am_cd 134) (am_mx 134) (am_rt 134) ∈ am_W := am_mem_W (k := 5) (j := 126) rfl rfl
theorem okw_135 : Cond.code (am_nm 135) (am_cd 135) (am_mx 135) (am_rt 135) ∈ am_W := am_mem_W (k := 5) (j := 131) rfl rfl
theorem okw_136 : Cond.code (am_nm 136) (am_cd 136) (am_mx 136) (am_rt 136) ∈ am_W := am_mem_W (k := 5) (j := 139) rfl rfl
theorem okw_137 : Cond.code (am_nm 137) (am_cd 137) (am_mx 137) (am_rt 137) ∈ am_W := am_mem_W (k := 5) (j := 143) rfl rfl
theorem okw_138 : Cond.code (am_nm 138) (am_cd 138) (am_mx 138) (am_rt 138) ∈ am_W := am_mem_W (k := 5) (j := 148) rfl rfl
theorem okw_139 : Cond.code (am_nm 139) (am_cd 139) (am_mx 139) (am_rt 139) ∈ am_W := am_mem_W (k := 5) (j := 165) rfl rfl
theorem okw_140 : Cond.code (am_nm 140) (am_cd 140) (am_mx 140) (am_rt 140) ∈ am_W := am_mem_W (k := 5) (j := 161) rfl rfl
theorem okw_141 : Cond.code (am_nm 141) (am_cd 141) (am_mx 141) (am_rt 141) ∈ am_W := am_mem_W (k := 5) (j := 186) rfl rfl
theorem okw_142 : Cond.code (am_nm 142) (am_cd 142) (am_mx 142) (am_rt 142) ∈ am_W := am_mem_W (k := 5) (j := 178) rfl rfl
theorem okw_143 : Cond.code (am_nm 143) (am_cd 143) (am_mx 143) (am_rt 143) ∈ am_W := am_mem_W (k := 5) (j := 174) rfl rfl
theorem okw_144 : Cond.code (am_nm 144) (am_cd 144) (am_mx 144) (am_rt 144) ∈ am_W := am_mem_W (k := 5) (j := 218) rfl rfl
theorem okw_145 : Cond.code (am_nm 145) (am_cd 145) (am_mx 145) (am_rt 145) ∈ am_W := am_mem_W (k := 5) (j := 202) rfl rfl
theorem okw_146 : Cond.code (am_nm 146) (am_cd 146) (am_mx 146) (am_rt 146) ∈ am_W := am_mem_W (k := 5) (j := 222) rfl rfl
theorem okw_147 : Cond.code (am_nm 147) (am_cd 147) (am_mx 147) (am_rt 147) ∈ am_W := am_mem_W (k := 5) (j := 214) rfl rfl
theorem okw_148 : Cond.code (am_nm 148) (am_cd 148) (am_mx 148) (am_rt 148) ∈ am_W := am_mem_W (k := 5) (j := 210) rfl rfl
theorem okw_149 : Cond.code (am_nm 149) (am_cd 149) (am_mx 149) (am_rt 149) ∈ am_W := am_mem_W (k := 5) (j := 206) rfl rfl
theorem okw_150 : Cond.code (am_nm 150) (am_cd 150) (am_mx 150) (am_rt 150) ∈ am_W := am_mem_W (k := 5) (j := 198) rfl rfl
theorem okw_151 : Cond.code (am_nm 151) (am_cd 151) (am_mx 151) (am_rt 151) ∈ am_W := am_mem_W (k := 5) (j := 194) rfl rfl
theorem okw_152 : Cond.code (am_nm 152) (am_cd 152) (am_mx 152) (am_rt 152) ∈ am_W := am_mem_W (k := 5) (j := 190) rfl rfl
theorem okw_153 : Cond.code (am_nm 153) (am_cd 153) (am_mx 153) (am_rt 153) ∈ am_W := am_mem_W (k := 5) (j := 182) rfl rfl
theorem okw_154 : Cond.code (am_nm 154) (am_cd 154) (am_mx 154) (am_rt 154) ∈ am_W := am_mem_W (k := 5) (j := 157) rfl rfl
theorem okw_155 : Cond.code (am_nm 155) (am_cd 155) (am_mx 155) (am_rt 155) ∈ am_W := am_mem_W (k := 5) (j := 153) rfl rfl
theorem okw_156 : Cond.code (am_nm 156) (am_cd 156) (am_mx 156) (am_rt 156) ∈ am_W := am_mem_W (k := 5) (j := 228) rfl rfl
theorem okw_157 : Cond.code (am_nm 157) (am_cd 157) (am_mx 157) (am_rt 157) ∈ am_W := am_mem_W (k := 6) (j := 19) rfl rfl
theorem okw_158 : Cond.code (am_nm 158) (am_cd 158) (am_mx 158) (am_rt 158) ∈ am_W := am_mem_W (k := 6) (j := 0) rfl rfl
theorem okw_159 : Cond.code (am_nm 159) (am_cd 159) (am_mx 159) (am_rt 159) ∈ am_W := am_mem_W (k := 6) (j := 15) rfl rfl
theorem okw_160 : Cond.code (am_nm 160) (am_cd 160) (am_mx 160) (am_rt 160) ∈ am_W := am_mem_W (k := 6) (j := 12) rfl rfl
theorem okw_161 : Cond.code (am_nm 161) (am_cd 161) (am_mx 161) (am_rt 161) ∈ am_W := am_mem_W (k := 6) (j := 26) rfl rfl
theorem okw_162 : Cond.code (am_nm 162) (am_cd 162) (am_mx 162) (am_rt 162) ∈ am_W := am_mem_W (k := 6) (j := 4) rfl rfl
theorem okw_163 : Cond.code (am_nm 163) (am_cd 163) (am_mx 163) (am_rt 163) ∈ am_W := am_mem_W (k := 6) (j := 8) rfl rfl
theorem okw_164 : Cond.code (am_nm 164) (am_cd 164) (am_mx 164) (am_rt 164) ∈ am_W := am_mem_W (k := 6) (j := 42) rfl rfl
theorem okw_165 : Cond.code (am_nm 165) (am_cd 165) (am_mx 165) (am_rt 165) ∈ am_W := am_mem_W (k := 5) (j := 236) rfl rfl
theorem okw_166 : Cond.code (am_nm 166) (am_cd 166) (am_mx 166) (am_rt 166) ∈ am_W := am_mem_W (k := 5) (j := 232) rfl rfl
theorem okw_167 : Cond.code (am_nm 167) (am_cd 167) (am_mx 167) (am_rt 167) ∈ am_W := am_mem_W (k := 6) (j := 34) rfl rfl
theorem okw_168 : Cond.code (am_nm 168) (am_cd 168) (am_mx 168) (am_rt 168) ∈ am_W := am_mem_W (k := 6) (j := 38) rfl rfl
theorem okw_169 : Cond.code (am_nm 169) (am_cd 169) (am_mx 169) (am_rt 169) ∈ am_W := am_mem_W (k := 6) (j := 30) rfl rfl
theorem okw_170 : Cond.code (am_nm 170) (am_cd 170) (am_mx 170) (am_rt 170) ∈ am_W := am_mem_W (k := 6) (j := 50) rfl rfl
theorem okw_171 : Cond.code (am_nm 171) (am_cd 171) (am_mx 171) (am_rt 171) ∈ am_W := am_mem_W (k := 6) (j := 46) rfl rfl
theorem okw_172 : Cond.code (am_nm 172) (am_cd 172) (am_mx 172) (am_rt 172) ∈ am_W := am_mem_W (k := 6) (j := 59) rfl rfl
theorem okw_173 : Cond.code (am_nm 173) (am_cd 173) (am_mx 173) (am_rt 173) ∈ am_W := am_mem_W (k := 6) (j := 68) rfl rfl
theorem okw_174 : Cond.code (am_nm 174) (am_cd 174) (am_mx 174) (am_rt 174) ∈ am_W := am_mem_W (k := 6) (j := 80) rfl rfl
theorem okw_175 : Cond.code (am_nm 175) (am_cd 175) (am_mx 175) (am_rt 175) ∈ am_W := am_mem_W (k := 6) (j := 72) rfl rfl
theorem okw_176 : Cond.code (am_nm 176) (am_cd 176) (am_mx 176) (am_rt 176) ∈ am_W := am_mem_W (k := 6) (j := 76) rfl rfl
theorem okw_177 : Cond.code (am_nm 177) (am_cd 177) (am_mx 177) (am_rt 177) ∈ am_W := am_mem_W (k := 6) (j := 64) rfl rfl
theorem okw_178 : Cond.code (am_nm 178) (am_cd 178) (am_mx 178) (am_rt 178) ∈ am_W := am_mem_W (k := 6) (j := 54) rfl rfl
theorem okw_179 : Cond.code (am_nm 179) (am_cd 179) (am_mx 179) (am_rt 179) ∈ am_W := am_mem_W (k := 6) (j := 84) rfl rfl
theorem okw_180 : Cond.code (am_nm 180) (am_cd 180) (am_mx 180) (am_rt 180) ∈ am_W := am_mem_W (k := 6) (j := 88) rfl rfl
theorem okw_181 : Cond.code (am_nm 181) (am_cd 181) (am_mx 181) (am_rt 181) ∈ am_W := am_mem_W (k := 6) (j := 93) rfl rfl
theorem okw_182 : Cond.code (am_nm 182) (am_cd 182) (am_mx 182) (am_rt 182) ∈ am_W := am_mem_W (k := 6) (j := 114) rfl rfl
theorem okw_183 : Cond.code (am_nm 183) (am_cd 183) (am_mx 183) (am_rt 183) ∈ am_W := am_mem_W (k := 6) (j := 110) rfl rfl
theorem okw_184 : Cond.code (am_nm 184) (am_cd 184) (am_mx 184) (am_rt 184) ∈ am_W := am_mem_W (k := 6) (j := 106) rfl rfl
theorem okw_185 : Cond.code (am_nm 185) (am_cd 185) (am_mx 185) (am_rt 185) ∈ am_W := am_mem_W (k := 6) (j := 102) rfl rfl
theorem okw_186 : Cond.code (am_nm 186) (am_cd 186) (am_mx 186) (am_rt 186) ∈ am_W := am_mem_W (k := 6) (j := 97) rfl rfl
theorem okw_187 : Cond.code (am_nm 187) (am_cd 187) (am_mx 187) (am_rt 187) ∈ am_W := am_mem_W (k := 6) (j := 118) rfl rfl
theorem okw_188 : Cond.code (am_nm 188) (am_cd 188) (am_mx 188) (am_rt 188) ∈ am_W := am_mem_W (k := 6) (j := 122) rfl rfl
theorem okw_189 : Cond.code (am_nm 189) (am_cd 189) (am_mx 189) (am_rt 189) ∈ am_W := am_mem_W (k := 6) (j := 126) rfl rfl
theorem okw_190 : Cond.code (am_nm 190) (am_cd 190) (am_mx 190) (am_rt 190) ∈ am_W := am_mem_W (k := 6) (j := 137) rfl rfl
theorem okw_191 : Cond.code (am_nm 191) (am_cd 191) (am_mx 191) (am_rt 191) ∈ am_W := am_mem_W (k := 6) (j := 130) rfl rfl
theorem okw_192 : Cond.code (am_nm 192) (am_cd 192) (am_mx 192) (am_rt 192) ∈ am_W := am_mem_W (k := 6) (j := 141) rfl rfl
theorem okw_193 : Cond.code (am_nm 193) (am_cd 193) (am_mx 193) (am_rt 193) ∈ am_W := am_mem_W (k := 6) (j := 145) rfl rfl
theorem okw_194 : Cond.code (am_nm 194) (am_cd 194) (am_mx 194) (am_rt 194) ∈ am_W := am_mem_W (k := 6) (j := 154) rfl rfl
theorem okw_195 : Cond.code (am_nm 195) (am_cd 195) (am_mx 195) (am_rt 195) ∈ am_W := am_mem_W (k := 6) (j := 149) rfl rfl
theorem okw_196 : Cond.code (am_nm 196) (am_cd 196) (am_mx 196) (am_rt 196) ∈ am_W := am_mem_W (k := 6) (j := 159) rfl rfl
theorem okw_197 : Cond.code (am_nm 197) (am_cd 197) (am_mx 197) (am_rt 197) ∈ am_W := am_mem_W (k := 6) (j := 163) rfl rfl
theorem okw_198 : Cond.code (am_nm 198) (am_cd 198) (am_mx 198) (am_rt 198) ∈ am_W := am_mem_W (k := 6) (j := 167) rfl rfl
theorem okw_199 : Cond.code (am_nm 199) (am_cd 199) (am_mx 199) (am_rt 199) ∈ am_W := am_mem_W (k := 6) (j := 171) rfl rfl
theorem okw_200 : Cond.code (am_nm 200) (am_cd 200) (am_mx 200) (am_rt 200) ∈ am_W := am_mem_W (k := 6) (j := 133) rfl rfl
theorem okw_201 : Cond.code (am_nm 201) (am_cd 201) (am_mx 201) (am_rt 201) ∈ am_W := am_mem_W (k := 6) (j := 175) rfl rfl
theorem okw_202 : Cond.code (am_nm 202) (am_cd 202) (am_mx 202) (am_rt 202) ∈ am_W := am_mem_W (k := 6) (j := 179) rfl rfl
theorem okw_203 : Cond.code (am_nm 203) (am_cd 203) (am_mx 203) (am_rt 203) ∈ am_W := am_mem_W (k := 6) (j := 183) rfl rfl
theorem okw_204 : Cond.code (am_nm 204) (am_cd 204) (am_mx 204) (am_rt 204) ∈ am_W := am_mem_W (k := 6) (j := 187) rfl rfl
theorem okw_205 : Cond.code (am_nm 205) (am_cd 205) (am_mx 205) (am_rt 205) ∈ am_W := am_mem_W (k := 6) (j := 195) rfl rfl
theorem okw_206 : Cond.code (am_nm 206) (am_cd 206) (am_mx 206) (am_rt 206) ∈ am_W := am_mem_W (k := 6) (j := 192) rfl rfl
theorem okw_208 : Cond.code (am_nm 208) (am_cd 208) (am_mx 208) (am_rt 208) ∈ am_W := am_mem_W (k := 2) (j := 194) rfl rfl
theorem okw_209 : Cond.code (am_nm 209) (am_cd 209) (am_mx 209) (am_rt 209) ∈ am_W := am_mem_W (k := 2) (j := 204) rfl rfl
theorem okw_210 : Cond.code (am_nm 210) (am_cd 210) (am_mx 210) (am_rt 210) ∈ am_W := am_mem_W (k := 2) (j := 198) rfl rfl
theorem okw_211 : Cond.code (am_nm 211) (am_cd 211) (am_mx 211) (am_rt 211) ∈ am_W := am_mem_W (k := 2) (j := 208) rfl rfl
theorem okw_212 : Cond.code (am_nm 212) (am_cd 212) (am_mx 212) (am_rt 212) ∈ am_W := am_mem_W (k := 2) (j := 214) rfl rfl
theorem okw_213 : Cond.code (am_nm 213) (am_cd 213) (am_mx 213) (am_rt 213) ∈ am_W := am_mem_W (k := 2) (j := 211) rfl rfl
theorem okw_214 : Cond.code (am_nm 214) (am_cd 214) (am_mx 214) (am_rt 214) ∈ am_W := am_mem_W (k := 2) (j := 109) rfl rfl
theorem okw_215 : Cond.code (am_nm 215) (am_cd 215) (am_mx 215) (am_rt 215) ∈ am_W := am_mem_W (k := 3) (j := 47) rfl rfl
theorem okw_216 : Cond.code (am_nm 216) (am_cd 216) (am_mx 216) (am_rt 216) ∈ am_W := am_mem_W (k := 2) (j := 219) rfl rfl
def okw_l : List Nat := [0, 1, 2, 3, 4, 5, 6, 7, 8, 9, 10, 11, 12, 13, 14, 15, 16, 17, 18, 19, 20, 21, 22, 23, 24, 25, 26, 27, 28, 29, 30, 31, 32, 33, 34, 35, 36, 37, 38, 39, 40, 41, 42, 43, 44, 45, 46, 47, 48, 49, 50, 51, 52, 53, 54, 55, 56, 57, 58, 59, 60, 61, 62, 63, 64, 65, 66, 67, 68, 69, 70, 71, 72, 73, 74, 75, 76, 77, 78, 79, 80, 81, 82, 83, 84, 85, 86, 87, 88, 89, 90, 91, 92, 93, 94, 95, 96, 97, 98, 99, 100, 101, 102, 103, 104, 105, 106, 107, 108, 109, 110, 111, 112, 113, 114, 115, 116, 117, 118, 119, 120, 121, 122, 123, 124, 125, 126, 127, 128, 129, 130, 131, 132, 133, 134, 135, 136, 137, 138, 139, 140, 141, 142, 143, 144, 145, 146, 147, 148, 149, 150, 151, 152, 153, 154, 155, 156, 157, 158, 159, 160, 161, 162, 163, 164, 165, 166, 167, 168, 169, 170, 171, 172, 173, 174, 175, 176, 177, 178, 179, 180, 181, 182, 183, 184, 185, 186, 187, 188, 189, 190, 191, 192, 193, 194, 195, 196, 197, 198, 199, 200, 201, 202, 203, 204, 205, 206, 208, 209, 210, 211, 212, 213, 214, 215, 216]
set_option maxRecDepth 100000 in
theorem okw_a : ∀ m ∈ okw_l, Cond.code (am_nm m) (am_cd m) (am_mx m) (am_rt m) ∈ am_W := List.forall_mem_cons.mpr ⟨okw_0, List.forall_mem_cons.mpr ⟨okw_1, List.forall_mem_cons.mpr ⟨okw_2, List.forall_mem_cons.mpr ⟨okw_3, List.forall_mem_cons.mpr ⟨okw_4, List.forall_mem_cons.mpr ⟨okw_5, List.forall_mem_cons.mpr ⟨okw_6, List.forall_mem_cons.mpr ⟨okw_7, List.forall_mem_cons.mpr ⟨okw_8, List.forall_mem_cons.mpr ⟨okw_9, List.forall_mem_cons.mpr ⟨okw_10, List.forall_mem_cons.mpr ⟨okw_11, List.forall_mem_cons.mpr ⟨okw_12, List.forall_mem_cons.mpr ⟨okw_13, List.forall_mem_cons.mpr ⟨okw_14, List.forall_mem_cons.mpr ⟨okw_15, List.forall_mem_cons.mpr ⟨okw_16, List.forall_mem_cons.mpr ⟨okw_17, List.forall_mem_cons.mpr ⟨okw_18, List.forall_mem_cons.mpr ⟨okw_19, List.forall_mem_cons.mpr ⟨okw_20, List.forall_mem_cons.mpr ⟨okw_21, List.forall_mem_cons.mpr ⟨okw_22, List.forall_mem_cons.mpr ⟨okw_23, List.forall_mem_cons.mpr ⟨okw_24, List.forall_mem_cons.mpr ⟨okw_25, List.forall_mem_cons.mpr ⟨okw_26, List.forall_mem_cons.mpr ⟨okw_27, List.forall_mem_cons.mpr ⟨okw_28, List.forall_mem_cons.mpr ⟨okw_29, List.forall_mem_cons.mpr ⟨okw_30, List.forall_mem_cons.mpr ⟨okw_31, List.forall_mem_cons.mpr ⟨okw_32, List.forall_mem_cons.mpr ⟨okw_33, List.forall_mem_cons.mpr ⟨okw_34, List.forall_mem_cons.mpr ⟨okw_35, List.forall_mem_cons.mpr ⟨okw_36, List.forall_mem_cons.mpr ⟨okw_37, List.forall_mem_cons.mpr ⟨okw_38, List.forall_mem_cons.mpr ⟨okw_39, List.forall_mem_cons.mpr ⟨okw_40, List.forall_mem_cons.mpr ⟨okw_41, List.forall_mem_cons.mpr ⟨okw_42, List.forall_mem_cons.mpr ⟨okw_43, List.forall_mem_cons.mpr ⟨okw_44, List.forall_mem_cons.mpr ⟨okw_45, List.forall_mem_cons.mpr ⟨okw_46, List.forall_mem_cons.mpr ⟨okw_47, List.forall_mem_cons.mpr ⟨okw_48, List.forall_mem_cons.mpr ⟨okw_49, List.forall_mem_cons.mpr ⟨okw_50, List.forall_mem_cons.mpr ⟨okw_51, List.forall_mem_cons.mpr ⟨okw_52, List.forall_mem_cons.mpr ⟨okw_53, List.forall_mem_cons.mpr ⟨okw_54, List.forall_mem_cons.mpr ⟨okw_55, List.forall_mem_cons.mpr ⟨okw_56, List.forall_mem_cons.mpr ⟨okw_57, List.forall_mem_cons.mpr ⟨okw_58, List.forall_mem_cons.mpr ⟨okw_59, List.forall_mem_cons.mpr ⟨okw_60, List.forall_mem_cons.mpr ⟨okw_61, List.forall_mem_cons.mpr ⟨okw_62, List.forall_mem_cons.mpr ⟨okw_63, List.forall_mem_cons.mpr ⟨okw_64, List.forall_mem_cons.mpr ⟨okw_65, List.forall_mem_cons.mpr ⟨okw_66, List.forall_mem_cons.mpr ⟨okw_67, List.forall_mem_cons.mpr ⟨okw_68, List.forall_mem_cons.mpr ⟨okw_69, List.forall_mem_cons.mpr ⟨okw_70, List.forall_mem_cons.mpr ⟨okw_71, List.forall_mem_cons.mpr ⟨okw_72, List.forall_mem_cons.mpr ⟨okw_73, List.forall_mem_cons.mpr ⟨okw_74, List.forall_mem_cons.mpr ⟨okw_75, List.forall_mem_cons.mpr ⟨okw_76, List.forall_mem_cons.mpr ⟨okw_77, List.forall_mem_cons.mpr ⟨okw_78, List.forall_mem_cons.mpr ⟨okw_79, List.forall_mem_cons.mpr ⟨okw_80, List.forall_mem_cons.mpr ⟨okw_81, List.forall_mem_cons.mpr ⟨okw_82, List.forall_mem_cons.mpr ⟨okw_83, List.forall_mem_cons.mpr ⟨okw_84, List.forall_mem_cons.mpr ⟨okw_85, List.forall_mem_cons.mpr ⟨okw_86, List.forall_mem_cons.mpr ⟨okw_87, List.forall_mem_cons.mpr ⟨okw_88, List.forall_mem_cons.mpr ⟨okw_89, List.forall_mem_cons.mpr ⟨okw_90, List.forall_mem_cons.mpr ⟨okw_91, List.forall_mem_cons.mpr ⟨okw_92, List.forall_mem_cons.mpr ⟨okw_93, List.forall_mem_cons.mpr ⟨okw_94, List.forall_mem_cons.mpr ⟨okw_95, List.forall_mem_cons.mpr ⟨okw_96, List.forall_mem_cons.mpr ⟨okw_97, List.forall_mem_cons.mpr ⟨okw_98, List.forall_mem_cons.mpr ⟨okw_99, List.forall_mem_cons.mpr ⟨okw_100, List.forall_mem_cons.mpr ⟨okw_101, List.forall_mem_cons.mpr ⟨okw_102, List.forall_mem_cons.mpr ⟨okw_103, List.forall_mem_cons.mpr ⟨okw_104, List.forall_mem_cons.mpr ⟨okw_105, List.forall_mem_cons.mpr ⟨okw_106, List.forall_mem_cons.mpr ⟨okw_107, List.forall_mem_cons.mpr ⟨okw_108, List.forall_mem_cons.mpr ⟨okw_109, List.forall_mem_cons.mpr ⟨okw_110, List.forall_mem_cons.mpr ⟨okw_111, List.forall_mem_cons.mpr ⟨okw_112, List.forall_mem_cons.mpr ⟨okw_113, List.forall_mem_cons.mpr ⟨okw_114, List.forall_mem_cons.mpr ⟨okw_115, List.forall_mem_cons.mpr ⟨okw_116, List.forall_mem_cons.mpr ⟨okw_117, List.forall_mem_cons.mpr ⟨okw_118, List.forall_mem_cons.mpr ⟨okw_119, List.forall_mem_cons.mpr ⟨okw_120, List.forall_mem_cons.mpr ⟨okw_121, List.forall_mem_cons.mpr ⟨okw_122, List.forall_mem_cons.mpr ⟨okw_123, List.forall_mem_cons.mpr ⟨okw_124, List.forall_mem_cons.mpr ⟨okw_125, List.forall_mem_cons.mpr ⟨okw_126, List.forall_mem_cons.mpr ⟨okw_127, List.forall_mem_cons.mpr ⟨okw_128, List.forall_mem_cons.mpr ⟨okw_129, List.forall_mem_cons.mpr ⟨okw_130, List.forall_mem_cons.mpr ⟨okw_131, List.forall_mem_cons.mpr ⟨okw_132, List.forall_mem_cons.mpr ⟨okw_133, List.forall_mem_cons.mpr ⟨okw_134, List.forall_mem_cons.mpr ⟨okw_135, List.forall_mem_cons.mpr ⟨okw_136, List.forall_mem_cons.mpr ⟨okw_137, List.forall_mem_cons.mpr ⟨okw_138, List.forall_mem_cons.mpr ⟨okw_139, List.forall_mem_cons.mpr ⟨okw_140, List.forall_mem_cons.mpr ⟨okw_141, List.forall_mem_cons.mpr ⟨okw_142, List.forall_mem_cons.mpr ⟨okw_143, List.forall_mem_cons.mpr ⟨okw_144, List.forall_mem_cons.mpr ⟨okw_145, List.forall_mem_cons.mpr ⟨okw_146, List.forall_mem_cons.mpr ⟨okw_147, List.forall_mem_cons.mpr ⟨okw_148, List.forall_mem_cons.mpr ⟨okw_149, List.forall_mem_cons.mpr ⟨okw_150, List.forall_mem_cons.mpr ⟨okw_151, List.forall_mem_cons.mpr ⟨okw_152, List.forall_mem_cons.mpr ⟨okw_153, List.forall_mem_cons.mpr ⟨okw_154, List.forall_mem_cons.mpr ⟨okw_155, List.forall_mem_cons.mpr ⟨okw_156, List.forall_mem_cons.mpr ⟨okw_157, List.forall_mem_cons.mpr ⟨okw_158, List.forall_mem_cons.mpr ⟨okw_159, List.forall_mem_cons.mpr ⟨okw_160, List.forall_mem_cons.mpr ⟨okw_161, List.forall_mem_cons.mpr ⟨okw_162, List.forall_mem_cons.mpr ⟨okw_163, List.forall_mem_cons.mpr ⟨okw_164, List.forall_mem_cons.mpr ⟨okw_165, List.forall_mem_cons.mpr ⟨okw_166, List.forall_mem_cons.mpr ⟨okw_167, List.forall_mem_cons.mpr ⟨okw_168, List.forall_mem_cons.mpr ⟨okw_169, List.forall_mem_cons.mpr ⟨okw_170, List.forall_mem_cons.mpr ⟨okw_171, List.forall_mem_cons.mpr ⟨okw_172, List.forall_mem_cons.mpr ⟨okw_173, List.forall_mem_cons.mpr ⟨okw_174, List.forall_mem_cons.mpr ⟨okw_175, List.forall_mem_cons.mpr ⟨okw_176, List.forall_mem_cons.mpr ⟨okw_177, List.forall_mem_cons.mpr ⟨okw_178, List.forall_mem_cons.mpr ⟨okw_179, List.forall_mem_cons.mpr ⟨okw_180, List.forall_mem_cons.mpr ⟨okw_181, List.forall_mem_cons.mpr ⟨okw_182, List.forall_mem_cons.mpr ⟨okw_183, List.forall_mem_cons.mpr ⟨okw_184, List.forall_mem_cons.mpr ⟨okw_185, List.forall_mem_cons.mpr ⟨okw_186, List.forall_mem_cons.mpr ⟨okw_187, List.forall_mem_cons.mpr ⟨okw_188, List.forall_mem_cons.mpr ⟨okw_189, List.forall_mem_cons.mpr ⟨okw_190, List.forall_mem_cons.mpr ⟨okw_191, List.forall_mem_cons.mpr ⟨okw_192, List.forall_mem_cons.mpr ⟨okw_193, List.forall_mem_cons.mpr ⟨okw_194, List.forall_mem_cons.mpr ⟨okw_195, List.forall_mem_cons.mpr ⟨okw_196, List.forall_mem_cons.mpr ⟨okw_197, List.forall_mem_cons.mpr ⟨okw_198, List.forall_mem_cons.mpr ⟨okw_199, List.forall_mem_cons.mpr ⟨okw_200, List.forall_mem_cons.mpr ⟨okw_201, List.forall_mem_cons.mpr ⟨okw_202, List.forall_mem_cons.mpr ⟨okw_203, List.forall_mem_cons.mpr ⟨okw_204, List.forall_mem_cons.mpr ⟨okw_205, List.forall_mem_cons.mpr ⟨okw_206, List.forall_mem_cons.mpr ⟨okw_208, List.forall_mem_cons.mpr ⟨okw_209, List.forall_mem_cons.mpr ⟨okw_210, List.forall_mem_cons.mpr ⟨okw_211, List.forall_mem_cons.mpr ⟨okw_212, List.forall_mem_cons.mpr ⟨okw_213, List.forall_mem_cons.mpr ⟨okw_214, List.forall_mem_cons.mpr ⟨okw_215, List.forall_mem_cons.mpr ⟨okw_216, fun _ h => absurd h List.not_mem_nil⟩⟩⟩⟩⟩⟩⟩⟩⟩⟩⟩⟩⟩⟩⟩⟩⟩⟩⟩⟩⟩⟩⟩⟩⟩⟩⟩⟩⟩⟩⟩⟩⟩⟩⟩⟩⟩⟩⟩⟩⟩⟩⟩⟩⟩⟩⟩⟩⟩⟩⟩⟩⟩⟩⟩⟩⟩⟩⟩⟩⟩⟩⟩⟩⟩⟩⟩⟩⟩⟩⟩⟩⟩⟩⟩⟩⟩⟩⟩⟩⟩⟩⟩⟩⟩⟩⟩⟩⟩⟩⟩⟩⟩⟩⟩⟩⟩⟩⟩⟩⟩⟩⟩⟩⟩⟩⟩⟩⟩⟩⟩⟩⟩⟩⟩⟩⟩⟩⟩⟩⟩⟩⟩⟩⟩⟩⟩⟩⟩⟩⟩⟩⟩⟩⟩⟩⟩⟩⟩⟩⟩⟩⟩⟩⟩⟩⟩⟩⟩⟩⟩⟩⟩⟩⟩⟩⟩⟩⟩⟩⟩⟩⟩⟩⟩⟩⟩⟩⟩⟩⟩⟩⟩⟩⟩⟩⟩⟩⟩⟩⟩⟩⟩⟩⟩⟩⟩⟩⟩⟩⟩⟩⟩⟩⟩⟩⟩⟩⟩⟩⟩⟩⟩⟩⟩⟩⟩⟩⟩⟩⟩⟩⟩⟩⟩⟩
theorem okw_c : (List.range 217).all (fun m => Nat.beq m 207 || decide (m ∈ okw_l)) = true := by decide +kernel
theorem okw_m (m : Nat) (h : m < 217) (h2 : ¬ m = 207) : Cond.code (am_nm m) (am_cd m) (am_mx m) (am_rt m) ∈ am_W := by
  have := List.all_eq_true.mp okw_c m (List.mem_range.mpr h)
  rw [Bool.or_eq_true] at this
  exact okw_a m (of_decide_eq_true (this.resolve_left (fun e => h2 (Nat.eq_of_beq_eq_true e))))
end
section
/-! THE CLASSES: their words, their fields -/
def cl_lp : List (List Nat) := [[1101, 1103, 1105, 1107, 1109, 1111, 1113, 1115], [1146, 1148], [1203, 1205, 1207, 1209, 1211, 1213, 1215, 1217], [1070, 1072, 1074, 1076, 1078], [2009, 2011, 2013, 2015, 2017, 2019, 2021, 2023, 2025, 2027, 2029, 2031, 2033, 2035, 2037, 2039, 2041], [1162, 1164, 1166], [1047, 1049, 1051, 1053, 1055], [1178, 1180, 1182], [1129, 1131, 1133], [2062, 2064, 2066, 2068, 2070, 2072, 2074, 2076, 2078, 2080, 2082, 2084, 2086, 2088, 2090, 2092, 2094, 2096], [4235, 4237, 4239, 5001, 5003, 5005, 5007, 5009, 5011, 5013, 5015, 5017, 5019, 5021, 5023, 5025, 5027, 5029, 5031, 5033, 5035, 5037, 5039, 5041, 5043, 5045, 5047, 5049, 5051, 5053, 5055, 5057, 5059, 5061, 5063, 5065, 5067, 5069, 5071, 5073, 5075, 5077, 5079, 5081, 5083, 5085, 5087, 5089, 5091, 5093, 5095, 5097, 5099, 5101, 5103]]
def cl_ip : List (Nat × Nat) := [(1004, 1084), (1006, 1137), (1009, 1186), (1003, 1060), (1010, 1221), (1007, 1151), (1002, 1032), (1008, 1170), (1005, 1118), (1001, 1020), (1011, 4172)]
theorem cl_w0 : (List.range 11).all (fun x => match am_cl[x]? with | some q => (List.range q.2.2).all (fun k => am_lk ((cl_lp.getD x []).getD k 0) (u_lay q.1 q.2.1 k)) && (am_lk (cl_ip.getD x (0, 0)).1 (.initialized q.1) && am_lk (cl_ip.getD x (0, 0)).2 (.instantiable q.1 q.2.2)) | none => false) = true := by decide +kernel
theorem cl_lt {x : Nat} {q : vw_C} (h : am_cl[x]? = some q) : x < 11 := (List.getElem?_eq_some_iff.mp h).1
theorem cl_w {x : Nat} {q : vw_C} (h : am_cl[x]? = some q) : (∀ w ∈ u_ws q.1 q.2.1 q.2.2, w ∈ am_W) ∧ Cond.initialized q.1 ∈ am_W ∧ Cond.instantiable q.1 q.2.2 ∈ am_W := by
  have h1 := List.all_eq_true.mp cl_w0 x (List.mem_range.mpr (cl_lt h))
  rw [h] at h1
  simp only [Bool.and_eq_true] at h1
  refine ⟨fun w hw => ?_, am_lk_in h1.2.1, am_lk_in h1.2.2⟩
  obtain ⟨k, hk, rfl⟩ := List.mem_map.mp hw
  exact am_lk_in (List.all_eq_true.mp h1.1 k hk)
theorem cl_t0 : (List.range 11).all (fun x => match am_cl[x]? with | some q => (List.range q.2.2).all (fun k => decide (parseFieldDescriptor (q.2.1 k).2.2.1 = some (am_ty x k))) | none => false) = true := by decide +kernel
theorem cl_t {x : Nat} {q : vw_C} (h : am_cl[x]? = some q) : ∀ k, k < q.2.2 → parseFieldDescriptor (q.2.1 k).2.2.1 = some (am_ty x k) := by
  intro k hk
  have h1 := List.all_eq_true.mp cl_t0 x (List.mem_range.mpr (cl_lt h))
  rw [h] at h1
  exact of_decide_eq_true (List.all_eq_true.mp h1 k (List.mem_range.mpr hk))
theorem cl_n0 : (List.range 11).all (fun x => match am_cl[x]? with | some q => (List.range q.2.2).all (fun a => (List.range q.2.2).all (fun b => Nat.beq a b || decide ((q.2.1 a).2.1 ≠ (q.2.1 b).2.1))) | none => false) = true := by decide +kernel
theorem cl_n {x : Nat} {q : vw_C} (h : am_cl[x]? = some q) : ∀ a, a < q.2.2 → ∀ b, b < q.2.2 → a ≠ b → (q.2.1 a).2.1 ≠ (q.2.1 b).2.1 := by
  intro a ha b hb hab
  have h1 := List.all_eq_true.mp cl_n0 x (List.mem_range.mpr (cl_lt h))
  rw [h] at h1
  have h2 := List.all_eq_true.mp (List.all_eq_true.mp h1 a (List.mem_range.mpr ha)) b (List.mem_range.mpr hb)
  rw [Bool.or_eq_true] at h2
  exact of_decide_eq_true (h2.resolve_left (fun e => hab (Nat.eq_of_beq_eq_true e)))
theorem cl_rc : ∀ x, am_rc x = "EvenlyPoured$Pourer" ∨ am_rc x = "EvenlyPoured$Text" ∨ am_rc x = "EvenlyPoured$Sheet" := by
  intro x
  unfold am_rc
  split <;> simp
theorem cl_oi : Cond.instanceMethod objectInit ∈ am_W ∧ Cond.code objectInit ⟨#[0xb1]⟩ 1 none ∈ am_W := ⟨am_mem_W (k := 1) (j := 25) rfl rfl, am_mem_W (k := 1) (j := 26) rfl rfl⟩
theorem cl_ac : Cond.native arraycopyName ∈ am_W ∧ Cond.static arraycopyName ∈ am_W ∧ Cond.initialized "java/lang/System" ∈ am_W := ⟨am_mem_W (k := 3) (j := 60) rfl rfl, am_mem_W (k := 3) (j := 59) rfl rfl, am_mem_W (k := 1) (j := 18) rfl rfl⟩
theorem cl_mmax : Cond.static Lib.Math.max.name ∈ am_W ∧ Cond.initialized "java/lang/Math" ∈ am_W ∧ Cond.code Lib.Math.max.name Lib.Math.max.code 2 (some .int) ∈ am_W := ⟨am_mem_W (k := 3) (j := 121) rfl rfl, am_mem_W (k := 1) (j := 17) rfl rfl, am_mem_W (k := 3) (j := 122) rfl rfl⟩
theorem cl_mmin : Cond.static Lib.Math.min.name ∈ am_W ∧ Cond.initialized "java/lang/Math" ∈ am_W ∧ Cond.code Lib.Math.min.name Lib.Math.min.code 2 (some .int) ∈ am_W := ⟨am_mem_W (k := 3) (j := 56) rfl rfl, am_mem_W (k := 1) (j := 17) rfl rfl, am_mem_W (k := 3) (j := 57) rfl rfl⟩
theorem cl_mabs : Cond.static Lib.Math.abs.name ∈ am_W ∧ Cond.initialized "java/lang/Math" ∈ am_W ∧ Cond.code Lib.Math.abs.name Lib.Math.abs.code 1 (some .int) ∈ am_W := ⟨am_mem_W (k := 3) (j := 154) rfl rfl, am_mem_W (k := 1) (j := 17) rfl rfl, am_mem_W (k := 3) (j := 155) rfl rfl⟩
theorem cl_ar : Cond.arrayClass .int ∈ am_W ∧ Cond.arrayClass .boolean ∈ am_W := ⟨am_mem_W (k := 1) (j := 58) rfl rfl, am_mem_W (k := 1) (j := 136) rfl rfl⟩
end
section
/-! THE SIMULATION, 1: how an abstract memory lies in a heap -/
/-- what a simulation is about: the classes' numbers and slots, the array classes, where the cells lie, the first own address, the formatter, the script -/
abbrev sm_G : Type := va_G × (Nat → ClassId) × (Nat → Nat) × Nat × Value × Nat × (Nat → Int32)
abbrev sm_D (G : sm_G) : va_G := G.1
abbrev sm_c (G : sm_G) : Nat → ClassId := G.2.1
abbrev sm_a (G : sm_G) : Nat → Nat := G.2.2.1
abbrev sm_b (G : sm_G) : Nat := G.2.2.2.1
abbrev sm_f (G : sm_G) : Value := G.2.2.2.2.1
abbrev sm_n (G : sm_G) : Nat := G.2.2.2.2.2.1
abbrev sm_x (G : sm_G) : Nat → Int32 := G.2.2.2.2.2.2
def sm_A (G : sm_G) : Nat → Prop := fun q => sm_b G ≤ q
def sm_P (G : sm_G) : Prop := (∀ k, sm_a G (k + 5) = sm_b G + k) ∧ (sm_f G = .null ∨ ∃ t, sm_f G = .ref t) ∧ sm_n G < 2 ^ 31
/-- the machine's value of an abstract one -/
def sm_v (G : sm_G) (v : Value) : Value := match v with
  | .ref k => if k = 4 then sm_f G else .ref (sm_a G k)
  | v => v
def sm_un : List Int32 := [-1, 0, 0, 1, 2, 1]
def sm_tx : String := "drib dribs cups cup full was strong drips liked or and not "
def sm_by : List Int32 := [100, 114, 105, 98, 32, 100, 114, 105, 98, 115, 32, 99, 117, 112, 115, 32, 99, 117, 112, 32, 102, 117, 108, 108, 32, 119, 97, 115, 32, 115, 116, 114, 111, 110, 103, 32, 100, 114, 105, 112, 115, 32, 108, 105, 107, 101, 100, 32, 111, 114, 32, 97, 110, 100, 32, 110, 111, 116, 32]
def sm_fv (G : sm_G) (M : am_M) (k c j : Nat) : Value := match am_wc (am_ty c j) with
  | 1 => va_rf ((M.2.2.1 k j).map (sm_a G))
  | 2 => .long (M.2.2.2 k j)
  | _ => .int (M.2.1 k j)
def sm_at (G : sm_G) (M : am_M) (k : Nat) (H : Heap) : Prop := ∀ c n, M.1[k]? = some (c, n) → (c < 11 → (∃ q, am_cl[c]? = some q ∧ n = q.2.2) ∧ t_OB (sm_a G k) ((sm_D G).1 c) n ((sm_D G).2 c) H (sm_fv G M k c)) ∧ ((c = 20 ∨ c = 21) → H[sm_a G k]? = some (arrV (sm_c G c) n (fun j => .int (M.2.1 k j)))) ∧ (22 ≤ c → c ≤ 24 → H[sm_a G k]? = some (arrV (sm_c G c) n (fun j => va_rf ((M.2.2.1 k j).map (sm_a G))))) ∧ (c < 11 ∨ (20 ≤ c ∧ c ≤ 24))
def sm_hp (G : sm_G) (M : am_M) (H : Heap) : Prop := (∀ k, 5 ≤ k → sm_at G M k H) ∧ H.size + 5 = sm_b G + M.1.length ∧ 5 ≤ M.1.length
def sm_fr (G : sm_G) (M : am_M) : Prop := M.1.take 5 = [(20, sm_n G), (20, 6), (26, 2), (25, 59), (99, 0)] ∧ (∀ j, j < sm_n G → M.2.1 0 j = sm_x G j) ∧ (∀ j, j < 6 → M.2.1 1 j = sm_un.getD j 0) ∧ M.2.1 2 0 = 0 ∧ M.2.2.1 2 1 = some 3 ∧ (∀ j, j < 59 → M.2.1 3 j = sm_by.getD j 0) ∧ ∀ a k v, 5 ≤ a → M.2.2.1 a k = some v → 5 ≤ v
def sm_nw : List Cond := lw_tbl.filter (fun w => match w with | .fieldLinkNest .. => true | .methodLinkNest .. => true | _ => false)
def sm_ts (G : sm_G) : List (ClassId × FieldType) := [(sm_c G 20, .int), (sm_c G 21, .boolean), (sm_c G 22, .object "EvenlyPoured$Pourer"), (sm_c G 23, .object "EvenlyPoured$Text"), (sm_c G 24, .object "EvenlyPoured$Sheet")]
/-- what stays true of the tables and of the cells that aren't the law's own -/
def sm_S (G : sm_G) (U : State) : Prop := va_K (sm_D G) am_cl (sm_ts G) U ∧ (∀ c, va_AO (am_rc c) U) ∧ (∀ w ∈ sm_nw, va_Nw w U) ∧ vk_R "EvenlyPoured$Tape" 52 sm_tx (sm_a G 2) U ∧ vk_S 1 [59] [sm_by] (fun _ => sm_a G 2) (fun _ => sm_a G 3) (sm_A G) U U.heap ∧ (va_X (sm_a G 0) (sm_n G) (sm_x G) U U.heap ∧ sm_a G 0 < sm_b G) ∧ va_T .int (sm_a G 1) 6 (fun j => .int (sm_un.getD j 0)) (sm_A G) U U.heap ∧ va_Z "EvenlyPoured" "UNDER" "[I" (.ref (sm_a G 1)) (sm_A G) U U.heap ∧ va_Z "java/lang/String" "COMPACT_STRINGS" "Z" (.int 1) (sm_A G) U U.heap ∧ va_Z "jdk/internal/util/Preconditions" "SIOOBE_FORMATTER" "Ljava/util/function/BiFunction;" (sm_f G) (sm_A G) U U.heap ∧ sm_b G ≤ U.heap.size
theorem sm_nw_warm {s U : State} (hW : s.WarmedH U.vm) {w : Cond} (hw : w ∈ sm_nw) (h : va_Nw w s) : va_Nw w U := by
  have h1 := (List.mem_filter.mp hw).2
  cases w <;> first | exact va_Nw.warmF hW h | exact va_Nw.warmM hW h | cases h1
theorem sm_S.to {G : sm_G} {s U : State} (h : sm_S G s) (hW : s.WarmedH U.vm) (hq : ∀ q : Nat, q < s.heap.size → ¬ sm_A G q → U.heap[q]? = s.heap[q]?) (hb : s.heap.size ≤ U.heap.size) : sm_S G U := by
  obtain ⟨h1, h2, h3, h4, h5, ⟨h6, h6'⟩, h7, h8, h9, h10, h11⟩ := h
  have ha := hW.alike
  refine ⟨va_K.moved ha h1, fun c => va_AO.moved ha (h2 c), fun w hw => sm_nw_warm hW hw (h3 w hw), vk_R.warm hW h4, vk_S.moved ha (vk_S.kept h5 hq), ⟨va_X.moved ha (va_X.kept h6 (hq _ (Nat.lt_of_lt_of_le h6' h11) (Nat.not_le.mpr h6'))), h6'⟩, va_T.moved ha (va_T.kept h7 hq), va_Z.moved ha (va_Z.kept h8 hq), va_Z.moved ha (va_Z.kept h9 hq), va_Z.moved ha (va_Z.kept h10 hq), Nat.le_trans h11 hb⟩
/-- the locals -/
noncomputable def sm_ll (G : sm_G) (L : am_L) : List (Nat × Value) := (List.range L.length).filterMap (fun i => match L[i]? with | some (some v) => cond (am_isV v) (some (i, sm_v G v)) none | _ => none)
def sm_L (G : sm_G) (L : am_L) (ls : Array Slot) (n : Nat) : Prop := L.length = n ∧ lv_has ls n (sm_ll G L)
theorem sm_ll_mem {G : sm_G} {L : am_L} {i : Nat} {v : Value} (h : L[i]? = some (some v)) (hv : am_isV v = true) : (i, sm_v G v) ∈ sm_ll G L := by
  refine List.mem_filterMap.mpr ⟨i, List.mem_range.mpr (List.getElem?_eq_some_iff.mp h).1, ?_⟩
  rw [h]
  simp only [hv, cond_true]
theorem sm_ll_of {G : sm_G} {L : am_L} {q : Nat × Value} (h : q ∈ sm_ll G L) : ∃ v, L[q.1]? = some (some v) ∧ am_isV v = true ∧ q.2 = sm_v G v := by
  obtain ⟨i, -, hi⟩ := List.mem_filterMap.mp h
  split at hi
  · rename_i v hv
    cases hc : am_isV v with
    | false => rw [hc] at hi; cases hi
    | true =>
      rw [hc] at hi
      cases hi
      exact ⟨v, hv, hc, rfl⟩
  · cases hi
theorem sm_L.at {G : sm_G} {L : am_L} {ls : Array Slot} {n i : Nat} {v : Value} (h : sm_L G L ls n) (hi : L[i]? = some (some v)) (hv : am_isV v = true) : ls[i]? = some (.val (sm_v G v)) := h.2.2.2 _ (sm_ll_mem hi hv)
theorem sm_cat (G : sm_G) (hP : sm_P G) (v : Value) : (sm_v G v).category = v.category := by
  cases v with
  | ref k =>
    show (if k = 4 then sm_f G else Value.ref (sm_a G k)).category = 1
    split
    · rcases hP.2.1 with h | ⟨t, h⟩ <;> rw [h] <;> rfl
    · rfl
  | _ => rfl
theorem sm_clr_get {L : am_L} {x j : Nat} {v : Value} (h : (am_clr L x)[j]? = some (some v)) (hv : am_isV v = true) : L[j]? = some (some v) ∧ ¬ (j + 1 = x ∧ v.category = 2) := by
  cases x with
  | zero => exact ⟨h, fun e => by omega⟩
  | succ y =>
    replace h : (cond (am_isl L[y]?) (L.set y none) L)[j]? = some (some v) := h
    cases hc : am_isl L[y]? with
    | true =>
      rw [hc] at h
      simp only [cond_true] at h
      by_cases hj : j = y
      · subst hj
        rw [List.getElem?_set] at h
        simp at h
      · rw [List.getElem?_set_ne (Ne.symm hj)] at h
        exact ⟨h, fun e => hj (by omega)⟩
    | false =>
      rw [hc] at h
      simp only [cond_false] at h
      refine ⟨h, fun e => ?_⟩
      have hj : j = y := by omega
      subst hj
      rw [h] at hc
      obtain ⟨-, e2⟩ := e
      cases v <;> first | (cases hc; done) | (cases hv; done) | (simp [Value.category] at e2; done)
theorem sm_clr_len (L : am_L) (x : Nat) : (am_clr L x).length = L.length := by
  unfold am_clr
  split
  · rfl
  · cases am_isl _ <;> simp
/-- after a store of one slot -/
theorem sm_L.set1 {G : sm_G} (hP : sm_P G) {L : am_L} {ls' : Array Slot} {n x : Nat} {v : Value} {lv : List (Nat × Value)} (hn : L.length = n) (hx : x < n) (hlv : lv = (x, sm_v G v) :: (sm_ll G L).filter (fun q => !(q.1 == x) && !(q.1 + 1 == x && q.2.category == 2))) (h : lv_has ls' n lv) : sm_L G (am_set1 L x v) ls' n := by
  refine ⟨by unfold am_set1; rw [List.length_set, sm_clr_len]; exact hn, h.1, h.2.1, fun q hq => ?_⟩
  obtain ⟨w, h1, h2, h3⟩ := sm_ll_of hq
  refine h.2.2 q ?_
  rw [hlv]
  unfold am_set1 at h1
  by_cases hj : q.1 = x
  · rw [hj, List.getElem?_set_self (by rw [sm_clr_len]; omega)] at h1
    cases h1
    exact List.mem_cons.mpr (Or.inl (Prod.ext hj h3))
  · rw [List.getElem?_set_ne (Ne.symm hj)] at h1
    obtain ⟨g1, g2⟩ := sm_clr_get h1 h2
    refine List.mem_cons_of_mem _ (List.mem_filter.mpr ⟨?_, ?_⟩)
    · have := sm_ll_mem (G := G) g1 h2
      rw [← h3] at this
      exact this
    · rw [h3, sm_cat G hP]
      simp only [Bool.and_eq_true, Bool.not_eq_true', beq_eq_false_iff_ne, ne_eq, Bool.and_eq_false_iff]
      refine ⟨hj, ?_⟩
      by_cases e : q.1 + 1 = x
      · exact Or.inr (fun e2 => g2 ⟨e, e2⟩)
      · exact Or.inl e
theorem sm_L.set2 {G : sm_G} (hP : sm_P G) {L : am_L} {ls' : Array Slot} {n x : Nat} {v : Value} {lv : List (Nat × Value)} (hn : L.length = n) (hx : x + 1 < n) (hlv : lv = (x, sm_v G v) :: (sm_ll G L).filter (fun q => !(q.1 == x) && (!(q.1 == x + 1) && !(q.1 + 1 == x && q.2.category == 2)))) (h : lv_has ls' n lv) : sm_L G (am_set2 L x v) ls' n := by
  refine ⟨by unfold am_set2; rw [List.length_set, List.length_set, sm_clr_len]; exact hn, h.1, h.2.1, fun q hq => ?_⟩
  obtain ⟨w, h1, h2, h3⟩ := sm_ll_of hq
  refine h.2.2 q ?_
  rw [hlv]
  unfold am_set2 at h1
  by_cases hj1 : q.1 = x + 1
  · rw [hj1, List.getElem?_set_self (by rw [List.length_set, sm_clr_len]; omega)] at h1
    cases h1
  · rw [List.getElem?_set_ne (Ne.symm hj1)] at h1
    by_cases hj : q.1 = x
    · rw [hj, List.getElem?_set_self (by rw [sm_clr_len]; omega)] at h1
      cases h1
      exact List.mem_cons.mpr (Or.inl (Prod.ext hj h3))
    · rw [List.getElem?_set_ne (Ne.symm hj)] at h1
      obtain ⟨g1, g2⟩ := sm_clr_get h1 h2
      refine List.mem_cons_of_mem _ (List.mem_filter.mpr ⟨?_, ?_⟩)
      · have := sm_ll_mem (G := G) g1 h2
        rw [← h3] at this
        exact this
      · rw [h3, sm_cat G hP]
        simp only [Bool.and_eq_true, Bool.not_eq_true', beq_eq_false_iff_ne, ne_eq, Bool.and_eq_false_iff]
        refine ⟨hj, hj1, ?_⟩
        by_cases e : q.1 + 1 = x
        · exact Or.inr (fun e2 => g2 ⟨e, e2⟩)
        · exact Or.inl e
/-! THE SIMULATION, 2: the instructions that go on -/
/-- how many fields and elements -/
def am_sz (M : am_M) : Nat := (M.1.map (fun q => q.2)).sum
/-- what a method's frame has, all the time -/
def sm_cx (G : sm_G) (p : Program) (R : Room) (s : State) (mI : MethodId) (args : Array Value) (meth : Method) (c : Code) (m d : Nat) : Prop := p.tables.exec = Jvm.exec ∧ c.code = am_cd m ∧ c.maxLocals = am_mx m ∧ s.vm.findClass (am_nm m).cls = some mI.cls ∧ (∀ w ∈ am_W, w.before args s = true) ∧ sm_S G s ∧ meth.name = (am_nm m).name ∧ d ≤ R.frames ∧ 40 * d ≤ R.locals ∧ sm_P G
def sm_rl (G : sm_G) (M : am_M) (s : State) (H : Heap) (locs : List Loc) : Prop := sm_hp G M H ∧ sm_fr G M ∧ va_S (sm_A G) s.heap H locs
section SM2
variable {G : sm_G} {p : Program} {l : Launch} {e : Env} {R : Room} {s : State} {mI : MethodId} {args : Array Value} {below : List Frame} {meth : Method} {c : Code} {H : Heap} {locs : List Loc} {cells slots : Nat} {Q : State → Prop} {m d pc : Nat} {ls : Array Slot} {M M1 : am_M} {L L1 : am_L} {S S1 : List Value}
/-- the goal behind an instruction -/
def sm_nx (G : sm_G) (p : Program) (l : Launch) (e : Env) (R : Room) (s : State) (mI : MethodId) (args : Array Value) (below : List Frame) (meth : Method) (c : Code) (cells slots : Nat) (Q : State → Prop) (m pc : Nat) (M M1 : am_M) (L1 : am_L) (S1 : List Value) : Prop := ∀ (H1 : Heap) (locs1 : List Loc) (ls1 : Array Slot), sm_rl G M1 s H1 locs1 → sm_L G L1 ls1 (am_mx m) → W p l e R s mI args below meth c H1 locs1 (cells + (M1.1.length - M.1.length)) (slots + (am_sz M1 - am_sz M)) Q (F0 mI pc ls1 (S1.map (sm_v G)))
theorem sm_nx.same (h : sm_nx G p l e R s mI args below meth c cells slots Q m pc M M L1 S1) (hr : sm_rl G M s H locs) (hl : sm_L G L1 ls (am_mx m)) : W p l e R s mI args below meth c H locs cells slots Q (F0 mI pc ls (S1.map (sm_v G))) := by
  have := h H locs ls hr hl
  rw [Nat.sub_self, Nat.sub_self] at this
  exact this
/-- a value off the locals -/
theorem sm_ld {t x : Nat} (hP : sm_P G) (hl : sm_L G L ls (am_mx m)) (hq : am_ld t x M L S = some (true, M1, L1, S1)) : M1 = M ∧ L1 = L ∧ ∃ v, S1 = v :: S ∧ am_isT t v = true ∧ ls[x]? = some (.val (sm_v G v)) := by
  unfold am_ld at hq
  split at hq
  · rename_i v hv
    cases ht : am_isT t v with
    | false => rw [ht] at hq; cases hq
    | true =>
      rw [ht] at hq
      cases hq
      refine ⟨rfl, rfl, v, rfl, ht, hl.at hv ?_⟩
      unfold am_isV
      cases v <;> first | rfl | (cases ht; done)
  · cases hq
theorem sm_isI {v : Value} (h : am_isT 0 v = true) : ∃ x, v = .int x := by
  cases v <;> first | exact ⟨_, rfl⟩ | (cases h; done)
theorem sm_isl {v : Value} (h : am_isT 2 v = true) : ∃ x, v = .long x := by
  cases v <;> first | exact ⟨_, rfl⟩ | (cases h; done)
theorem sm_isr {v : Value} (hP : sm_P G) (h : am_isT 1 v = true) : sm_v G v = .null ∨ ∃ x, sm_v G v = .ref x := by
  cases v with
  | null => exact Or.inl rfl
  | ref k =>
    show (if k = 4 then sm_f G else Value.ref (sm_a G k)) = .null ∨ _
    by_cases hk : k = 4
    · rcases hP.2.1 with h | ⟨t, h⟩
      · exact Or.inl (by rw [if_pos hk, h])
      · exact Or.inr ⟨t, by show (if k = 4 then sm_f G else Value.ref (sm_a G k)) = _; rw [if_pos hk, h]⟩
    · exact Or.inr ⟨sm_a G k, by show (if k = 4 then sm_f G else Value.ref (sm_a G k)) = _; rw [if_neg hk]⟩
  | _ => cases h
theorem sm_vr {k : Nat} (h : ¬ k = 4) : sm_v G (.ref k) = .ref (sm_a G k) := if_neg h
theorem sm_c1 {v : Value} (hP : sm_P G) (h : am_c1 v = true) : (sm_v G v).category = 1 := by
  rw [sm_cat G hP]
  cases v <;> first | rfl | (cases h; done)
end SM2
end
section
/-! THE SIMULATION, 3: arithmetic, constants, locals, the stack -/
section SM3
variable {G : sm_G} {p : Program} {l : Launch} {e : Env} {R : Room} {s : State} {mI : MethodId} {args : Array Value} {below : List Frame} {meth : Method} {c : Code} {H : Heap} {locs : List Loc} {cells slots : Nat} {Q : State → Prop} {m d pc : Nat} {ls : Array Slot} {M M1 : am_M} {L L1 : am_L} {S S1 : List Value}
theorem sm_iadd (X : sm_cx G p R s mI args meth c m d) (hr : sm_rl G M s H locs) (hl : sm_L G L ls (am_mx m)) (hdg : decode (am_cd m) pc = .ok (.iadd, 1)) (hq : am_b2 (fun a b => a + b) M L S = some (true, M1, L1, S1)) (k : sm_nx G p l e R s mI args below meth c cells slots Q m (pc + 1) M M1 L1 S1) : W p l e R s mI args below meth c H locs cells slots Q (F0 mI pc ls (S.map (sm_v G))) := by
  unfold am_b2 at hq
  split at hq
  · cases hq
    exact lv_iadd X.1 X.2.1 hdg (k.same hr hl)
  · cases hq
theorem sm_isub (X : sm_cx G p R s mI args meth c m d) (hr : sm_rl G M s H locs) (hl : sm_L G L ls (am_mx m)) (hdg : decode (am_cd m) pc = .ok (.isub, 1)) (hq : am_b2 (fun a b => a - b) M L S = some (true, M1, L1, S1)) (k : sm_nx G p l e R s mI args below meth c cells slots Q m (pc + 1) M M1 L1 S1) : W p l e R s mI args below meth c H locs cells slots Q (F0 mI pc ls (S.map (sm_v G))) := by
  unfold am_b2 at hq
  split at hq
  · cases hq
    exact lv_isub X.1 X.2.1 hdg (k.same hr hl)
  · cases hq
theorem sm_imul (X : sm_cx G p R s mI args meth c m d) (hr : sm_rl G M s H locs) (hl : sm_L G L ls (am_mx m)) (hdg : decode (am_cd m) pc = .ok (.imul, 1)) (hq : am_b2 (fun a b => a * b) M L S = some (true, M1, L1, S1)) (k : sm_nx G p l e R s mI args below meth c cells slots Q m (pc + 1) M M1 L1 S1) : W p l e R s mI args below meth c H locs cells slots Q (F0 mI pc ls (S.map (sm_v G))) := by
  unfold am_b2 at hq
  split at hq
  · cases hq
    exact lv_imul X.1 X.2.1 hdg (k.same hr hl)
  · cases hq
theorem sm_iand (X : sm_cx G p R s mI args meth c m d) (hr : sm_rl G M s H locs) (hl : sm_L G L ls (am_mx m)) (hdg : decode (am_cd m) pc = .ok (.iand, 1)) (hq : am_b2 (fun a b => a &&& b) M L S = some (true, M1, L1, S1)) (k : sm_nx G p l e R s mI args below meth c cells slots Q m (pc + 1) M M1 L1 S1) : W p l e R s mI args below meth c H locs cells slots Q (F0 mI pc ls (S.map (sm_v G))) := by
  unfold am_b2 at hq
  split at hq
  · cases hq
    exact lv_iand X.1 X.2.1 hdg (k.same hr hl)
  · cases hq
theorem sm_ior (X : sm_cx G p R s mI args meth c m d) (hr : sm_rl G M s H locs) (hl : sm_L G L ls (am_mx m)) (hdg : decode (am_cd m) pc = .ok (.ior, 1)) (hq : am_b2 (fun a b => a ||| b) M L S = some (true, M1, L1, S1)) (k : sm_nx G p l e R s mI args below meth c cells slots Q m (pc + 1) M M1 L1 S1) : W p l e R s mI args below meth c H locs cells slots Q (F0 mI pc ls (S.map (sm_v G))) := by
  unfold am_b2 at hq
  split at hq
  · cases hq
    exact lv_ior X.1 X.2.1 hdg (k.same hr hl)
  · cases hq
theorem sm_ishl (X : sm_cx G p R s mI args meth c m d) (hr : sm_rl G M s H locs) (hl : sm_L G L ls (am_mx m)) (hdg : decode (am_cd m) pc = .ok (.ishl, 1)) (hq : am_b2 (fun a b => a <<< (b &&& 31)) M L S = some (true, M1, L1, S1)) (k : sm_nx G p l e R s mI args below meth c cells slots Q m (pc + 1) M M1 L1 S1) : W p l e R s mI args below meth c H locs cells slots Q (F0 mI pc ls (S.map (sm_v G))) := by
  unfold am_b2 at hq
  split at hq
  · cases hq
    exact lv_ishl X.1 X.2.1 hdg (k.same hr hl)
  · cases hq
theorem sm_ishr (X : sm_cx G p R s mI args meth c m d) (hr : sm_rl G M s H locs) (hl : sm_L G L ls (am_mx m)) (hdg : decode (am_cd m) pc = .ok (.ishr, 1)) (hq : am_b2 (fun a b => a >>> (b &&& 31)) M L S = some (true, M1, L1, S1)) (k : sm_nx G p l e R s mI args below meth c cells slots Q m (pc + 1) M M1 L1 S1) : W p l e R s mI args below meth c H locs cells slots Q (F0 mI pc ls (S.map (sm_v G))) := by
  unfold am_b2 at hq
  split at hq
  · cases hq
    exact lv_ishr X.1 X.2.1 hdg (k.same hr hl)
  · cases hq
theorem sm_iushr (X : sm_cx G p R s mI args meth c m d) (hr : sm_rl G M s H locs) (hl : sm_L G L ls (am_mx m)) (hdg : decode (am_cd m) pc = .ok (.iushr, 1)) (hq : am_b2 (fun a b => (a.toUInt32 >>> (b.toUInt32 &&& Int32.toUInt32 31)).toInt32) M L S = some (true, M1, L1, S1)) (k : sm_nx G p l e R s mI args below meth c cells slots Q m (pc + 1) M M1 L1 S1) : W p l e R s mI args below meth c H locs cells slots Q (F0 mI pc ls (S.map (sm_v G))) := by
  unfold am_b2 at hq
  split at hq
  · cases hq
    exact lv_iushr X.1 X.2.1 hdg rfl (k.same hr hl)
  · cases hq
theorem sm_ladd (X : sm_cx G p R s mI args meth c m d) (hr : sm_rl G M s H locs) (hl : sm_L G L ls (am_mx m)) (hdg : decode (am_cd m) pc = .ok (.ladd, 1)) (hq : am_l2 (fun a b => a + b) M L S = some (true, M1, L1, S1)) (k : sm_nx G p l e R s mI args below meth c cells slots Q m (pc + 1) M M1 L1 S1) : W p l e R s mI args below meth c H locs cells slots Q (F0 mI pc ls (S.map (sm_v G))) := by
  unfold am_l2 at hq
  split at hq
  · cases hq
    exact lv_ladd X.1 X.2.1 hdg (k.same hr hl)
  · cases hq
theorem sm_lsub (X : sm_cx G p R s mI args meth c m d) (hr : sm_rl G M s H locs) (hl : sm_L G L ls (am_mx m)) (hdg : decode (am_cd m) pc = .ok (.lsub, 1)) (hq : am_l2 (fun a b => a - b) M L S = some (true, M1, L1, S1)) (k : sm_nx G p l e R s mI args below meth c cells slots Q m (pc + 1) M M1 L1 S1) : W p l e R s mI args below meth c H locs cells slots Q (F0 mI pc ls (S.map (sm_v G))) := by
  unfold am_l2 at hq
  split at hq
  · cases hq
    exact lv_lsub X.1 X.2.1 hdg (k.same hr hl)
  · cases hq
theorem sm_lmul (X : sm_cx G p R s mI args meth c m d) (hr : sm_rl G M s H locs) (hl : sm_L G L ls (am_mx m)) (hdg : decode (am_cd m) pc = .ok (.lmul, 1)) (hq : am_l2 (fun a b => a * b) M L S = some (true, M1, L1, S1)) (k : sm_nx G p l e R s mI args below meth c cells slots Q m (pc + 1) M M1 L1 S1) : W p l e R s mI args below meth c H locs cells slots Q (F0 mI pc ls (S.map (sm_v G))) := by
  unfold am_l2 at hq
  split at hq
  · cases hq
    exact lv_lmul X.1 X.2.1 hdg (k.same hr hl)
  · cases hq
theorem sm_idiv (X : sm_cx G p R s mI args meth c m d) (hr : sm_rl G M s H locs) (hl : sm_L G L ls (am_mx m)) (hdg : decode (am_cd m) pc = .ok (.idiv, 1)) (hq : am_d2 (fun a b => a / b) M L S = some (true, M1, L1, S1)) (k : sm_nx G p l e R s mI args below meth c cells slots Q m (pc + 1) M M1 L1 S1) : W p l e R s mI args below meth c H locs cells slots Q (F0 mI pc ls (S.map (sm_v G))) := by
  unfold am_d2 at hq
  split at hq
  · rename_i y x r
    have h0 : am_nz y = true := (Prod.mk.inj (Option.some.inj hq)).1
    have h1 := (Prod.mk.inj (Option.some.inj hq)).2
    cases h1
    exact lv_idiv X.1 X.2.1 hdg (of_decide_eq_true h0) (k.same hr hl)
  · cases hq
theorem sm_irem (X : sm_cx G p R s mI args meth c m d) (hr : sm_rl G M s H locs) (hl : sm_L G L ls (am_mx m)) (hdg : decode (am_cd m) pc = .ok (.irem, 1)) (hq : am_d2 (fun a b => a - a / b * b) M L S = some (true, M1, L1, S1)) (k : sm_nx G p l e R s mI args below meth c cells slots Q m (pc + 1) M M1 L1 S1) : W p l e R s mI args below meth c H locs cells slots Q (F0 mI pc ls (S.map (sm_v G))) := by
  unfold am_d2 at hq
  split at hq
  · rename_i y x r
    have h0 : am_nz y = true := (Prod.mk.inj (Option.some.inj hq)).1
    have h1 := (Prod.mk.inj (Option.some.inj hq)).2
    cases h1
    exact lv_irem X.1 X.2.1 hdg (of_decide_eq_true h0) (k.same hr hl)
  · cases hq
theorem sm_ldiv (X : sm_cx G p R s mI args meth c m d) (hr : sm_rl G M s H locs) (hl : sm_L G L ls (am_mx m)) (hdg : decode (am_cd m) pc = .ok (.ldiv, 1)) (hq : am_e2 (fun a b => a / b) M L S = some (true, M1, L1, S1)) (k : sm_nx G p l e R s mI args below meth c cells slots Q m (pc + 1) M M1 L1 S1) : W p l e R s mI args below meth c H locs cells slots Q (F0 mI pc ls (S.map (sm_v G))) := by
  unfold am_e2 at hq
  split at hq
  · rename_i y x r
    have h0 : am_nzl y = true := (Prod.mk.inj (Option.some.inj hq)).1
    have h1 := (Prod.mk.inj (Option.some.inj hq)).2
    cases h1
    exact lv_ldiv X.1 X.2.1 hdg (of_decide_eq_true h0) (k.same hr hl)
  · cases hq
theorem sm_lrem (X : sm_cx G p R s mI args meth c m d) (hr : sm_rl G M s H locs) (hl : sm_L G L ls (am_mx m)) (hdg : decode (am_cd m) pc = .ok (.lrem, 1)) (hq : am_e2 (fun a b => a - a / b * b) M L S = some (true, M1, L1, S1)) (k : sm_nx G p l e R s mI args below meth c cells slots Q m (pc + 1) M M1 L1 S1) : W p l e R s mI args below meth c H locs cells slots Q (F0 mI pc ls (S.map (sm_v G))) := by
  unfold am_e2 at hq
  split at hq
  · rename_i y x r
    have h0 : am_nzl y = true := (Prod.mk.inj (Option.some.inj hq)).1
    have h1 := (Prod.mk.inj (Option.some.inj hq)).2
    cases h1
    exact lv_lrem X.1 X.2.1 hdg (of_decide_eq_true h0) (k.same hr hl)
  · cases hq
theorem sm_ineg (X : sm_cx G p R s mI args meth c m d) (hr : sm_rl G M s H locs) (hl : sm_L G L ls (am_mx m)) (hdg : decode (am_cd m) pc = .ok (.ineg, 1)) (hq : am_b1 (fun a => -a) M L S = some (true, M1, L1, S1)) (k : sm_nx G p l e R s mI args below meth c cells slots Q m (pc + 1) M M1 L1 S1) : W p l e R s mI args below meth c H locs cells slots Q (F0 mI pc ls (S.map (sm_v G))) := by
  unfold am_b1 at hq
  split at hq
  · cases hq
    exact lv_ineg X.1 X.2.1 hdg (k.same hr hl)
  · cases hq
theorem sm_i2b (X : sm_cx G p R s mI args meth c m d) (hr : sm_rl G M s H locs) (hl : sm_L G L ls (am_mx m)) (hdg : decode (am_cd m) pc = .ok (.i2b, 1)) (hq : am_b1 (fun a => a.toInt8.toInt32) M L S = some (true, M1, L1, S1)) (k : sm_nx G p l e R s mI args below meth c cells slots Q m (pc + 1) M M1 L1 S1) : W p l e R s mI args below meth c H locs cells slots Q (F0 mI pc ls (S.map (sm_v G))) := by
  unfold am_b1 at hq
  split at hq
  · cases hq
    exact lv_i2b X.1 X.2.1 hdg rfl (k.same hr hl)
  · cases hq
theorem sm_i2s (X : sm_cx G p R s mI args meth c m d) (hr : sm_rl G M s H locs) (hl : sm_L G L ls (am_mx m)) (hdg : decode (am_cd m) pc = .ok (.i2s, 1)) (hq : am_b1 (fun a => a.toInt16.toInt32) M L S = some (true, M1, L1, S1)) (k : sm_nx G p l e R s mI args below meth c cells slots Q m (pc + 1) M M1 L1 S1) : W p l e R s mI args below meth c H locs cells slots Q (F0 mI pc ls (S.map (sm_v G))) := by
  unfold am_b1 at hq
  split at hq
  · cases hq
    exact lv_i2s X.1 X.2.1 hdg rfl (k.same hr hl)
  · cases hq
theorem sm_i2c (X : sm_cx G p R s mI args meth c m d) (hr : sm_rl G M s H locs) (hl : sm_L G L ls (am_mx m)) (hdg : decode (am_cd m) pc = .ok (.i2c, 1)) (hq : am_b1 (fun a => (a.toUInt32 % 65536).toInt32) M L S = some (true, M1, L1, S1)) (k : sm_nx G p l e R s mI args below meth c cells slots Q m (pc + 1) M M1 L1 S1) : W p l e R s mI args below meth c H locs cells slots Q (F0 mI pc ls (S.map (sm_v G))) := by
  unfold am_b1 at hq
  split at hq
  · cases hq
    exact lv_i2c X.1 X.2.1 hdg rfl (k.same hr hl)
  · cases hq
theorem sm_lcmp (X : sm_cx G p R s mI args meth c m d) (hr : sm_rl G M s H locs) (hl : sm_L G L ls (am_mx m)) (hdg : decode (am_cd m) pc = .ok (.lcmp, 1)) (hq : am_cmp  M L S = some (true, M1, L1, S1)) (k : sm_nx G p l e R s mI args below meth c cells slots Q m (pc + 1) M M1 L1 S1) : W p l e R s mI args below meth c H locs cells slots Q (F0 mI pc ls (S.map (sm_v G))) := by
  unfold am_cmp at hq
  split at hq
  · cases hq
    exact W.lcmp X.1 X.2.1 hdg (k.same hr hl)
  · cases hq
theorem sm_i2l (X : sm_cx G p R s mI args meth c m d) (hr : sm_rl G M s H locs) (hl : sm_L G L ls (am_mx m)) (hdg : decode (am_cd m) pc = .ok (.i2l, 1)) (hq : am_i2l  M L S = some (true, M1, L1, S1)) (k : sm_nx G p l e R s mI args below meth c cells slots Q m (pc + 1) M M1 L1 S1) : W p l e R s mI args below meth c H locs cells slots Q (F0 mI pc ls (S.map (sm_v G))) := by
  unfold am_i2l at hq
  split at hq
  · cases hq
    exact lv_i2l X.1 X.2.1 hdg rfl (k.same hr hl)
  · cases hq
theorem sm_l2i (X : sm_cx G p R s mI args meth c m d) (hr : sm_rl G M s H locs) (hl : sm_L G L ls (am_mx m)) (hdg : decode (am_cd m) pc = .ok (.l2i, 1)) (hq : am_l2i  M L S = some (true, M1, L1, S1)) (k : sm_nx G p l e R s mI args below meth c cells slots Q m (pc + 1) M M1 L1 S1) : W p l e R s mI args below meth c H locs cells slots Q (F0 mI pc ls (S.map (sm_v G))) := by
  unfold am_l2i at hq
  split at hq
  · cases hq
    exact lv_l2i X.1 X.2.1 hdg rfl (k.same hr hl)
  · cases hq
theorem sm_dup (X : sm_cx G p R s mI args meth c m d) (hr : sm_rl G M s H locs) (hl : sm_L G L ls (am_mx m)) (hdg : decode (am_cd m) pc = .ok (.dup, 1)) (hq : am_dup M L S = some (true, M1, L1, S1)) (k : sm_nx G p l e R s mI args below meth c cells slots Q m (pc + 1) M M1 L1 S1) : W p l e R s mI args below meth c H locs cells slots Q (F0 mI pc ls (S.map (sm_v G))) := by
  unfold am_dup at hq
  split at hq
  · rename_i v r
    cases hc : am_c1 v with
    | false => rw [hc] at hq; cases hq
    | true =>
      rw [hc] at hq
      cases hq
      exact lv_dup X.1 X.2.1 hdg (sm_c1 X.2.2.2.2.2.2.2.2.2 hc) (k.same hr hl)
  · cases hq
theorem sm_pop (X : sm_cx G p R s mI args meth c m d) (hr : sm_rl G M s H locs) (hl : sm_L G L ls (am_mx m)) (hdg : decode (am_cd m) pc = .ok (.pop, 1)) (hq : am_pop1 M L S = some (true, M1, L1, S1)) (k : sm_nx G p l e R s mI args below meth c cells slots Q m (pc + 1) M M1 L1 S1) : W p l e R s mI args below meth c H locs cells slots Q (F0 mI pc ls (S.map (sm_v G))) := by
  unfold am_pop1 at hq
  split at hq
  · rename_i v r
    cases hc : am_c1 v with
    | false => rw [hc] at hq; cases hq
    | true =>
      rw [hc] at hq
      cases hq
      exact lv_pop X.1 X.2.1 hdg (sm_c1 X.2.2.2.2.2.2.2.2.2 hc) (k.same hr hl)
  · cases hq
theorem sm_dup2 (X : sm_cx G p R s mI args meth c m d) (hr : sm_rl G M s H locs) (hl : sm_L G L ls (am_mx m)) (hdg : decode (am_cd m) pc = .ok (.dup2, 1)) (hq : am_dp2 M L S = some (true, M1, L1, S1)) (k : sm_nx G p l e R s mI args below meth c cells slots Q m (pc + 1) M M1 L1 S1) : W p l e R s mI args below meth c H locs cells slots Q (F0 mI pc ls (S.map (sm_v G))) := by
  unfold am_dp2 at hq
  split at hq
  · rename_i v u r
    cases hc : (am_c1 v && am_c1 u) with
    | false => rw [hc] at hq; cases hq
    | true =>
      rw [hc] at hq
      cases hq
      rw [Bool.and_eq_true] at hc
      exact lv_dup2_11 X.1 X.2.1 hdg (sm_c1 X.2.2.2.2.2.2.2.2.2 hc.1) (sm_c1 X.2.2.2.2.2.2.2.2.2 hc.2) (k.same hr hl)
  · cases hq
theorem sm_iconst {n : Int} {v : Int32} (X : sm_cx G p R s mI args meth c m d) (hr : sm_rl G M s H locs) (hl : sm_L G L ls (am_mx m)) (hdg : decode (am_cd m) pc = .ok (.iconst n, 1)) (hv : Int32.ofInt n = v) (hq : am_psh (.int v) M L S = some (true, M1, L1, S1)) (k : sm_nx G p l e R s mI args below meth c cells slots Q m (pc + 1) M M1 L1 S1) : W p l e R s mI args below meth c H locs cells slots Q (F0 mI pc ls (S.map (sm_v G))) := by
  cases hq
  exact lv_iconst X.1 X.2.1 hdg hv (k.same hr hl)
theorem sm_bipush {n : Int} {v : Int32} (X : sm_cx G p R s mI args meth c m d) (hr : sm_rl G M s H locs) (hl : sm_L G L ls (am_mx m)) (hdg : decode (am_cd m) pc = .ok (.bipush n, 2)) (hv : (Int8.ofInt n).toInt32 = v) (hq : am_psh (.int v) M L S = some (true, M1, L1, S1)) (k : sm_nx G p l e R s mI args below meth c cells slots Q m (pc + 2) M M1 L1 S1) : W p l e R s mI args below meth c H locs cells slots Q (F0 mI pc ls (S.map (sm_v G))) := by
  cases hq
  exact lv_bipush X.1 X.2.1 hdg hv (k.same hr hl)
theorem sm_sipush {n : Int} {v : Int32} (X : sm_cx G p R s mI args meth c m d) (hr : sm_rl G M s H locs) (hl : sm_L G L ls (am_mx m)) (hdg : decode (am_cd m) pc = .ok (.sipush n, 3)) (hv : (Int16.ofInt n).toInt32 = v) (hq : am_psh (.int v) M L S = some (true, M1, L1, S1)) (k : sm_nx G p l e R s mI args below meth c cells slots Q m (pc + 3) M M1 L1 S1) : W p l e R s mI args below meth c H locs cells slots Q (F0 mI pc ls (S.map (sm_v G))) := by
  cases hq
  exact lv_sipush X.1 X.2.1 hdg hv (k.same hr hl)
theorem sm_lconst {n : Fin 2} {v : Int64} (X : sm_cx G p R s mI args meth c m d) (hr : sm_rl G M s H locs) (hl : sm_L G L ls (am_mx m)) (hdg : decode (am_cd m) pc = .ok (.lconst n, 1)) (hv : Int64.ofNat n.val = v) (hq : am_psh (.long v) M L S = some (true, M1, L1, S1)) (k : sm_nx G p l e R s mI args below meth c cells slots Q m (pc + 1) M M1 L1 S1) : W p l e R s mI args below meth c H locs cells slots Q (F0 mI pc ls (S.map (sm_v G))) := by
  cases hq
  exact lv_lconst X.1 X.2.1 hdg hv (k.same hr hl)
theorem sm_ldc {n : Nat} {v : Int32} (X : sm_cx G p R s mI args meth c m d) (hr : sm_rl G M s H locs) (hl : sm_L G L ls (am_mx m)) (hdg : decode (am_cd m) pc = .ok (.ldc n, 2)) (hv : Cond.constant (am_nm m).cls n v ∈ am_W) (hq : am_psh (.int v) M L S = some (true, M1, L1, S1)) (k : sm_nx G p l e R s mI args below meth c cells slots Q m (pc + 2) M M1 L1 S1) : W p l e R s mI args below meth c H locs cells slots Q (F0 mI pc ls (S.map (sm_v G))) := by
  cases hq
  exact lv_ldc X.1 X.2.1 X.2.2.2.1 (X.2.2.2.2.1 _ hv) hdg (k.same hr hl)
theorem sm_ldcw {n : Nat} {v : Int32} (X : sm_cx G p R s mI args meth c m d) (hr : sm_rl G M s H locs) (hl : sm_L G L ls (am_mx m)) (hdg : decode (am_cd m) pc = .ok (.ldc_w n, 3)) (hv : Cond.constant (am_nm m).cls n v ∈ am_W) (hq : am_psh (.int v) M L S = some (true, M1, L1, S1)) (k : sm_nx G p l e R s mI args below meth c cells slots Q m (pc + 3) M M1 L1 S1) : W p l e R s mI args below meth c H locs cells slots Q (F0 mI pc ls (S.map (sm_v G))) := by
  cases hq
  exact lv_ldcw X.1 X.2.1 X.2.2.2.1 (X.2.2.2.2.1 _ hv) hdg (k.same hr hl)
theorem sm_ldc2 {n : Nat} {v : Int64} (X : sm_cx G p R s mI args meth c m d) (hr : sm_rl G M s H locs) (hl : sm_L G L ls (am_mx m)) (hdg : decode (am_cd m) pc = .ok (.ldc2_w n, 3)) (hv : Cond.constantLong (am_nm m).cls n v ∈ am_W) (hq : am_psh (.long v) M L S = some (true, M1, L1, S1)) (k : sm_nx G p l e R s mI args below meth c cells slots Q m (pc + 3) M M1 L1 S1) : W p l e R s mI args below meth c H locs cells slots Q (F0 mI pc ls (S.map (sm_v G))) := by
  cases hq
  exact lv_ldc2 X.1 X.2.1 X.2.2.2.1 (X.2.2.2.2.1 _ hv) hdg (k.same hr hl)
theorem sm_ldcS (X : sm_cx G p R s mI args meth c m d) (hr : sm_rl G M s H locs) (hl : sm_L G L ls (am_mx m)) (hm : (am_nm m).cls = "EvenlyPoured$Tape") (hdg : decode (am_cd m) pc = .ok (.ldc 52, 2)) (hq : am_psh (.ref 2) M L S = some (true, M1, L1, S1)) (k : sm_nx G p l e R s mI args below meth c cells slots Q m (pc + 2) M M1 L1 S1) : W p l e R s mI args below meth c H locs cells slots Q (F0 mI pc ls (S.map (sm_v G))) := by
  cases hq
  exact va_ldcS X.1 X.2.1 (own := "EvenlyPoured$Tape") (by rw [← hm]; exact X.2.2.2.1) X.2.2.2.2.2.1.2.2.2.1 hdg (k.same hr hl)
theorem sm_null (X : sm_cx G p R s mI args meth c m d) (hr : sm_rl G M s H locs) (hl : sm_L G L ls (am_mx m)) (hdg : decode (am_cd m) pc = .ok (.aconst_null, 1)) (hq : am_psh .null M L S = some (true, M1, L1, S1)) (k : sm_nx G p l e R s mI args below meth c cells slots Q m (pc + 1) M M1 L1 S1) : W p l e R s mI args below meth c H locs cells slots Q (F0 mI pc ls (S.map (sm_v G))) := by
  cases hq
  exact lv_null X.1 X.2.1 hdg (k.same hr hl)
theorem sm_iload {x : Nat} (X : sm_cx G p R s mI args meth c m d) (hr : sm_rl G M s H locs) (hl : sm_L G L ls (am_mx m)) (hdg : decode (am_cd m) pc = .ok (.iload x, 2)) (hq : am_ld 0 x M L S = some (true, M1, L1, S1)) (k : sm_nx G p l e R s mI args below meth c cells slots Q m (pc + 2) M M1 L1 S1) : W p l e R s mI args below meth c H locs cells slots Q (F0 mI pc ls (S.map (sm_v G))) := by
  obtain ⟨rfl, rfl, v, rfl, ht, hv⟩ := sm_ld X.2.2.2.2.2.2.2.2.2 hl hq
  obtain ⟨y, rfl⟩ := sm_isI ht
  exact lv_iload X.1 X.2.1 hdg hv (k.same hr hl)
theorem sm_iload_n {x : Nat} {n : Fin 4} (X : sm_cx G p R s mI args meth c m d) (hr : sm_rl G M s H locs) (hl : sm_L G L ls (am_mx m)) (hdg : decode (am_cd m) pc = .ok (.iload_n n, 1)) (hn : n.val = x) (hq : am_ld 0 x M L S = some (true, M1, L1, S1)) (k : sm_nx G p l e R s mI args below meth c cells slots Q m (pc + 1) M M1 L1 S1) : W p l e R s mI args below meth c H locs cells slots Q (F0 mI pc ls (S.map (sm_v G))) := by
  obtain ⟨rfl, rfl, v, rfl, ht, hv⟩ := sm_ld X.2.2.2.2.2.2.2.2.2 hl hq
  obtain ⟨y, rfl⟩ := sm_isI ht
  exact lv_iload_n X.1 X.2.1 hdg hn hv (k.same hr hl)
theorem sm_lload {x : Nat} (X : sm_cx G p R s mI args meth c m d) (hr : sm_rl G M s H locs) (hl : sm_L G L ls (am_mx m)) (hdg : decode (am_cd m) pc = .ok (.lload x, 2)) (hq : am_ld 2 x M L S = some (true, M1, L1, S1)) (k : sm_nx G p l e R s mI args below meth c cells slots Q m (pc + 2) M M1 L1 S1) : W p l e R s mI args below meth c H locs cells slots Q (F0 mI pc ls (S.map (sm_v G))) := by
  obtain ⟨rfl, rfl, v, rfl, ht, hv⟩ := sm_ld X.2.2.2.2.2.2.2.2.2 hl hq
  obtain ⟨y, rfl⟩ := sm_isl ht
  exact lv_lload X.1 X.2.1 hdg hv (k.same hr hl)
theorem sm_lload_n {x : Nat} {n : Fin 4} (X : sm_cx G p R s mI args meth c m d) (hr : sm_rl G M s H locs) (hl : sm_L G L ls (am_mx m)) (hdg : decode (am_cd m) pc = .ok (.lload_n n, 1)) (hn : n.val = x) (hq : am_ld 2 x M L S = some (true, M1, L1, S1)) (k : sm_nx G p l e R s mI args below meth c cells slots Q m (pc + 1) M M1 L1 S1) : W p l e R s mI args below meth c H locs cells slots Q (F0 mI pc ls (S.map (sm_v G))) := by
  obtain ⟨rfl, rfl, v, rfl, ht, hv⟩ := sm_ld X.2.2.2.2.2.2.2.2.2 hl hq
  obtain ⟨y, rfl⟩ := sm_isl ht
  exact lv_lload_n X.1 X.2.1 hdg hn hv (k.same hr hl)
theorem sm_aload {x : Nat} (X : sm_cx G p R s mI args meth c m d) (hr : sm_rl G M s H locs) (hl : sm_L G L ls (am_mx m)) (hdg : decode (am_cd m) pc = .ok (.aload x, 2)) (hq : am_ld 1 x M L S = some (true, M1, L1, S1)) (k : sm_nx G p l e R s mI args below meth c cells slots Q m (pc + 2) M M1 L1 S1) : W p l e R s mI args below meth c H locs cells slots Q (F0 mI pc ls (S.map (sm_v G))) := by
  obtain ⟨rfl, rfl, v, rfl, ht, hv⟩ := sm_ld X.2.2.2.2.2.2.2.2.2 hl hq
  have kk := k.same hr hl
  rw [List.map_cons] at kk
  rcases sm_isr X.2.2.2.2.2.2.2.2.2 ht with h | ⟨a, h⟩
  · rw [h] at hv kk
    exact lv_aloadN X.1 X.2.1 hdg hv kk
  · rw [h] at hv kk
    exact lv_aload X.1 X.2.1 hdg hv kk
theorem sm_aload_n {x : Nat} {n : Fin 4} (X : sm_cx G p R s mI args meth c m d) (hr : sm_rl G M s H locs) (hl : sm_L G L ls (am_mx m)) (hdg : decode (am_cd m) pc = .ok (.aload_n n, 1)) (hn : n.val = x) (hq : am_ld 1 x M L S = some (true, M1, L1, S1)) (k : sm_nx G p l e R s mI args below meth c cells slots Q m (pc + 1) M M1 L1 S1) : W p l e R s mI args below meth c H locs cells slots Q (F0 mI pc ls (S.map (sm_v G))) := by
  obtain ⟨rfl, rfl, v, rfl, ht, hv⟩ := sm_ld X.2.2.2.2.2.2.2.2.2 hl hq
  have kk := k.same hr hl
  rw [List.map_cons] at kk
  rcases sm_isr X.2.2.2.2.2.2.2.2.2 ht with h | ⟨a, h⟩
  · rw [h] at hv kk
    exact lv_aload_nN X.1 X.2.1 hdg hn hv kk
  · rw [h] at hv kk
    exact lv_aload_n X.1 X.2.1 hdg hn hv kk
theorem sm_so {t x : Nat} (hq : am_so t x M L S = some (true, M1, L1, S1)) : M1 = M ∧ ∃ v r, S = v :: r ∧ S1 = r ∧ am_isT t v = true ∧ x < L.length ∧ L1 = am_set1 L x v := by
  unfold am_so at hq
  split at hq
  · rename_i v r
    cases hc : (am_isT t v && Nat.blt x L.length) with
    | false => rw [hc] at hq; cases hq
    | true =>
      rw [hc] at hq
      cases hq
      rw [Bool.and_eq_true] at hc
      exact ⟨rfl, v, _, rfl, rfl, hc.1, Nat.le_of_ble_eq_true hc.2, rfl⟩
  · cases hq
theorem sm_istore {x : Nat} (X : sm_cx G p R s mI args meth c m d) (hr : sm_rl G M s H locs) (hl : sm_L G L ls (am_mx m)) (hdg : decode (am_cd m) pc = .ok (.istore x, 2)) (hq : am_so 0 x M L S = some (true, M1, L1, S1)) (k : sm_nx G p l e R s mI args below meth c cells slots Q m (pc + 2) M M1 L1 S1) : W p l e R s mI args below meth c H locs cells slots Q (F0 mI pc ls (S.map (sm_v G))) := by
  obtain ⟨rfl, v, r, rfl, rfl, ht, hx, rfl⟩ := sm_so hq
  obtain ⟨y, rfl⟩ := sm_isI ht
  exact lv_istore X.1 X.2.1 hdg hl.2 (by rw [← hl.1]; exact hx) rfl (fun ls1 h1 => k.same hr (sm_L.set1 X.2.2.2.2.2.2.2.2.2 hl.1 (by rw [← hl.1]; exact hx) rfl h1))
theorem sm_istore_n {x : Nat} {n : Fin 4} (X : sm_cx G p R s mI args meth c m d) (hr : sm_rl G M s H locs) (hl : sm_L G L ls (am_mx m)) (hdg : decode (am_cd m) pc = .ok (.istore_n n, 1)) (hn : n.val = x) (hq : am_so 0 x M L S = some (true, M1, L1, S1)) (k : sm_nx G p l e R s mI args below meth c cells slots Q m (pc + 1) M M1 L1 S1) : W p l e R s mI args below meth c H locs cells slots Q (F0 mI pc ls (S.map (sm_v G))) := by
  obtain ⟨rfl, v, r, rfl, rfl, ht, hx, rfl⟩ := sm_so hq
  obtain ⟨y, rfl⟩ := sm_isI ht
  exact lv_istore_n X.1 X.2.1 hdg hn hl.2 (by rw [← hl.1]; exact hx) rfl (fun ls1 h1 => k.same hr (sm_L.set1 X.2.2.2.2.2.2.2.2.2 hl.1 (by rw [← hl.1]; exact hx) rfl h1))
theorem sm_astore {x : Nat} (X : sm_cx G p R s mI args meth c m d) (hr : sm_rl G M s H locs) (hl : sm_L G L ls (am_mx m)) (hdg : decode (am_cd m) pc = .ok (.astore x, 2)) (hq : am_so 1 x M L S = some (true, M1, L1, S1)) (k : sm_nx G p l e R s mI args below meth c cells slots Q m (pc + 2) M M1 L1 S1) : W p l e R s mI args below meth c H locs cells slots Q (F0 mI pc ls (S.map (sm_v G))) := by
  obtain ⟨rfl, v, r, rfl, rfl, ht, hx, rfl⟩ := sm_so hq
  have hs : ∀ (ls1 : Array Slot), lv_has ls1 (am_mx m) ((x, sm_v G v) :: (sm_ll G L).filter (fun q => !(q.1 == x) && !(q.1 + 1 == x && q.2.category == 2))) → W p l e R s mI args below meth c H locs cells slots Q (F0 mI (pc + 2) ls1 (S1.map (sm_v G))) := fun ls1 h1 => k.same hr (sm_L.set1 X.2.2.2.2.2.2.2.2.2 hl.1 (by rw [← hl.1]; exact hx) rfl h1)
  rw [List.map_cons]
  rcases sm_isr X.2.2.2.2.2.2.2.2.2 ht with h | ⟨a, h⟩
  · rw [h] at hs ⊢
    exact lv_astoreN X.1 X.2.1 hdg hl.2 (by rw [← hl.1]; exact hx) rfl hs
  · rw [h] at hs ⊢
    exact lv_astore X.1 X.2.1 hdg hl.2 (by rw [← hl.1]; exact hx) rfl hs
theorem sm_astore_n {x : Nat} {n : Fin 4} (X : sm_cx G p R s mI args meth c m d) (hr : sm_rl G M s H locs) (hl : sm_L G L ls (am_mx m)) (hdg : decode (am_cd m) pc = .ok (.astore_n n, 1)) (hn : n.val = x) (hq : am_so 1 x M L S = some (true, M1, L1, S1)) (k : sm_nx G p l e R s mI args below meth c cells slots Q m (pc + 1) M M1 L1 S1) : W p l e R s mI args below meth c H locs cells slots Q (F0 mI pc ls (S.map (sm_v G))) := by
  obtain ⟨rfl, v, r, rfl, rfl, ht, hx, rfl⟩ := sm_so hq
  have hs : ∀ (ls1 : Array Slot), lv_has ls1 (am_mx m) ((x, sm_v G v) :: (sm_ll G L).filter (fun q => !(q.1 == x) && !(q.1 + 1 == x && q.2.category == 2))) → W p l e R s mI args below meth c H locs cells slots Q (F0 mI (pc + 1) ls1 (S1.map (sm_v G))) := fun ls1 h1 => k.same hr (sm_L.set1 X.2.2.2.2.2.2.2.2.2 hl.1 (by rw [← hl.1]; exact hx) rfl h1)
  rw [List.map_cons]
  rcases sm_isr X.2.2.2.2.2.2.2.2.2 ht with h | ⟨a, h⟩
  · rw [h] at hs ⊢
    exact lv_astore_nN X.1 X.2.1 hdg hn hl.2 (by rw [← hl.1]; exact hx) rfl hs
  · rw [h] at hs ⊢
    exact lv_astore_n X.1 X.2.1 hdg hn hl.2 (by rw [← hl.1]; exact hx) rfl hs
theorem sm_lstore {x : Nat} (X : sm_cx G p R s mI args meth c m d) (hr : sm_rl G M s H locs) (hl : sm_L G L ls (am_mx m)) (hdg : decode (am_cd m) pc = .ok (.lstore x, 2)) (hq : am_so2 x M L S = some (true, M1, L1, S1)) (k : sm_nx G p l e R s mI args below meth c cells slots Q m (pc + 2) M M1 L1 S1) : W p l e R s mI args below meth c H locs cells slots Q (F0 mI pc ls (S.map (sm_v G))) := by
  unfold am_so2 at hq
  split at hq
  · rename_i v r
    cases hc : Nat.blt (x + 1) L.length with
    | false => rw [hc] at hq; cases hq
    | true =>
      rw [hc] at hq
      cases hq
      have hx : x + 1 < L.length := Nat.le_of_ble_eq_true hc
      exact lv_lstore X.1 X.2.1 hdg hl.2 (by rw [← hl.1]; exact hx) rfl (fun ls1 h1 => k.same hr (sm_L.set2 X.2.2.2.2.2.2.2.2.2 hl.1 (by rw [← hl.1]; exact hx) rfl h1))
  · cases hq
theorem sm_lstore_n {x : Nat} {n : Fin 4} (X : sm_cx G p R s mI args meth c m d) (hr : sm_rl G M s H locs) (hl : sm_L G L ls (am_mx m)) (hdg : decode (am_cd m) pc = .ok (.lstore_n n, 1)) (hn : n.val = x) (hq : am_so2 x M L S = some (true, M1, L1, S1)) (k : sm_nx G p l e R s mI args below meth c cells slots Q m (pc + 1) M M1 L1 S1) : W p l e R s mI args below meth c H locs cells slots Q (F0 mI pc ls (S.map (sm_v G))) := by
  unfold am_so2 at hq
  split at hq
  · rename_i v r
    cases hc : Nat.blt (x + 1) L.length with
    | false => rw [hc] at hq; cases hq
    | true =>
      rw [hc] at hq
      cases hq
      have hx : x + 1 < L.length := Nat.le_of_ble_eq_true hc
      exact lv_lstore_n X.1 X.2.1 hdg hn hl.2 (by rw [← hl.1]; exact hx) rfl (fun ls1 h1 => k.same hr (sm_L.set2 X.2.2.2.2.2.2.2.2.2 hl.1 (by rw [← hl.1]; exact hx) rfl h1))
  · cases hq
theorem sm_iinc {x : Nat} {n : Int} {z : Int32} (X : sm_cx G p R s mI args meth c m d) (hr : sm_rl G M s H locs) (hl : sm_L G L ls (am_mx m)) (hdg : decode (am_cd m) pc = .ok (.iinc x n, 3)) (hz : Int32.ofInt n = z) (hq : am_inc x z M L S = some (true, M1, L1, S1)) (k : sm_nx G p l e R s mI args below meth c cells slots Q m (pc + 3) M M1 L1 S1) : W p l e R s mI args below meth c H locs cells slots Q (F0 mI pc ls (S.map (sm_v G))) := by
  unfold am_inc at hq
  split at hq
  · rename_i v hv
    cases hq
    have hx : x < L.length := (List.getElem?_eq_some_iff.mp hv).1
    obtain ⟨j, hj⟩ := List.getElem?_of_mem (sm_ll_mem (G := G) hv rfl)
    exact lv_iinc X.1 X.2.1 hdg hl.2 hj (by rw [hz]) (by rw [← hl.1]; exact hx) rfl (fun ls1 h1 => k.same hr (sm_L.set1 X.2.2.2.2.2.2.2.2.2 hl.1 (by rw [← hl.1]; exact hx) rfl h1))
  · cases hq
end SM3
end
section
/-! THE SIMULATION, 4: fields and rows -/
theorem cl_wc0 : (List.range 11).all (fun x => match am_cl[x]? with | some q => (List.range q.2.2).all (fun k => Nat.ble (am_wc (am_ty x k)) 3) | none => false) = true := by decide +kernel
theorem cl_wc {x : Nat} {q : vw_C} (h : am_cl[x]? = some q) : ∀ k, k < q.2.2 → am_wc (am_ty x k) ≤ 3 := by
  intro k hk
  have h1 := List.all_eq_true.mp cl_wc0 x (List.mem_range.mpr (cl_lt h))
  rw [h] at h1
  exact Nat.le_of_ble_eq_true (List.all_eq_true.mp h1 k (List.mem_range.mpr hk))
section SM4
variable {G : sm_G} {p : Program} {l : Launch} {e : Env} {R : Room} {s : State} {mI : MethodId} {args : Array Value} {below : List Frame} {meth : Method} {c : Code} {H H1 : Heap} {locs : List Loc} {cells slots : Nat} {Q : State → Prop} {m d pc : Nat} {ls : Array Slot} {M M1 : am_M} {L L1 : am_L} {S S1 : List Value}
theorem sm_kd {a x : Nat} (h : am_kd M a x = true) : ∃ n, M.1[a]? = some (x, n) := by
  unfold am_kd at h
  split at h
  · rename_i q hq
    exact ⟨q.2, by rw [hq, ← Nat.eq_of_beq_eq_true h]⟩
  · cases h
theorem sm_ln {a x n : Nat} (h : M.1[a]? = some (x, n)) : am_ln M a = n := by
  unfold am_ln
  rw [h]
theorem sm_fr_get (hf : sm_fr G M) {a : Nat} (ha : a < 5) : M.1[a]? = [(20, sm_n G), (20, 6), (26, 2), (25, 59), (99, 0)][a]? := by
  rw [← hf.1, List.getElem?_take, if_pos ha]
theorem sm_ge (hf : sm_fr G M) {a x n : Nat} (h : M.1[a]? = some (x, n)) (hx : x ≠ 20 ∧ x ≠ 25 ∧ x ≠ 26 ∧ x ≠ 99) : 5 ≤ a := by
  rcases Nat.lt_or_ge a 5 with ha | ha
  · rw [sm_fr_get hf ha] at h
    rcases (show a = 0 ∨ a = 1 ∨ a = 2 ∨ a = 3 ∨ a = 4 by omega) with rfl | rfl | rfl | rfl | rfl <;> simp at h <;> omega
  · exact ha
theorem sm_ai (hP : sm_P G) {a b : Nat} (ha : 5 ≤ a) (hb : 5 ≤ b) (h : sm_a G a = sm_a G b) : a = b := by
  obtain ⟨a, rfl⟩ := Nat.exists_eq_add_of_le' ha
  obtain ⟨b, rfl⟩ := Nat.exists_eq_add_of_le' hb
  rw [hP.1, hP.1] at h
  omega
theorem sm_v5 {k : Nat} (h : 5 ≤ k) : sm_v G (.ref k) = .ref (sm_a G k) := sm_vr (by omega)
theorem sm_aA (hP : sm_P G) {a : Nat} (ha : 5 ≤ a) : sm_A G (sm_a G a) := by
  obtain ⟨a, rfl⟩ := Nat.exists_eq_add_of_le' ha
  show sm_b G ≤ sm_a G (a + 5)
  rw [hP.1]
  omega
theorem sm_rf (hf : sm_fr G M) {a k : Nat} (ha : 5 ≤ a) : sm_v G (va_rf (M.2.2.1 a k)) = va_rf ((M.2.2.1 a k).map (sm_a G)) := by
  cases h : M.2.2.1 a k with
  | none => rfl
  | some v =>
    exact sm_vr (fun e => by have := hf.2.2.2.2.2.2 a k v ha h; omega)
theorem sm_rd (hf : sm_fr G M) {a k c w : Nat} (ha : 5 ≤ a) (hw : am_wc (am_ty c k) = w) : sm_v G (am_rd w M a k) = sm_fv G M a c k := by
  unfold sm_fv
  rw [hw]
  clear hw
  match w with
  | 0 => rfl
  | 1 => exact sm_rf hf ha
  | 2 => rfl
  | w + 3 => rfl
/-- one cell is written -/
theorem sm_hp_set (hP : sm_P G) (hp : sm_hp G M H) {a : Nat} (h5 : 5 ≤ a) (hs : M1.1 = M.1) (oth : ∀ k, k ≠ a → ∀ j, M1.2.1 k j = M.2.1 k j ∧ M1.2.2.1 k j = M.2.2.1 k j ∧ M1.2.2.2 k j = M.2.2.2 k j) (hz : H1.size = H.size) (oq : ∀ q : Nat, q ≠ sm_a G a → H1[q]? = H[q]?) (hat : sm_at G M1 a H1) : sm_hp G M1 H1 := by
  refine ⟨fun k hk => ?_, by rw [hz, hs]; exact hp.2.1, by rw [hs]; exact hp.2.2⟩
  by_cases hka : k = a
  · rw [hka]; exact hat
  · have hne : sm_a G k ≠ sm_a G a := fun h => hka (sm_ai hP hk h5 h)
    have hq := oq _ hne
    intro c n hcn
    rw [hs] at hcn
    obtain ⟨h1, h2, h3, h4⟩ := hp.1 k hk c n hcn
    refine ⟨fun h => ⟨(h1 h).1, ((h1 h).2.kept hq).to (fun j _ => ?_)⟩, fun h => ?_, fun h h' => ?_, h4⟩
    · unfold sm_fv
      obtain ⟨e1, e2, e3⟩ := oth k hka j
      rw [e1, e2, e3]
    · rw [hq, h2 h]
      congr 2
      funext j
      rw [(oth k hka j).1]
    · rw [hq, h3 h h']
      congr 2
      funext j
      rw [(oth k hka j).2.1]
theorem sm_fr_set (hf : sm_fr G M) {a : Nat} (h5 : 5 ≤ a) (hs : M1.1 = M.1) (oth : ∀ k, k ≠ a → ∀ j, M1.2.1 k j = M.2.1 k j ∧ M1.2.2.1 k j = M.2.2.1 k j ∧ M1.2.2.2 k j = M.2.2.2 k j) (hF : ∀ j v, M1.2.2.1 a j = some v → 5 ≤ v) : sm_fr G M1 := by
  obtain ⟨h1, h2, h3, h4, h5', h6, h7⟩ := hf
  refine ⟨by rw [hs]; exact h1, fun j hj => ?_, fun j hj => ?_, ?_, ?_, fun j hj => ?_, fun k j v hk hv => ?_⟩
  · rw [(oth 0 (by omega) j).1]; exact h2 j hj
  · rw [(oth 1 (by omega) j).1]; exact h3 j hj
  · rw [(oth 2 (by omega) 0).1]; exact h4
  · rw [(oth 2 (by omega) 1).2.1]; exact h5'
  · rw [(oth 3 (by omega) j).1]; exact h6 j hj
  · by_cases hka : k = a
    · rw [hka] at hv; exact hF j v hv
    · rw [(oth k hka j).2.1] at hv; exact h7 k j v hk hv
theorem sm_getf {x y z w n : Nat} (X : sm_cx G p R s mI args meth c m d) (hr : sm_rl G M s H locs) (hl : sm_L G L ls (am_mx m)) (hdg : decode (am_cd m) pc = .ok (.getfield n, 3)) (hf : am_fl (am_nm m).cls n x y z w = true) (hq : am_gf x y w M L S = some (true, M1, L1, S1)) (k : sm_nx G p l e R s mI args below meth c cells slots Q m (pc + 3) M M1 L1 S1) : W p l e R s mI args below meth c H locs cells slots Q (F0 mI pc ls (S.map (sm_v G))) := by
  unfold am_gf at hq
  split at hq
  · rename_i a r
    simp only [Option.some.injEq, Prod.mk.injEq] at hq
    obtain ⟨h0, rfl, rfl, rfl⟩ := hq
    obtain ⟨n', hn⟩ := sm_kd h0
    unfold am_fl at hf
    split at hf
    · rename_i q hqc
      simp only [Bool.and_eq_true, decide_eq_true_eq, Bool.or_eq_true] at hf
      obtain ⟨f1, f2, f3, f4⟩ := hf
      have f1 : y < q.2.2 := Nat.le_of_ble_eq_true f1
      have f3 := Nat.eq_of_beq_eq_true f3
      have hx11 := cl_lt hqc
      have h5 : 5 ≤ a := sm_ge hr.2.1 hn (by omega)
      obtain ⟨⟨q', hq', hnq⟩, cell, g1, g2, g3, g4⟩ := (hr.1.1 a h5 x n' hn).1 hx11
      cases hqc.symm.trans hq'
      obtain ⟨hS, hfc, kC, hkC, hkind⟩ := X.2.2.2.2.2.1.1.1 x q hqc
      obtain ⟨cf, kf, fi, f, hi, hsl⟩ := hS y f1
      have hst := (u_facts hfc hkC (u_lays X.2.2.2.2.1 (cl_w hqc).1 f1) hi).1
      have hi' : s.fieldFound? q.1 (q.2.1 y).2.1 (q.2.1 y).2.2.1 = some (cf, kf, fi, f) := by rw [← f2]; exact hi
      have kk := k.same hr hl
      have hv : cell.slots[f.slot]? = some (sm_v G (am_rd w M a y)) := by rw [hsl, g4 y (by omega), sm_rd hr.2.1 h5 f3]
      rw [List.map_cons, sm_v5 h5]
      rcases f4 with f4 | f4
      · exact W.getf X.1 X.2.1 X.2.2.2.1 (X.2.2.2.2.1 _ (am_lk_in f4)) hi' hst g1 (by rw [g3]; exact fun h => by cases h) hv rfl rfl hdg kk
      · exact va_Wgetf X.1 X.2.1 X.2.2.2.1 (va_Nw.use rfl (X.2.2.2.2.2.1.2.2.1 _ (List.mem_filter.mpr ⟨am_nk_in f4, rfl⟩))) hi' hst g1 (by rw [g3]; exact fun h => by cases h) hv rfl rfl hdg kk
    · cases hf
  · cases hq
/-- a field of an own object is written -/
theorem sm_putw {x y z w n a n' : Nat} {v : Value} {r : List Value} (X : sm_cx G p R s mI args meth c m d) (hr : sm_rl G M s H locs) (hl : sm_L G L ls (am_mx m)) (hdg : decode (am_cd m) pc = .ok (.putfield n, 3)) (hf : am_fp (am_nm m).cls (am_nm m).name n x y z w = true) (hn : M.1[a]? = some (x, n')) (h5 : 5 ≤ a) (hs : M1.1 = M.1) (oth : ∀ k j, ¬ (k = a ∧ j = y) → M1.2.1 k j = M.2.1 k j ∧ M1.2.2.1 k j = M.2.2.1 k j ∧ M1.2.2.2 k j = M.2.2.2 k j) (hF : ∀ u, M1.2.2.1 a y = some u → 5 ≤ u) (hv : am_wc (am_ty x y) = w → sm_fv G M1 a x y = v ∧ narrow (am_ty x y) v = v ∧ fits (am_ty x y) v = true) (k : sm_nx G p l e R s mI args below meth c cells slots Q m (pc + 3) M M1 L r) : W p l e R s mI args below meth c H locs cells slots Q (F0 mI pc ls (v :: .ref (sm_a G a) :: r.map (sm_v G))) := by
  have hP := X.2.2.2.2.2.2.2.2.2
  unfold am_fp at hf
  split at hf
  · rename_i q hqc
    simp only [Bool.and_eq_true, decide_eq_true_eq] at hf
    obtain ⟨f1, f2, f3, f4⟩ := hf
    have f1 : y < q.2.2 := Nat.le_of_ble_eq_true f1
    have f3 := Nat.eq_of_beq_eq_true f3
    obtain ⟨v1, v2, v3⟩ := hv f3
    have hx11 := cl_lt hqc
    obtain ⟨⟨q', hq', hnq⟩, cell, g1, g2, g3, g4⟩ := (hr.1.1 a h5 x n' hn).1 hx11
    cases hqc.symm.trans hq'
    subst hnq
    obtain ⟨hS, hfc, kC, hkC, hkind⟩ := X.2.2.2.2.2.1.1.1 x q hqc
    obtain ⟨cf, kf, fi, f, hi, hsl⟩ := hS y f1
    have hlays := u_lays X.2.2.2.2.1 (cl_w hqc).1 f1
    have hst := (u_facts hfc hkC hlays hi).1
    have hi' : s.fieldFound? q.1 (q.2.1 y).2.1 (q.2.1 y).2.2.1 = some (cf, kf, fi, f) := by rw [← f2]; exact hi
    have hap := va_apart (own := (am_nm m).cls) X.2.2.2.2.1 (cl_w hqc).1 (am_ty x) (cl_t hqc) (cl_n hqc) X.2.2.2.2.2.1.1 hqc
    have hslt : f.slot < cell.slots.size := by rw [hsl]; exact k2_hasslot (g4 y f1)
    have done : ∀ H' : Heap, H'[sm_a G a]? = some (cell.setSlot f.slot v) → H'.size = H.size → (∀ q, q ≠ sm_a G a → H'[q]? = H[q]?) → W p l e R s mI args below meth c H' (locs ++ [⟨sm_a G a, f.slot⟩]) cells slots Q (F0 mI (pc + 3) ls (r.map (sm_v G))) := by
      intro H' e1 e2 e3
      have oth' : ∀ k, k ≠ a → ∀ j, M1.2.1 k j = M.2.1 k j ∧ M1.2.2.1 k j = M.2.2.1 k j ∧ M1.2.2.2 k j = M.2.2.2 k j := fun k hk j => oth k j (fun h => hk h.1)
      have hat : sm_at G M1 a H' := by
        intro c2 n2 hcn
        rw [hs, hn] at hcn
        cases hcn
        refine ⟨fun _ => ⟨⟨q, hqc, rfl⟩, cell.setSlot f.slot v, e1, g2, g3, fun j hj => ?_⟩, fun h => by omega, fun h => by omega, Or.inl hx11⟩
        rw [hsl, t_set g4 hap f1 v j hj]
        unfold updV
        by_cases hjy : j = y
        · rw [if_pos hjy, hjy, v1]
        · rw [if_neg hjy]
          unfold sm_fv
          obtain ⟨o1, o2, o3⟩ := oth a j (fun h => hjy h.2)
          rw [o1, o2, o3]
      have hr1 : sm_rl G M1 s H' (locs ++ [⟨sm_a G a, f.slot⟩]) := ⟨sm_hp_set hP hr.1 h5 hs oth' e2 e3 hat, sm_fr_set hr.2.1 h5 hs oth' (fun j u hu => by
        by_cases hjy : j = y
        · rw [hjy] at hu; exact hF u hu
        · rw [(oth a j (fun h => hjy h.2)).2.1] at hu; exact hr.2.1.2.2.2.2.2.2 a j u h5 hu), hr.2.2.put e2 e3 (sm_aA hP h5)⟩
      have := k H' _ ls hr1 hl
      rw [hs, Nat.sub_self, show am_sz M1 = am_sz M by unfold am_sz; rw [hs], Nat.sub_self] at this
      exact this
    cases hfin : (q.2.1 y).2.2.2 with
    | true =>
      rw [hfin] at f4
      simp only [cond_true, Bool.and_eq_true, decide_eq_true_eq] at f4
      obtain ⟨n1, n2, n3⟩ := f4
      have hlay := X.2.2.2.2.1 _ ((cl_w hqc).1 _ (u_in_lay f1))
      unfold u_lay at hlay
      rw [if_pos hfin] at hlay
      have hcf : mI.cls = cf := by
        obtain ⟨_, _, c', _, _, _, -, -, hf', -, -, -, hown2, -⟩ := Cond.laysFinal_spec hlay
        have e1 : c' = cf := by have := hi.symm.trans hf'; simp at this; exact this.1.symm
        rw [f2, n2] at hown2
        rw [← e1]
        exact Option.some.inj (X.2.2.2.1.symm.trans hown2)
      have h6 := u_fits hfc hkC hkind (Or.inr hlay) hi (cl_t hqc y f1) v2 v3
      exact W.putFinK X.1 X.2.1 X.2.2.2.1 (X.2.2.2.2.1 _ (am_lk_in n3)) hi' hst hcf (by rw [X.2.2.2.2.2.2.1]; exact n1) (by rw [g2]; exact h6) g1 g3 hslt rfl rfl hdg done
    | false =>
      rw [hfin] at f4
      simp only [cond_false, Bool.or_eq_true] at f4
      have hlay := X.2.2.2.2.1 _ ((cl_w hqc).1 _ (u_in_lay f1))
      unfold u_lay at hlay
      rw [if_neg (by rw [hfin]; decide)] at hlay
      have h6 := u_store hfc hkC hkind hlay hi (cl_t hqc y f1) v2 v3
      rcases f4 with f4 | f4
      · exact W.putK X.1 X.2.1 (f := f) ⟨X.2.2.2.1, X.2.2.2.2.1 _ (am_lk_in f4), ⟨_, _, _, hi'⟩, hst⟩ (by rw [g2]; exact h6) g1 g3 hslt rfl rfl hdg done
      · exact va_WputK X.1 X.2.1 X.2.2.2.1 (va_Nw.use rfl (X.2.2.2.2.2.1.2.2.1 _ (List.mem_filter.mpr ⟨am_nk_in f4, rfl⟩))) hi' hst (by rw [g2]; exact h6) g1 g3 hslt rfl rfl hdg done
  · cases hf
theorem sm_u2o {α : Type} (f : Nat → Nat → α) (a y : Nat) (v : α) {k j : Nat} (h : ¬ (k = a ∧ j = y)) : am_u2 f a y v k j = f k j := if_neg h
theorem sm_u2s {α : Type} (f : Nat → Nat → α) (a y : Nat) (v : α) : am_u2 f a y v a y = v := if_pos ⟨rfl, rfl⟩
theorem sm_putf {x y z w n : Nat} (X : sm_cx G p R s mI args meth c m d) (hr : sm_rl G M s H locs) (hl : sm_L G L ls (am_mx m)) (hdg : decode (am_cd m) pc = .ok (.putfield n, 3)) (hf : am_fp (am_nm m).cls (am_nm m).name n x y z w = true) (hq : am_pf x y w M L S = some (true, M1, L1, S1)) (k : sm_nx G p l e R s mI args below meth c cells slots Q m (pc + 3) M M1 L1 S1) : W p l e R s mI args below meth c H locs cells slots Q (F0 mI pc ls (S.map (sm_v G))) := by
  unfold am_pf at hq
  split at hq
  · rename_i v a r
    cases hw : Nat.beq w 0 with
    | true =>
      rw [hw] at hq
      simp only [cond_true] at hq
      simp only [Option.some.injEq, Prod.mk.injEq] at hq
      obtain ⟨h0, rfl, rfl, rfl⟩ := hq
      rw [Bool.and_eq_true] at h0
      obtain ⟨n', hn⟩ := sm_kd h0.1
      have h5 : 5 ≤ a := Nat.le_of_ble_eq_true h0.2
      rw [List.map_cons, List.map_cons, sm_v5 h5]
      refine sm_putw X hr hl hdg hf hn h5 (M1 := (M.1, am_u2 M.2.1 a y v, M.2.2.1, M.2.2.2)) rfl (fun k j hkj => ⟨sm_u2o _ _ _ _ hkj, rfl, rfl⟩) (fun u hu => hr.2.1.2.2.2.2.2.2 a y u h5 hu) (fun hc => ?_) k
      have hc0 : am_wc (am_ty x y) = 0 := hc.trans (Nat.eq_of_beq_eq_true hw)
      have ht : am_ty x y = .int := by
        cases h : am_ty x y <;> rw [h] at hc0 <;> first | rfl | (simp [am_wc] at hc0)
      refine ⟨?_, by rw [ht]; rfl, by rw [ht]; rfl⟩
      unfold sm_fv
      rw [hc0]
      show Value.int (am_u2 M.2.1 a y v a y) = _
      rw [sm_u2s]
      rfl
    | false =>
      rw [hw] at hq
      simp only [cond_false] at hq
      cases hw3 : Nat.beq w 3 with
      | false => rw [hw3] at hq; cases hq
      | true =>
        rw [hw3] at hq
        simp only [cond_true] at hq
        simp only [Option.some.injEq, Prod.mk.injEq] at hq
        obtain ⟨h0, rfl, rfl, rfl⟩ := hq
        rw [Bool.and_eq_true, Bool.and_eq_true] at h0
        obtain ⟨n', hn⟩ := sm_kd h0.1
        have h5 : 5 ≤ a := Nat.le_of_ble_eq_true h0.2.1
        have hb : v = 0 ∨ v = 1 := of_decide_eq_true h0.2.2
        rw [List.map_cons, List.map_cons, sm_v5 h5]
        refine sm_putw X hr hl hdg hf hn h5 (M1 := (M.1, am_u2 M.2.1 a y v, M.2.2.1, M.2.2.2)) rfl (fun k j hkj => ⟨sm_u2o _ _ _ _ hkj, rfl, rfl⟩) (fun u hu => hr.2.1.2.2.2.2.2.2 a y u h5 hu) (fun hc => ?_) k
        have hc0 : am_wc (am_ty x y) = 3 := hc.trans (Nat.eq_of_beq_eq_true hw3)
        have ht : am_ty x y = .boolean := by
          cases h : am_ty x y <;> rw [h] at hc0 <;> first | rfl | (simp [am_wc] at hc0)
        refine ⟨?_, ?_, ?_⟩
        · unfold sm_fv
          rw [hc0]
          show Value.int (am_u2 M.2.1 a y v a y) = _
          rw [sm_u2s]
          rfl
        · rw [ht]
          rcases hb with rfl | rfl <;> rfl
        · rw [ht]
          rcases hb with rfl | rfl <;> rfl
  · rename_i v a r
    cases hw : Nat.beq w 2 with
    | false => rw [hw] at hq; cases hq
    | true =>
      rw [hw] at hq
      simp only [cond_true] at hq
      simp only [Option.some.injEq, Prod.mk.injEq] at hq
      obtain ⟨h0, rfl, rfl, rfl⟩ := hq
      rw [Bool.and_eq_true] at h0
      obtain ⟨n', hn⟩ := sm_kd h0.1
      have h5 : 5 ≤ a := Nat.le_of_ble_eq_true h0.2
      rw [List.map_cons, List.map_cons, sm_v5 h5]
      refine sm_putw X hr hl hdg hf hn h5 (M1 := (M.1, M.2.1, M.2.2.1, am_u2 M.2.2.2 a y v)) rfl (fun k j hkj => ⟨rfl, rfl, sm_u2o _ _ _ _ hkj⟩) (fun u hu => hr.2.1.2.2.2.2.2.2 a y u h5 hu) (fun hc => ?_) k
      have hc0 : am_wc (am_ty x y) = 2 := hc.trans (Nat.eq_of_beq_eq_true hw)
      have ht : am_ty x y = .long := by
        cases h : am_ty x y <;> rw [h] at hc0 <;> first | rfl | (simp [am_wc] at hc0)
      refine ⟨?_, by rw [ht]; rfl, by rw [ht]; rfl⟩
      unfold sm_fv
      rw [hc0]
      show Value.long (am_u2 M.2.2.2 a y v a y) = _
      rw [sm_u2s]
      rfl
  · rename_i v a r
    cases hw : Nat.beq w 1 with
    | false => rw [hw] at hq; cases hq
    | true =>
      rw [hw] at hq
      simp only [cond_true] at hq
      simp only [Option.some.injEq, Prod.mk.injEq] at hq
      obtain ⟨h0, rfl, rfl, rfl⟩ := hq
      rw [Bool.and_eq_true, Bool.and_eq_true] at h0
      obtain ⟨n', hn⟩ := sm_kd h0.1
      have h5 : 5 ≤ a := Nat.le_of_ble_eq_true h0.2.1
      have h5v : 5 ≤ v := Nat.le_of_ble_eq_true h0.2.2
      rw [List.map_cons, List.map_cons, sm_v5 h5, sm_v5 h5v]
      refine sm_putw X hr hl hdg hf hn h5 (M1 := (M.1, M.2.1, am_u2 M.2.2.1 a y (some v), M.2.2.2)) rfl (fun k j hkj => ⟨rfl, sm_u2o _ _ _ _ hkj, rfl⟩) (fun u hu => ?_) (fun hc => ?_) k
      · have hu : am_u2 M.2.2.1 a y (some v) a y = some u := hu
        rw [sm_u2s] at hu
        cases hu
        exact h5v
      have hc0 : am_wc (am_ty x y) = 1 := hc.trans (Nat.eq_of_beq_eq_true hw)
      refine ⟨?_, ?_, ?_⟩
      · unfold sm_fv
        rw [hc0]
        show va_rf ((am_u2 M.2.2.1 a y (some v) a y).map (sm_a G)) = _
        rw [sm_u2s]
        rfl
      · cases h : am_ty x y <;> rw [h] at hc0 <;> first | rfl | (simp [am_wc] at hc0)
      · cases h : am_ty x y <;> rw [h] at hc0 <;> first | rfl | (simp [am_wc] at hc0)
  · cases hq
end SM4
end
section
/-! THE SIMULATION, 5: rows, statics, new cells -/
section SM5
variable {G : sm_G} {p : Program} {l : Launch} {e : Env} {R : Room} {s : State} {mI : MethodId} {args : Array Value} {below : List Frame} {meth : Method} {c : Code} {H H1 : Heap} {locs : List Loc} {cells slots : Nat} {Q : State → Prop} {m d pc : Nat} {ls : Array Slot} {M M1 : am_M} {L L1 : am_L} {S S1 : List Value}
theorem sm_ar (hS : sm_S G s) {x n : Nat} {ty : FieldType} (t0 : Nat) (ht : (sm_ts G)[t0]? = some (sm_c G x, ty)) (f : Nat → Value) : s.isArrayOf (arrV (sm_c G x) n f) ty := (hS.1.2 t0 _ ht).1 n f
theorem sm_lt5 {a : Nat} (h : a < 5) : a = 0 ∨ a = 1 ∨ a = 2 ∨ a = 3 ∨ a = 4 := by omega
theorem sm_nA (hS : sm_S G s) : ¬ sm_A G (sm_a G 0) := Nat.not_le.mpr hS.2.2.2.2.2.1.2
theorem sm_iald (X : sm_cx G p R s mI args meth c m d) (hr : sm_rl G M s H locs) (hl : sm_L G L ls (am_mx m)) (hdg : decode (am_cd m) pc = .ok (.iaload, 1)) (hq : am_ia 20 M L S = some (true, M1, L1, S1)) (k : sm_nx G p l e R s mI args below meth c cells slots Q m (pc + 1) M M1 L1 S1) : W p l e R s mI args below meth c H locs cells slots Q (F0 mI pc ls (S.map (sm_v G))) := by
  have hS := X.2.2.2.2.2.1
  unfold am_ia at hq
  split at hq
  · rename_i j a r
    simp only [Option.some.injEq, Prod.mk.injEq] at hq
    obtain ⟨h0, rfl, rfl, rfl⟩ := hq
    rw [Bool.and_eq_true] at h0
    obtain ⟨n, hn⟩ := sm_kd h0.1
    have hin : vp_in j n := by
      have := of_decide_eq_true h0.2
      rw [sm_ln hn] at this
      exact this
    have hlt : j.toNatClampNeg < n := Nat.not_le.mp fun q => hin (Or.inr q)
    have kk := k.same hr hl
    rcases Nat.lt_or_ge a 5 with ha | ha
    · have hn' := hn
      rw [sm_fr_get hr.2.1 ha] at hn'
      rcases (sm_lt5 ha) with rfl | rfl | rfl | rfl | rfl
      · have e : n = sm_n G := by simp at hn'; exact hn'.symm
        subst e
        refine va_sld X.1 X.2.1 hS.2.2.2.2.2.1.1 (Nat.lt_of_lt_of_le hS.2.2.2.2.2.1.2 hS.2.2.2.2.2.2.2.2.2.2) (sm_nA hS) hr.2.2 hin hdg ?_
        rw [← hr.2.1.2.1 _ hlt]
        exact kk
      · have e : n = 6 := by simp at hn'; exact hn'.symm
        subst e
        refine va_ti X.1 X.2.1 hS.2.2.2.2.2.2.1 hr.2.2 hin rfl hdg ?_
        have := hr.2.1.2.2.1 _ hlt
        rw [← this]
        exact kk
      · simp at hn'
      · simp at hn'
      · simp at hn'
    · have hc := (hr.1.1 a ha 20 n hn).2.1 (Or.inl rfl)
      rw [List.map_cons, List.map_cons, sm_v5 ha]
      exact W.iald X.1 X.2.1 hc (sm_ar hS 0 rfl _) (fun q => by cases q) (by rw [arrV_size]; exact hin) (by rw [arrV_read _ _ hlt]; rfl) rfl rfl hdg kk
  · cases hq
theorem sm_bald {x : Nat} (hx : x = 21 ∨ x = 25) (X : sm_cx G p R s mI args meth c m d) (hr : sm_rl G M s H locs) (hl : sm_L G L ls (am_mx m)) (hdg : decode (am_cd m) pc = .ok (.baload, 1)) (hq : am_ia x M L S = some (true, M1, L1, S1)) (k : sm_nx G p l e R s mI args below meth c cells slots Q m (pc + 1) M M1 L1 S1) : W p l e R s mI args below meth c H locs cells slots Q (F0 mI pc ls (S.map (sm_v G))) := by
  have hS := X.2.2.2.2.2.1
  unfold am_ia at hq
  split at hq
  · rename_i j a r
    simp only [Option.some.injEq, Prod.mk.injEq] at hq
    obtain ⟨h0, rfl, rfl, rfl⟩ := hq
    rw [Bool.and_eq_true] at h0
    obtain ⟨n, hn⟩ := sm_kd h0.1
    have hin : vp_in j n := by
      have := of_decide_eq_true h0.2
      rw [sm_ln hn] at this
      exact this
    have hlt : j.toNatClampNeg < n := Nat.not_le.mp fun q => hin (Or.inr q)
    have kk := k.same hr hl
    rcases hx with rfl | rfl
    · have ha := sm_ge hr.2.1 hn (by omega)
      have hc := (hr.1.1 a ha 21 n hn).2.1 (Or.inr rfl)
      rw [List.map_cons, List.map_cons, sm_v5 ha]
      exact W.zald X.1 X.2.1 hc (sm_ar hS 1 rfl _) (fun q => by cases q) (by rw [arrV_size]; exact hin) (by rw [arrV_read _ _ hlt]; rfl) rfl rfl hdg kk
    · rcases Nat.lt_or_ge a 5 with ha | ha
      · have hn' := hn
        rw [sm_fr_get hr.2.1 ha] at hn'
        rcases (sm_lt5 ha) with rfl | rfl | rfl | rfl | rfl
        · simp at hn'
        · simp at hn'
        · simp at hn'
        · have e : n = 59 := by simp at hn'; exact hn'.symm
          subst e
          have hT := (hS.2.2.2.2.1.1 0 (by decide)).2.2.2
          refine va_tb X.1 X.2.1 hT hr.2.2 hin rfl hdg ?_
          have := hr.2.1.2.2.2.2.2.1 _ hlt
          show W p l e R s mI args below meth c H locs cells slots Q (F0 mI (pc + 1) ls (.int (sm_by.getD j.toNatClampNeg 0) :: _))
          rw [← this]
          exact kk
        · simp at hn'
      · have := (hr.1.1 a ha 25 n hn).2.2.2
        omega
  · cases hq
theorem sm_aald {x : Nat} (h22 : 22 ≤ x) (h24 : x ≤ 24) (X : sm_cx G p R s mI args meth c m d) (hr : sm_rl G M s H locs) (hl : sm_L G L ls (am_mx m)) (hdg : decode (am_cd m) pc = .ok (.aaload, 1)) (hq : am_aa x M L S = some (true, M1, L1, S1)) (k : sm_nx G p l e R s mI args below meth c cells slots Q m (pc + 1) M M1 L1 S1) : W p l e R s mI args below meth c H locs cells slots Q (F0 mI pc ls (S.map (sm_v G))) := by
  have hS := X.2.2.2.2.2.1
  unfold am_aa at hq
  split at hq
  · rename_i j a r
    simp only [Option.some.injEq, Prod.mk.injEq] at hq
    obtain ⟨h0, rfl, rfl, rfl⟩ := hq
    rw [Bool.and_eq_true, Bool.and_eq_true] at h0
    obtain ⟨n, hn⟩ := sm_kd h0.1
    have ha : 5 ≤ a := Nat.le_of_ble_eq_true h0.2.1
    have hin : vp_in j n := by
      have := of_decide_eq_true h0.2.2
      rw [sm_ln hn] at this
      exact this
    have hlt : j.toNatClampNeg < n := Nat.not_le.mp fun q => hin (Or.inr q)
    have kk := k.same hr hl
    have hc := (hr.1.1 a ha x n hn).2.2.1 h22 h24
    rw [List.map_cons, sm_rf hr.2.1 ha] at kk
    rw [List.map_cons, List.map_cons, sm_v5 ha]
    have hty : ∃ (t0 : Nat) (C : String), (sm_ts G)[t0]? = some (sm_c G x, .object C) := by
      rcases (show x = 22 ∨ x = 23 ∨ x = 24 by omega) with rfl | rfl | rfl
      · exact ⟨2, _, rfl⟩
      · exact ⟨3, _, rfl⟩
      · exact ⟨4, _, rfl⟩
    obtain ⟨t0, C, ht⟩ := hty
    exact W.aald (ty := .object C) X.1 X.2.1 hc (sm_ar hS t0 ht _) rfl (fun q => by cases q) (by rw [arrV_size]; exact hin) (by rw [arrV_read _ _ hlt]) rfl rfl hdg kk
  · cases hq
theorem sm_alen (X : sm_cx G p R s mI args meth c m d) (hr : sm_rl G M s H locs) (hl : sm_L G L ls (am_mx m)) (hdg : decode (am_cd m) pc = .ok (.arraylength, 1)) (hq : am_al M L S = some (true, M1, L1, S1)) (k : sm_nx G p l e R s mI args below meth c cells slots Q m (pc + 1) M M1 L1 S1) : W p l e R s mI args below meth c H locs cells slots Q (F0 mI pc ls (S.map (sm_v G))) := by
  have hS := X.2.2.2.2.2.1
  unfold am_al at hq
  split at hq
  · rename_i a r
    simp only [Option.some.injEq, Prod.mk.injEq] at hq
    obtain ⟨h0, rfl, rfl, rfl⟩ := hq
    rw [Bool.or_eq_true] at h0
    have kk := k.same hr hl
    rcases h0 with h0 | h0
    · obtain ⟨n, hn⟩ := sm_kd h0
      rw [sm_ln hn] at kk
      rcases Nat.lt_or_ge a 5 with ha | ha
      · have hn' := hn
        rw [sm_fr_get hr.2.1 ha] at hn'
        rcases (sm_lt5 ha) with rfl | rfl | rfl | rfl | rfl
        · have e : n = sm_n G := by simp at hn'; exact hn'.symm
          subst e
          exact va_slen X.1 X.2.1 hS.2.2.2.2.2.1.1 (Nat.lt_of_lt_of_le hS.2.2.2.2.2.1.2 hS.2.2.2.2.2.2.2.2.2.2) (sm_nA hS) hr.2.2 hdg kk
        · have e : n = 6 := by simp at hn'; exact hn'.symm
          subst e
          exact va_tlen X.1 X.2.1 hS.2.2.2.2.2.2.1 hr.2.2 rfl hdg kk
        · simp at hn'
        · simp at hn'
        · simp at hn'
      · have hc := (hr.1.1 a ha 20 n hn).2.1 (Or.inl rfl)
        rw [List.map_cons, sm_v5 ha]
        exact W.alen X.1 X.2.1 hc (sm_ar hS 0 rfl _) (by rw [arrV_size]; rfl) rfl rfl hdg kk
    · obtain ⟨n, hn⟩ := sm_kd h0
      rw [sm_ln hn] at kk
      rcases Nat.lt_or_ge a 5 with ha | ha
      · have hn' := hn
        rw [sm_fr_get hr.2.1 ha] at hn'
        rcases (sm_lt5 ha) with rfl | rfl | rfl | rfl | rfl
        · simp at hn'
        · simp at hn'
        · simp at hn'
        · have e : n = 59 := by simp at hn'; exact hn'.symm
          subst e
          have hT := (hS.2.2.2.2.1.1 0 (by decide)).2.2.2
          exact va_tlen X.1 X.2.1 hT hr.2.2 rfl hdg kk
        · simp at hn'
      · have := (hr.1.1 a ha 25 n hn).2.2.2
        omega
  · cases hq
/-- a row of ints or booleans is written -/
theorem sm_asto {a x n j : Nat} {v : Int32} {u : Value} (hP : sm_P G) (hr : sm_rl G M s H locs) (hx : x = 20 ∨ x = 21) (hn : M.1[a]? = some (x, n)) (h5 : 5 ≤ a) (hu : u = .int v) (e1 : H1[sm_a G a]? = some ((arrV (sm_c G x) n (fun j => .int (M.2.1 a j))).setSlot j u)) (e2 : H1.size = H.size) (e3 : ∀ q, q ≠ sm_a G a → H1[q]? = H[q]?) : sm_rl G (M.1, am_u2 M.2.1 a j v, M.2.2.1, M.2.2.2) s H1 (locs ++ [⟨sm_a G a, j⟩]) := by
  have oth : ∀ k, k ≠ a → ∀ i, am_u2 M.2.1 a j v k i = M.2.1 k i ∧ M.2.2.1 k i = M.2.2.1 k i ∧ M.2.2.2 k i = M.2.2.2 k i := fun k hk i => ⟨sm_u2o _ _ _ _ (fun h => hk h.1), rfl, rfl⟩
  refine ⟨sm_hp_set hP hr.1 h5 rfl oth e2 e3 ?_, sm_fr_set hr.2.1 h5 rfl oth (fun i w hw => hr.2.1.2.2.2.2.2.2 a i w h5 hw), hr.2.2.put e2 e3 (sm_aA hP h5)⟩
  intro c2 n2 hcn
  have hcn : M.1[a]? = some (c2, n2) := hcn
  rw [hn] at hcn
  cases hcn
  refine ⟨fun h => by omega, fun _ => ?_, fun h => by omega, Or.inr (by omega)⟩
  rw [e1, arrV_store, hu]
  congr 2
  funext i
  show updV (fun j => Value.int (M.2.1 a j)) j (.int v) i = .int (am_u2 M.2.1 a j v a i)
  unfold updV am_u2
  by_cases hi : i = j
  · rw [if_pos hi, if_pos ⟨rfl, hi⟩]
  · rw [if_neg hi, if_neg (fun h => hi h.2)]
theorem sm_iast (X : sm_cx G p R s mI args meth c m d) (hr : sm_rl G M s H locs) (hl : sm_L G L ls (am_mx m)) (hdg : decode (am_cd m) pc = .ok (.iastore, 1)) (hq : am_is M L S = some (true, M1, L1, S1)) (k : sm_nx G p l e R s mI args below meth c cells slots Q m (pc + 1) M M1 L1 S1) : W p l e R s mI args below meth c H locs cells slots Q (F0 mI pc ls (S.map (sm_v G))) := by
  have hS := X.2.2.2.2.2.1
  unfold am_is at hq
  split at hq
  · rename_i v j a r
    simp only [Option.some.injEq, Prod.mk.injEq] at hq
    obtain ⟨h0, rfl, rfl, rfl⟩ := hq
    rw [Bool.and_eq_true, Bool.and_eq_true] at h0
    obtain ⟨n, hn⟩ := sm_kd h0.1
    have ha : 5 ≤ a := Nat.le_of_ble_eq_true h0.2.1
    have hin : vp_in j n := by
      have := of_decide_eq_true h0.2.2
      rw [sm_ln hn] at this
      exact this
    have hc := (hr.1.1 a ha 20 n hn).2.1 (Or.inl rfl)
    rw [List.map_cons, List.map_cons, List.map_cons, sm_v5 ha]
    refine W.iast X.1 X.2.1 hc (sm_ar hS 0 rfl _) (fun q => by cases q) (by rw [arrV_size]; exact hin) rfl rfl hdg fun H' e1 e2 e3 => ?_
    have := k H' _ ls (sm_asto X.2.2.2.2.2.2.2.2.2 hr (Or.inl rfl) hn ha rfl e1 e2 e3) hl
    simp only [am_sz, Nat.sub_self, Nat.add_zero] at this
    exact this
  · cases hq
theorem sm_bast (X : sm_cx G p R s mI args meth c m d) (hr : sm_rl G M s H locs) (hl : sm_L G L ls (am_mx m)) (hdg : decode (am_cd m) pc = .ok (.bastore, 1)) (hq : am_bs M L S = some (true, M1, L1, S1)) (k : sm_nx G p l e R s mI args below meth c cells slots Q m (pc + 1) M M1 L1 S1) : W p l e R s mI args below meth c H locs cells slots Q (F0 mI pc ls (S.map (sm_v G))) := by
  have hS := X.2.2.2.2.2.1
  unfold am_bs at hq
  split at hq
  · rename_i v j a r
    simp only [Option.some.injEq, Prod.mk.injEq] at hq
    obtain ⟨h0, rfl, rfl, rfl⟩ := hq
    rw [Bool.and_eq_true, Bool.and_eq_true] at h0
    obtain ⟨n, hn⟩ := sm_kd h0.1
    have ha : 5 ≤ a := Nat.le_of_ble_eq_true h0.2.1
    have hin : vp_in j n := by
      have := of_decide_eq_true h0.2.2
      rw [sm_ln hn] at this
      exact this
    have hc := (hr.1.1 a ha 21 n hn).2.1 (Or.inr rfl)
    rw [List.map_cons, List.map_cons, List.map_cons, sm_v5 ha]
    refine W.zast X.1 X.2.1 hc (sm_ar hS 1 rfl _) (fun q => by cases q) (by rw [arrV_size]; exact hin) rfl rfl hdg fun H' e1 e2 e3 => ?_
    have := k H' _ ls (sm_asto X.2.2.2.2.2.2.2.2.2 hr (Or.inr rfl) hn ha rfl e1 e2 e3) hl
    simp only [am_sz, Nat.sub_self, Nat.add_zero] at this
    exact this
  · cases hq
end SM5
end
section
/-! THE SIMULATION, 6: rows of references, statics, texts, new cells, natives -/
section SM6
variable {G : sm_G} {p : Program} {l : Launch} {e : Env} {R : Room} {s : State} {mI : MethodId} {args : Array Value} {below : List Frame} {meth : Method} {c : Code} {H H1 : Heap} {locs : List Loc} {cells slots : Nat} {Q : State → Prop} {m d pc : Nat} {ls : Array Slot} {M M1 : am_M} {L L1 : am_L} {S S1 : List Value}
theorem sm_ty22 (G : sm_G) {x : Nat} (h22 : 22 ≤ x) (h24 : x ≤ 24) : ∃ t0 : Nat, (sm_ts G)[t0]? = some (sm_c G x, .object (am_rc x)) := by
  rcases (show x = 22 ∨ x = 23 ∨ x = 24 by omega) with rfl | rfl | rfl
  · exact ⟨2, rfl⟩
  · exact ⟨3, rfl⟩
  · exact ⟨4, rfl⟩
theorem sm_aast {x y : Nat} (h22 : 22 ≤ x) (h24 : x ≤ 24) (hy : am_kn y = am_rc x) (X : sm_cx G p R s mI args meth c m d) (hr : sm_rl G M s H locs) (hl : sm_L G L ls (am_mx m)) (hdg : decode (am_cd m) pc = .ok (.aastore, 1)) (hq : am_as x y M L S = some (true, M1, L1, S1)) (k : sm_nx G p l e R s mI args below meth c cells slots Q m (pc + 1) M M1 L1 S1) : W p l e R s mI args below meth c H locs cells slots Q (F0 mI pc ls (S.map (sm_v G))) := by
  have hS := X.2.2.2.2.2.1
  have hP := X.2.2.2.2.2.2.2.2.2
  unfold am_as at hq
  split at hq
  · rename_i v j a r
    simp only [Option.some.injEq, Prod.mk.injEq] at hq
    obtain ⟨h0, rfl, rfl, rfl⟩ := hq
    rw [Bool.and_eq_true, Bool.and_eq_true, Bool.and_eq_true, Bool.and_eq_true] at h0
    obtain ⟨g0, g1, g2, g3, g4⟩ := h0
    obtain ⟨n, hn⟩ := sm_kd g0
    obtain ⟨nv, hnv⟩ := sm_kd g2
    have ha : 5 ≤ a := Nat.le_of_ble_eq_true g1
    have hv5 : 5 ≤ v := Nat.le_of_ble_eq_true g3
    have hin : vp_in j n := by
      have := of_decide_eq_true g4
      rw [sm_ln hn] at this
      exact this
    have hlt : j.toNatClampNeg < n := Nat.not_le.mp fun q => hin (Or.inr q)
    have hj0 : ¬ j < 0 := fun q => hin (Or.inl q)
    have hc := (hr.1.1 a ha x n hn).2.2.1 h22 h24
    obtain ⟨t0, ht⟩ := sm_ty22 G h22 h24
    obtain ⟨kA, comp, k1, k2, k3, -⟩ := (hS.1.2 t0 _ ht).2
    obtain ⟨q, hq1, hq2⟩ : ∃ q, am_cl[y]? = some q ∧ q.1 = am_rc x := by
      unfold am_kn at hy
      split at hy
      · rename_i q hq
        exact ⟨q, hq, hy⟩
      · rcases cl_rc x with h | h | h <;> rw [h] at hy <;> exact absurd hy (by decide)
    have hy11 := cl_lt hq1
    obtain ⟨⟨q', hq', -⟩, cv, v1, v2, v3, -⟩ := (hr.1.1 v hv5 y nv hnv).1 hy11
    have hcls := (hS.1.1 y q hq1).2
    have hcomp : comp = (sm_D G).1 y := Option.some.inj (k3.symm.trans (by rw [← hq2]; exact hcls.1))
    subst hcomp
    obtain ⟨kC, hkC, -⟩ := hcls.2
    rw [List.map_cons, List.map_cons, List.map_cons, sm_v5 ha, sm_v5 hv5]
    refine W.aast X.1 X.2.1 hc (fun q h => by cases h) (fun h => by cases h) k1 k2 rfl hkC ⟨hj0, by rw [arrV_size]; exact hlt⟩ v1 (fun q h => by rw [v3] at h; cases h) (by rw [v2]; exact hkC) (by rw [v2]; exact va_assign hcls) rfl rfl hdg fun H' e1 e2 e3 => ?_
    have oth : ∀ k, k ≠ a → ∀ i, M.2.1 k i = M.2.1 k i ∧ am_u2 M.2.2.1 a j.toNatClampNeg (some v) k i = M.2.2.1 k i ∧ M.2.2.2 k i = M.2.2.2 k i := fun k hk i => ⟨rfl, sm_u2o _ _ _ _ (fun h => hk h.1), rfl⟩
    have hr1 : sm_rl G (M.1, M.2.1, am_u2 M.2.2.1 a j.toNatClampNeg (some v), M.2.2.2) s H' (locs ++ [⟨sm_a G a, j.toNatClampNeg⟩]) := by
      refine ⟨sm_hp_set hP hr.1 ha rfl oth e2 e3 ?_, sm_fr_set hr.2.1 ha rfl oth (fun i w hw => ?_), hr.2.2.put e2 e3 (sm_aA hP ha)⟩
      · intro c2 n2 hcn
        have hcn : M.1[a]? = some (c2, n2) := hcn
        rw [hn] at hcn
        cases hcn
        refine ⟨fun h => by omega, fun h => by omega, fun _ _ => ?_, Or.inr (by omega)⟩
        rw [e1, arrV_store]
        congr 2
        funext i
        show updV (fun j => va_rf ((M.2.2.1 a j).map (sm_a G))) j.toNatClampNeg (.ref (sm_a G v)) i = va_rf ((am_u2 M.2.2.1 a j.toNatClampNeg (some v) a i).map (sm_a G))
        unfold updV am_u2
        by_cases hi : i = j.toNatClampNeg
        · rw [if_pos hi, if_pos ⟨rfl, hi⟩]; rfl
        · rw [if_neg hi, if_neg (fun h => hi h.2)]
      · have hw : am_u2 M.2.2.1 a j.toNatClampNeg (some v) a i = some w := hw
        unfold am_u2 at hw
        by_cases hi : i = j.toNatClampNeg
        · rw [if_pos ⟨rfl, hi⟩] at hw
          cases hw
          exact hv5
        · rw [if_neg (fun h => hi h.2)] at hw
          exact hr.2.1.2.2.2.2.2.2 a i w ha hw
    have := k H' _ ls hr1 hl
    simp only [am_sz, Nat.sub_self, Nat.add_zero] at this
    exact this
  · cases hq
/-- getfield of the text WORDS -/
theorem sm_getS {y w n : Nat} (X : sm_cx G p R s mI args meth c m d) (hr : sm_rl G M s H locs) (hl : sm_L G L ls (am_mx m)) (hdg : decode (am_cd m) pc = .ok (.getfield n, 3)) (hf : (y = 0 ∧ w = 0 ∧ Cond.fieldLink (am_nm m).cls n "java/lang/String" "coder" "B" ∈ am_W) ∨ (y = 1 ∧ w = 1 ∧ Cond.fieldLink (am_nm m).cls n "java/lang/String" "value" "[B" ∈ am_W)) (hq : am_gf 26 y w M L S = some (true, M1, L1, S1)) (k : sm_nx G p l e R s mI args below meth c cells slots Q m (pc + 3) M M1 L1 S1) : W p l e R s mI args below meth c H locs cells slots Q (F0 mI pc ls (S.map (sm_v G))) := by
  have hS := X.2.2.2.2.2.1
  unfold am_gf at hq
  split at hq
  · rename_i a r
    simp only [Option.some.injEq, Prod.mk.injEq] at hq
    obtain ⟨h0, rfl, rfl, rfl⟩ := hq
    obtain ⟨n', hn⟩ := sm_kd h0
    have kk := k.same hr hl
    rcases Nat.lt_or_ge a 5 with ha | ha
    · have hn' := hn
      rw [sm_fr_get hr.2.1 ha] at hn'
      rcases (sm_lt5 ha) with rfl | rfl | rfl | rfl | rfl
      · simp at hn'
      · simp at hn'
      · rcases hf with ⟨rfl, rfl, hf⟩ | ⟨rfl, rfl, hf⟩
        · refine vk_getf X.1 X.2.1 (hS.2.2.2.2.1.1 0 (by decide)).2.1 hr.2.2 X.2.2.2.1 (X.2.2.2.2.1 _ hf) (fun x h => h) hdg ?_
          have : (Value.int 0 : Value) = sm_v G (am_rd 0 M 2 0) := by show _ = Value.int (M.2.1 2 0); rw [hr.2.1.2.2.2.1]
          rw [this]
          exact kk
        · refine vk_getf X.1 X.2.1 (hS.2.2.2.2.1.1 0 (by decide)).2.2.1 hr.2.2 X.2.2.2.1 (X.2.2.2.2.1 _ hf) (fun x h => h) hdg ?_
          have : (Value.ref (sm_a G 3) : Value) = sm_v G (am_rd 1 M 2 1) := by show _ = sm_v G (va_rf (M.2.2.1 2 1)); rw [hr.2.1.2.2.2.2.1]; rfl
          rw [this]
          exact kk
      · simp at hn'
      · simp at hn'
    · have := (hr.1.1 a ha 26 n' hn).2.2.2
      omega
  · cases hq
theorem sm_gets0 {n : Nat} (X : sm_cx G p R s mI args meth c m d) (hr : sm_rl G M s H locs) (hl : sm_L G L ls (am_mx m)) (hdg : decode (am_cd m) pc = .ok (.getstatic n, 3)) (hf : Cond.fieldLinkNest (am_nm m).cls n "EvenlyPoured" "UNDER" "[I" "EvenlyPoured" ∈ lw_tbl) (hq : am_psh (am_gs 0) M L S = some (true, M1, L1, S1)) (k : sm_nx G p l e R s mI args below meth c cells slots Q m (pc + 3) M M1 L1 S1) : W p l e R s mI args below meth c H locs cells slots Q (F0 mI pc ls (S.map (sm_v G))) := by
  have hS := X.2.2.2.2.2.1
  simp only [am_psh, Option.some.injEq, Prod.mk.injEq] at hq
  obtain ⟨-, rfl, rfl, rfl⟩ := hq
  exact va_getsN X.1 X.2.1 hS.2.2.2.2.2.2.2.1 hr.2.2 X.2.2.2.1 (va_Nw.use rfl (hS.2.2.1 _ (List.mem_filter.mpr ⟨hf, rfl⟩))) (fun x h => h) hdg (k.same hr hl)
theorem sm_gets1 {n : Nat} (X : sm_cx G p R s mI args meth c m d) (hr : sm_rl G M s H locs) (hl : sm_L G L ls (am_mx m)) (hdg : decode (am_cd m) pc = .ok (.getstatic n, 3)) (hf : Cond.fieldLink (am_nm m).cls n "java/lang/String" "COMPACT_STRINGS" "Z" ∈ am_W) (hq : am_psh (am_gs 1) M L S = some (true, M1, L1, S1)) (k : sm_nx G p l e R s mI args below meth c cells slots Q m (pc + 3) M M1 L1 S1) : W p l e R s mI args below meth c H locs cells slots Q (F0 mI pc ls (S.map (sm_v G))) := by
  have hS := X.2.2.2.2.2.1
  simp only [am_psh, Option.some.injEq, Prod.mk.injEq] at hq
  obtain ⟨-, rfl, rfl, rfl⟩ := hq
  exact va_gets X.1 X.2.1 hS.2.2.2.2.2.2.2.2.1 hr.2.2 X.2.2.2.1 (X.2.2.2.2.1 _ hf) (fun x h => h) hdg (k.same hr hl)
theorem sm_gets2 {n z : Nat} (X : sm_cx G p R s mI args meth c m d) (hr : sm_rl G M s H locs) (hl : sm_L G L ls (am_mx m)) (hdg : decode (am_cd m) pc = .ok (.getstatic n, 3)) (hf : Cond.fieldLink (am_nm m).cls n "jdk/internal/util/Preconditions" "SIOOBE_FORMATTER" "Ljava/util/function/BiFunction;" ∈ am_W) (hq : am_psh (am_gs (z + 2)) M L S = some (true, M1, L1, S1)) (k : sm_nx G p l e R s mI args below meth c cells slots Q m (pc + 3) M M1 L1 S1) : W p l e R s mI args below meth c H locs cells slots Q (F0 mI pc ls (S.map (sm_v G))) := by
  have hS := X.2.2.2.2.2.1
  simp only [am_psh, Option.some.injEq, Prod.mk.injEq] at hq
  obtain ⟨-, rfl, rfl, rfl⟩ := hq
  exact va_gets X.1 X.2.1 hS.2.2.2.2.2.2.2.2.2.1 hr.2.2 X.2.2.2.1 (X.2.2.2.2.1 _ hf) (fun x h => h) hdg (k.same hr hl)
/-- a cell more -/
theorem sm_new {c0 n : Nat} (hr : sm_rl G M s H locs) (hz : H1.size = H.size + 1) (o1 : ∀ q, q < H.size → H1[q]? = H[q]?) (hP : sm_P G) (hat : sm_at G (am_nw c0 n M) M.1.length H1) : sm_rl G (am_nw c0 n M) s H1 locs := by
  obtain ⟨⟨h1, h2, h3⟩, hf, hS⟩ := hr
  have e0 : ∀ k, k ≠ M.1.length → ∀ j, (am_nw c0 n M).2.1 k j = M.2.1 k j ∧ (am_nw c0 n M).2.2.1 k j = M.2.2.1 k j ∧ (am_nw c0 n M).2.2.2 k j = M.2.2.2 k j := fun k hk j => ⟨if_neg hk, if_neg hk, if_neg hk⟩
  refine ⟨⟨fun k hk => ?_, ?_, ?_⟩, ?_, ?_⟩
  · by_cases hkl : k = M.1.length
    · rw [hkl]; exact hat
    · intro c2 n2 hcn
      have hcn : (M.1 ++ [(c0, n)])[k]? = some (c2, n2) := hcn
      have hlt : k < M.1.length := by
        have := (List.getElem?_eq_some_iff.mp hcn).1
        rw [List.length_append, List.length_singleton] at this
        omega
      rw [List.getElem?_append_left hlt] at hcn
      have hq : H1[sm_a G k]? = H[sm_a G k]? := by
        refine o1 _ ?_
        obtain ⟨k', rfl⟩ := Nat.exists_eq_add_of_le' hk
        rw [hP.1]
        omega
      obtain ⟨g1, g2, g3, g4⟩ := h1 k hk c2 n2 hcn
      refine ⟨fun h => ⟨(g1 h).1, ((g1 h).2.kept hq).to (fun j _ => ?_)⟩, fun h => ?_, fun h h' => ?_, g4⟩
      · unfold sm_fv
        obtain ⟨e1, e2, e3⟩ := e0 k hkl j
        rw [e1, e2, e3]
      · rw [hq, g2 h]
        congr 2
        funext j
        rw [(e0 k hkl j).1]
      · rw [hq, g3 h h']
        congr 2
        funext j
        rw [(e0 k hkl j).2.1]
  · show H1.size + 5 = sm_b G + (M.1 ++ [(c0, n)]).length
    rw [List.length_append, List.length_singleton]
    omega
  · show 5 ≤ (M.1 ++ [(c0, n)]).length
    rw [List.length_append, List.length_singleton]
    omega
  · obtain ⟨f1, f2, f3, f4, f5, f6, f7⟩ := hf
    refine ⟨?_, fun j hj => ?_, fun j hj => ?_, ?_, ?_, fun j hj => ?_, fun k j v hk hv => ?_⟩
    · show (M.1 ++ [(c0, n)]).take 5 = _
      rw [List.take_append_of_le_length h3]
      exact f1
    · rw [(e0 0 (by omega) j).1]; exact f2 j hj
    · rw [(e0 1 (by omega) j).1]; exact f3 j hj
    · rw [(e0 2 (by omega) 0).1]; exact f4
    · rw [(e0 2 (by omega) 1).2.1]; exact f5
    · rw [(e0 3 (by omega) j).1]; exact f6 j hj
    · by_cases hkl : k = M.1.length
      · have : (am_nw c0 n M).2.2.1 k j = none := if_pos hkl
        rw [this] at hv
        cases hv
      · rw [(e0 k hkl j).2.1] at hv
        exact f7 k j v hk hv
  · exact ⟨Nat.le_trans hS.1 (by omega), fun q q1 q2 => (o1 q (Nat.lt_of_lt_of_le q1 hS.1)).trans (hS.2.1 q q1 q2), hS.2.2⟩
theorem sm_nwl (c0 n : Nat) (M : am_M) : (am_nw c0 n M).1.length - M.1.length = 1 ∧ am_sz (am_nw c0 n M) - am_sz M = n := by
  refine ⟨?_, ?_⟩
  · show (M.1 ++ [(c0, n)]).length - _ = 1
    rw [List.length_append, List.length_singleton]
    omega
  · unfold am_sz
    show ((M.1 ++ [(c0, n)]).map (fun q => q.2)).sum - _ = n
    rw [List.map_append, List.sum_append]
    simp
theorem sm_top (hP : sm_P G) (hr : sm_rl G M s H locs) : H.size = sm_a G M.1.length := by
  obtain ⟨k', hk⟩ := Nat.exists_eq_add_of_le' hr.1.2.2
  have := hr.1.2.1
  rw [hk, hP.1]
  omega
end SM6
end
section
/-! THE SIMULATION, 7: new cells, natives -/
section SM7
variable {G : sm_G} {p : Program} {l : Launch} {e : Env} {R : Room} {s : State} {mI : MethodId} {args : Array Value} {below : List Frame} {meth : Method} {c : Code} {H H1 : Heap} {locs : List Loc} {cells slots : Nat} {Q : State → Prop} {m d pc : Nat} {ls : Array Slot} {M M1 : am_M} {L L1 : am_L} {S S1 : List Value}
theorem sm_newo {x y n : Nat} {q : vw_C} (hqc : am_cl[x]? = some q) (hy : y = q.2.2) (X : sm_cx G p R s mI args meth c m d) (hr : sm_rl G M s H locs) (hl : sm_L G L ls (am_mx m)) (hdg : decode (am_cd m) pc = .ok (.new n, 3)) (hf : Cond.classLink (am_nm m).cls n q.1 ∈ am_W) (hq : am_no x y M L S = some (true, M1, L1, S1)) (hc : cells + (M1.1.length - M.1.length) ≤ R.cells) (hs : slots + (am_sz M1 - am_sz M) ≤ R.slots) (k : sm_nx G p l e R s mI args below meth c cells slots Q m (pc + 3) M M1 L1 S1) : W p l e R s mI args below meth c H locs cells slots Q (F0 mI pc ls (S.map (sm_v G))) := by
  have hS := X.2.2.2.2.2.1
  have hP := X.2.2.2.2.2.2.2.2.2
  simp only [am_no, Option.some.injEq, Prod.mk.injEq] at hq
  obtain ⟨-, rfl, rfl, rfl⟩ := hq
  obtain ⟨z1, z2⟩ := sm_nwl x y M
  rw [z1] at hc
  rw [z2] at hs
  subst hy
  have hKn := hS.1.1 x q hqc
  refine W.newcK X.1 X.2.1 X.2.2.2.1 (X.2.2.2.2.1 _ hf) (X.2.2.2.2.1 _ (cl_w hqc).2.2) (X.2.2.2.2.1 _ (cl_w hqc).2.1) rfl hdg hc hs hKn.2.1 (sm_top hP hr) fun H1 kC hkC e1 e2 e3 => ?_
  have hz : H1.size = H.size + 1 := by rw [e2, sm_top hP hr]
  have hat : sm_at G (am_nw x q.2.2 M) M.1.length H1 := by
    intro c2 n2 hcn
    have hcn : (M.1 ++ [(x, q.2.2)])[M.1.length]? = some (c2, n2) := hcn
    rw [List.getElem?_append_right (Nat.le_refl _), Nat.sub_self] at hcn
    cases hcn
    have hx11 := cl_lt hqc
    refine ⟨fun _ => ⟨⟨q, hqc, rfl⟩, ?_⟩, fun h => by omega, fun h => by omega, Or.inl hx11⟩
    refine (u_born (am_ty x) X.2.2.2.2.1 (cl_w hqc).1 hKn hkC e1 (cl_t hqc)).to (fun j hj => ?_)
    have h3 := cl_wc hqc j hj
    unfold sm_fv
    have i1 : (am_nw x q.2.2 M).2.1 M.1.length j = 0 := if_pos rfl
    have i2 : (am_nw x q.2.2 M).2.2.1 M.1.length j = none := if_pos rfl
    have i3 : (am_nw x q.2.2 M).2.2.2 M.1.length j = 0 := if_pos rfl
    rw [i1, i2, i3]
    cases ht : am_ty x j <;> rw [ht] at h3 <;> first | rfl | (exact absurd h3 (by decide))
  have := k H1 _ ls (sm_new hr hz (fun q' hq' => e3 q' (by rw [← sm_top hP hr]; exact hq')) hP hat) hl
  rw [z1, z2, List.map_cons, sm_v5 hr.1.2.2] at this
  exact this
theorem sm_newa {x : Nat} {t : ArrayType} (ht : (t = .int ∧ x = 20) ∨ (t = .boolean ∧ x = 21)) (X : sm_cx G p R s mI args meth c m d) (hr : sm_rl G M s H locs) (hl : sm_L G L ls (am_mx m)) (hdg : decode (am_cd m) pc = .ok (.newarray t, 2)) (hq : am_na x M L S = some (true, M1, L1, S1)) (hc : cells + (M1.1.length - M.1.length) ≤ R.cells) (hs : slots + (am_sz M1 - am_sz M) ≤ R.slots) (k : sm_nx G p l e R s mI args below meth c cells slots Q m (pc + 2) M M1 L1 S1) : W p l e R s mI args below meth c H locs cells slots Q (F0 mI pc ls (S.map (sm_v G))) := by
  have hS := X.2.2.2.2.2.1
  have hP := X.2.2.2.2.2.2.2.2.2
  unfold am_na at hq
  split at hq
  · rename_i n r
    simp only [Option.some.injEq, Prod.mk.injEq] at hq
    obtain ⟨h0, rfl, rfl, rfl⟩ := hq
    rw [Bool.and_eq_true] at h0
    have hn0 : ¬ n < 0 := of_decide_eq_true h0.1
    have hn1 : n.toNatClampNeg ≤ 100000 := Nat.le_of_ble_eq_true h0.2
    obtain ⟨z1, z2⟩ := sm_nwl x n.toNatClampNeg M
    rw [z1] at hc
    rw [z2] at hs
    have fin : ∀ (H1 : Heap) (cA : ClassId), H1[sm_a G M.1.length]? = some (arrV cA n.toNatClampNeg (fun _ => .int 0)) → H1.size = sm_a G M.1.length + 1 → (∀ q, q < sm_a G M.1.length → H1[q]? = H[q]?) → cA = sm_c G x → W p l e R s mI args below meth c H1 locs (cells + 1) (slots + n.toNatClampNeg) Q (F0 mI (pc + 2) ls (.ref (sm_a G M.1.length) :: r.map (sm_v G))) := by
      intro H1 cA e1 e2 e3 ecA
      have hat : sm_at G (am_nw x n.toNatClampNeg M) M.1.length H1 := by
        intro c2 n2 hcn
        have hcn : (M.1 ++ [(x, n.toNatClampNeg)])[M.1.length]? = some (c2, n2) := hcn
        rw [List.getElem?_append_right (Nat.le_refl _), Nat.sub_self] at hcn
        cases hcn
        refine ⟨fun h => by omega, fun _ => ?_, fun h => by omega, Or.inr (by omega)⟩
        rw [e1, ecA]
        congr 2
        funext j
        have i1 : (am_nw x n.toNatClampNeg M).2.1 M.1.length j = 0 := if_pos rfl
        rw [i1]
      have := k H1 _ ls (sm_new hr (by rw [e2, sm_top hP hr]) (fun q' hq' => e3 q' (by rw [← sm_top hP hr]; exact hq')) hP hat) hl
      rw [z1, z2, List.map_cons, sm_v5 hr.1.2.2] at this
      exact this
    rcases ht with ⟨rfl, rfl⟩ | ⟨rfl, rfl⟩
    · refine va_newaK (atype := .int) X.1 X.2.1 (X.2.2.2.2.1 _ cl_ar.1) rfl hdg rfl hn0 rfl (show n.toNatClampNeg * 4 ≤ 536870912 by omega) hc hs (sm_top hP hr) fun H1 cA e1 e2 e3 e4 e5 => ?_
      exact fin H1 cA e1 e2 e3 (Option.some.inj (e5.symm.trans (hS.1.2 0 _ rfl).2))
    · refine va_newaK (atype := .boolean) X.1 X.2.1 (X.2.2.2.2.1 _ cl_ar.2) rfl hdg rfl hn0 rfl (show n.toNatClampNeg * 1 ≤ 536870912 by omega) hc hs (sm_top hP hr) fun H1 cA e1 e2 e3 e4 e5 => ?_
      exact fin H1 cA e1 e2 e3 (Option.some.inj (e5.symm.trans (hS.1.2 1 _ rfl).2))
  · cases hq
theorem sm_anew {x n0 : Nat} (h22 : 22 ≤ x) (h24 : x ≤ 24) (X : sm_cx G p R s mI args meth c m d) (hr : sm_rl G M s H locs) (hl : sm_L G L ls (am_mx m)) (hdg : decode (am_cd m) pc = .ok (.anewarray n0, 3)) (hf : Cond.classLink (am_nm m).cls n0 (am_rc x) ∈ am_W) (hq : am_na x M L S = some (true, M1, L1, S1)) (hc : cells + (M1.1.length - M.1.length) ≤ R.cells) (hs : slots + (am_sz M1 - am_sz M) ≤ R.slots) (k : sm_nx G p l e R s mI args below meth c cells slots Q m (pc + 3) M M1 L1 S1) : W p l e R s mI args below meth c H locs cells slots Q (F0 mI pc ls (S.map (sm_v G))) := by
  have hS := X.2.2.2.2.2.1
  have hP := X.2.2.2.2.2.2.2.2.2
  unfold am_na at hq
  split at hq
  · rename_i n r
    simp only [Option.some.injEq, Prod.mk.injEq] at hq
    obtain ⟨h0, rfl, rfl, rfl⟩ := hq
    rw [Bool.and_eq_true] at h0
    have hn0 : ¬ n < 0 := of_decide_eq_true h0.1
    have hn1 : n.toNatClampNeg ≤ 100000 := Nat.le_of_ble_eq_true h0.2
    obtain ⟨z1, z2⟩ := sm_nwl x n.toNatClampNeg M
    rw [z1] at hc
    rw [z2] at hs
    refine W.anew X.1 X.2.1 X.2.2.2.1 (X.2.2.2.2.1 _ hf) (va_AO.use (hS.2.1 x)) rfl hdg rfl hn0 (by omega) hc hs fun cA kA comp f1 f2 f3 f4 => ?_
    obtain ⟨t0, ht⟩ := sm_ty22 G h22 h24
    obtain ⟨kB, comB, -, -, -, k4⟩ := (hS.1.2 t0 _ ht).2
    have ecA : cA = sm_c G x := Option.some.inj (f1.symm.trans k4)
    generalize hH1 : H.push ({ cls := cA, slots := Array.replicate n.toNatClampNeg .null, vm := .none } : Cell) = H1
    have e2 : H1.size = H.size + 1 := by rw [← hH1, Array.size_push]
    have e1 : H1[H.size]? = some (arrV cA n.toNatClampNeg (fun _ => .null)) := by rw [← hH1, Array.getElem?_push_size, ← arrV_new]
    have e3 : ∀ q : Nat, q < H.size → H1[q]? = H[q]? := fun q hq => by rw [← hH1, Array.getElem?_push, if_neg (Nat.ne_of_lt hq)]
    have hat : sm_at G (am_nw x n.toNatClampNeg M) M.1.length H1 := by
      intro c2 n2 hcn
      have hcn : (M.1 ++ [(x, n.toNatClampNeg)])[M.1.length]? = some (c2, n2) := hcn
      rw [List.getElem?_append_right (Nat.le_refl _), Nat.sub_self] at hcn
      cases hcn
      refine ⟨fun h => by omega, fun h => by omega, fun _ _ => ?_, Or.inr (by omega)⟩
      rw [← sm_top hP hr, e1, ecA]
      congr 2
      funext j
      have i1 : (am_nw x n.toNatClampNeg M).2.2.1 M.1.length j = none := if_pos rfl
      rw [i1]
      rfl
    have := k H1 _ ls (sm_new hr e2 e3 hP hat) hl
    rw [z1, z2, List.map_cons, sm_v5 hr.1.2.2, ← sm_top hP hr] at this
    exact this
  · cases hq
theorem sm_catm (hP : sm_P G) (r : List Value) : ((r.map (sm_v G)).map fun v => v.category).sum = am_cat r := by
  unfold am_cat
  rw [List.map_map]
  congr 1
  refine List.map_congr_left (fun v _ => ?_)
  exact sm_cat G hP v
theorem sm_mmax {n : Nat} (X : sm_cx G p R s mI args meth c m d) (hr : sm_rl G M s H locs) (hl : sm_L G L ls (am_mx m)) (hdg : decode (am_cd m) pc = .ok (.invokestatic n, 3)) (hf : Cond.methodLink (am_nm m).cls n Lib.Math.max.name ∈ am_W) (hcs : cells ≤ R.cells ∧ slots ≤ R.slots) (hq : am_ma d 1 M L S = some (true, M1, L1, S1)) (k : sm_nx G p l e R s mI args below meth c cells slots Q m (pc + 3) M M1 L1 S1) : W p l e R s mI args below meth c H locs cells slots Q (F0 mI pc ls (S.map (sm_v G))) := by
  have hP := X.2.2.2.2.2.2.2.2.2
  simp only [am_ma] at hq
  split at hq
  · rename_i y x r
    simp only [Option.some.injEq, Prod.mk.injEq] at hq
    obtain ⟨h0, rfl, rfl, rfl⟩ := hq
    rw [Bool.and_eq_true] at h0
    have hd : 1 ≤ d := Nat.le_of_ble_eq_true h0.1
    have h8 : am_cat r ≤ 8 := Nat.le_of_ble_eq_true h0.2
    have hR := X.2.2.2.2.2.2.2.1
    have hR2 := X.2.2.2.2.2.2.2.2.1
    exact va_mmax X.1 X.2.1 (by rw [X.2.2.1, hl.2.1]) X.2.2.2.1 (X.2.2.2.2.1 _ hf) (X.2.2.2.2.1 _ cl_mmax.1) (X.2.2.2.2.1 _ cl_mmax.2.1) (X.2.2.2.2.1 _ cl_mmax.2.2) (by omega) (by rw [sm_catm hP]; omega) hcs.1 hcs.2 hdg (k.same hr hl)
  · cases hq
theorem sm_mmin {n : Nat} (X : sm_cx G p R s mI args meth c m d) (hr : sm_rl G M s H locs) (hl : sm_L G L ls (am_mx m)) (hdg : decode (am_cd m) pc = .ok (.invokestatic n, 3)) (hf : Cond.methodLink (am_nm m).cls n Lib.Math.min.name ∈ am_W) (hcs : cells ≤ R.cells ∧ slots ≤ R.slots) (hq : am_ma d 2 M L S = some (true, M1, L1, S1)) (k : sm_nx G p l e R s mI args below meth c cells slots Q m (pc + 3) M M1 L1 S1) : W p l e R s mI args below meth c H locs cells slots Q (F0 mI pc ls (S.map (sm_v G))) := by
  have hP := X.2.2.2.2.2.2.2.2.2
  simp only [am_ma] at hq
  split at hq
  · rename_i y x r
    simp only [Option.some.injEq, Prod.mk.injEq] at hq
    obtain ⟨h0, rfl, rfl, rfl⟩ := hq
    rw [Bool.and_eq_true] at h0
    have hd : 1 ≤ d := Nat.le_of_ble_eq_true h0.1
    have h8 : am_cat r ≤ 8 := Nat.le_of_ble_eq_true h0.2
    have hR := X.2.2.2.2.2.2.2.1
    have hR2 := X.2.2.2.2.2.2.2.2.1
    exact va_mmin X.1 X.2.1 (by rw [X.2.2.1, hl.2.1]) X.2.2.2.1 (X.2.2.2.2.1 _ hf) (X.2.2.2.2.1 _ cl_mmin.1) (X.2.2.2.2.1 _ cl_mmin.2.1) (X.2.2.2.2.1 _ cl_mmin.2.2) (by omega) (by rw [sm_catm hP]; omega) hcs.1 hcs.2 hdg (k.same hr hl)
  · cases hq
theorem sm_mabs {n w : Nat} (X : sm_cx G p R s mI args meth c m d) (hr : sm_rl G M s H locs) (hl : sm_L G L ls (am_mx m)) (hdg : decode (am_cd m) pc = .ok (.invokestatic n, 3)) (hf : Cond.methodLink (am_nm m).cls n Lib.Math.abs.name ∈ am_W) (hcs : cells ≤ R.cells ∧ slots ≤ R.slots) (hq : am_ma d (w + 3) M L S = some (true, M1, L1, S1)) (k : sm_nx G p l e R s mI args below meth c cells slots Q m (pc + 3) M M1 L1 S1) : W p l e R s mI args below meth c H locs cells slots Q (F0 mI pc ls (S.map (sm_v G))) := by
  have hP := X.2.2.2.2.2.2.2.2.2
  simp only [am_ma] at hq
  split at hq
  · rename_i x r
    simp only [Option.some.injEq, Prod.mk.injEq] at hq
    obtain ⟨h0, rfl, rfl, rfl⟩ := hq
    rw [Bool.and_eq_true] at h0
    have hd : 1 ≤ d := Nat.le_of_ble_eq_true h0.1
    have h8 : am_cat r ≤ 8 := Nat.le_of_ble_eq_true h0.2
    have hR := X.2.2.2.2.2.2.2.1
    have hR2 := X.2.2.2.2.2.2.2.2.1
    exact va_mabs X.1 X.2.1 (by rw [X.2.2.1, hl.2.1]) X.2.2.2.1 (X.2.2.2.2.1 _ hf) (X.2.2.2.2.1 _ cl_mabs.1) (X.2.2.2.2.1 _ cl_mabs.2.1) (X.2.2.2.2.1 _ cl_mabs.2.2) (by omega) (by rw [sm_catm hP]; omega) hcs.1 hcs.2 hdg (k.same hr hl)
  · cases hq
theorem sm_nn {z : Int32} (hz : ¬ z < 0) : z.toInt = (z.toNatClampNeg : Int) := by
  have h1 := Int32.not_lt.mp hz
  have h2 : (0 : Int) ≤ z.toInt := by simpa using Int32.le_iff_toInt_le.mp h1
  show z.toInt = ((z.toInt.toNat : Nat) : Int)
  omega
theorem sm_acp {n0 : Nat} (X : sm_cx G p R s mI args meth c m d) (hr : sm_rl G M s H locs) (hl : sm_L G L ls (am_mx m)) (hdg : decode (am_cd m) pc = .ok (.invokestatic n0, 3)) (hf : Cond.methodLink (am_nm m).cls n0 arraycopyName ∈ am_W) (hq : am_cp d M L S = some (true, M1, L1, S1)) (k : sm_nx G p l e R s mI args below meth c cells slots Q m (pc + 3) M M1 L1 S1) : W p l e R s mI args below meth c H locs cells slots Q (F0 mI pc ls (S.map (sm_v G))) := by
  have hS := X.2.2.2.2.2.1
  have hP := X.2.2.2.2.2.2.2.2.2
  unfold am_cp at hq
  split at hq
  · rename_i n dp a sp a0 r
    simp only [Option.some.injEq, Prod.mk.injEq] at hq
    obtain ⟨h0, rfl, rfl, rfl⟩ := hq
    rw [Bool.and_eq_true, Bool.and_eq_true, Bool.and_eq_true, Bool.and_eq_true, Bool.and_eq_true, Bool.and_eq_true] at h0
    obtain ⟨b1, b2, b3, b4, b5, b6, b7⟩ := h0
    obtain ⟨m0, hm0⟩ := sm_kd b3
    obtain ⟨m1, hm1⟩ := sm_kd b5
    have ha0 : 5 ≤ a0 := Nat.le_of_ble_eq_true b4
    have ha : 5 ≤ a := Nat.le_of_ble_eq_true b6
    have b7 := of_decide_eq_true b7
    rw [sm_ln hm0, sm_ln hm1] at b7
    obtain ⟨p1, p2, p3, p4, p5⟩ := b7
    have hd : 1 ≤ d := Nat.le_of_ble_eq_true b1
    have h8 : am_cat r ≤ 8 := Nat.le_of_ble_eq_true b2
    have hR := X.2.2.2.2.2.2.2.1
    have hR2 := X.2.2.2.2.2.2.2.2.1
    have hc0 := (hr.1.1 a0 ha0 20 m0 hm0).2.1 (Or.inl rfl)
    have hc1 := (hr.1.1 a ha 20 m1 hm1).2.1 (Or.inl rfl)
    obtain ⟨-, k0, hk0, cm0, hkk0⟩ := sm_ar (n := m0) hS 0 rfl (fun j => .int (M.2.1 a0 j))
    obtain ⟨-, k1, hk1, cm1, hkk1⟩ := sm_ar (n := m1) hS 0 rfl (fun j => .int (M.2.1 a j))
    rw [List.map_cons, List.map_cons, List.map_cons, List.map_cons, List.map_cons, sm_v5 ha, sm_v5 ha0]
    intro T hT Y
    obtain ⟨vm', Y', step⟩ := Y.arraycopy X.1 X.2.2.2.1 (X.2.2.2.2.1 _ hf) (X.2.2.2.2.1 _ cl_ac.1) (X.2.2.2.2.1 _ cl_ac.2.1) (X.2.2.2.2.1 _ cl_ac.2.2) (src := sm_a G a0) (dst := sm_a G a) (cs := vp_cell (sm_c G 20) (m0, .inl (M.2.1 a0))) (cd := vp_cell (sm_c G 20) (m1, .inl (M.2.1 a))) (srcPos := sp) (destPos := dp) (n := n) (by rw [hT]; exact hc0) (by rw [hT]; exact hc1)
      (fun _ h => by cases h) (fun _ h => by cases h) (fun h => by cases h) (fun h => by cases h) hk0 hk1 hkk0 hkk1 (by simp [refKind]) p1 p2 p3
      (by rw [sm_nn p1, sm_nn p3]; show ¬ _ > ((arrV (sm_c G 20) m0 (fun j => .int (M.2.1 a0 j))).slots.size : Int); rw [arrV_size]; omega)
      (by rw [sm_nn p2, sm_nn p3]; show ¬ _ > ((arrV (sm_c G 20) m1 (fun j => .int (M.2.1 a j))).slots.size : Int); rw [arrV_size]; omega)
      (fun vm₁ _ i hi => by
        have e : (vp_cell (sm_c G 20) (m0, .inl (M.2.1 a0))).slots.getD (sp.toNatClampNeg + i) .null = .int (M.2.1 a0 (sp.toNatClampNeg + i)) := by
          show (arrV (sm_c G 20) m0 (fun j => .int (M.2.1 a0 j))).slots.getD _ _ = _
          rw [Array.getD_eq_getD_getElem?, arrV_read _ _ (by omega)]
          rfl
        refine ⟨?_, ?_⟩
        · rw [e]
          rfl
        · rw [e]
          exact trivial)
      (g := F0 mI pc ls (.int n :: .int dp :: .ref (sm_a G a) :: .int sp :: .ref (sm_a G a0) :: r.map (sm_v G))) rfl (by rw [X.2.2.1, hl.2.1]) (rest := r.map (sm_v G)) rfl (by rw [X.2.1]; exact hdg) (by omega) (by show 2 * 0 + _ + (nativeFrameWords "java/lang/System" "arraycopy" 5 + 11) ≤ _; rw [sm_catm hP, show nativeFrameWords "java/lang/System" "arraycopy" 5 = 7 by decide]; omega)
    have ec : copied (vp_cell (sm_c G 20) (m0, .inl (M.2.1 a0))) (vp_cell (sm_c G 20) (m1, .inl (M.2.1 a))) sp dp n = vp_cell (sm_c G 20) (m1, .inl (va_cpy (M.2.1 a0) (M.2.1 a) sp.toNatClampNeg dp.toNatClampNeg n.toNatClampNeg)) := va_copied (fun z => .int z) (sm_c G 20) (sm_c G 20) (M.2.1 a0) (M.2.1 a) p4
    rw [ec] at Y' step
    have hlt : sm_a G a < H.size := (Array.getElem?_eq_some_iff.mp hc1).1
    have oq : ∀ q : Nat, q ≠ sm_a G a → (H.setIfInBounds (sm_a G a) (vp_cell (sm_c G 20) (m1, .inl (va_cpy (M.2.1 a0) (M.2.1 a) sp.toNatClampNeg dp.toNatClampNeg n.toNatClampNeg))))[q]? = H[q]? := fun q hq => by simp [Array.getElem?_setIfInBounds, Ne.symm hq]
    have oth : ∀ k, k ≠ a → ∀ i, am_u1 M.2.1 a (va_cpy (M.2.1 a0) (M.2.1 a) sp.toNatClampNeg dp.toNatClampNeg n.toNatClampNeg) k i = M.2.1 k i ∧ M.2.2.1 k i = M.2.2.1 k i ∧ M.2.2.2 k i = M.2.2.2 k i := fun k hk i => ⟨if_neg hk, rfl, rfl⟩
    have hr1 : ∀ locs1, (∀ q ∈ locs1, q.base = sm_a G a) → sm_rl G (M.1, am_u1 M.2.1 a (va_cpy (M.2.1 a0) (M.2.1 a) sp.toNatClampNeg dp.toNatClampNeg n.toNatClampNeg), M.2.2.1, M.2.2.2) s (H.setIfInBounds (sm_a G a) (vp_cell (sm_c G 20) (m1, .inl (va_cpy (M.2.1 a0) (M.2.1 a) sp.toNatClampNeg dp.toNatClampNeg n.toNatClampNeg)))) (locs ++ locs1) := by
      intro locs1 hb
      refine ⟨sm_hp_set hP hr.1 ha rfl oth (by simp) oq ?_, sm_fr_set hr.2.1 ha rfl oth (fun i w hw => hr.2.1.2.2.2.2.2.2 a i w ha hw), ⟨by simp; exact hr.2.2.1, fun q q1 q2 => ?_, fun q hq => ?_⟩⟩
      · intro c2 n2 hcn
        have hcn : M.1[a]? = some (c2, n2) := hcn
        rw [hm1] at hcn
        cases hcn
        refine ⟨fun h => by omega, fun _ => ?_, fun h => by omega, Or.inr (by omega)⟩
        have e0 : (H.setIfInBounds (sm_a G a) (vp_cell (sm_c G 20) (m1, .inl (va_cpy (M.2.1 a0) (M.2.1 a) sp.toNatClampNeg dp.toNatClampNeg n.toNatClampNeg))))[sm_a G a]? = some (vp_cell (sm_c G 20) (m1, .inl (va_cpy (M.2.1 a0) (M.2.1 a) sp.toNatClampNeg dp.toNatClampNeg n.toNatClampNeg))) := by simp [Array.getElem?_setIfInBounds, hlt]
        rw [e0, vp_cell_i]
        congr 2
        funext i
        have e1 : am_u1 M.2.1 a (va_cpy (M.2.1 a0) (M.2.1 a) sp.toNatClampNeg dp.toNatClampNeg n.toNatClampNeg) a i = va_cpy (M.2.1 a0) (M.2.1 a) sp.toNatClampNeg dp.toNatClampNeg n.toNatClampNeg i := if_pos rfl
        exact congrArg Value.int e1.symm
      · rw [oq q (fun e => q2 (by rw [e]; exact sm_aA hP ha))]
        exact hr.2.2.2.1 q q1 q2
      · rcases List.mem_append.mp hq with h | h
        · exact hr.2.2.2.2 q h
        · rw [hb q h]
          exact sm_aA hP ha
    have hw : ∀ locs1, (∀ q ∈ locs1, q.base = sm_a G a) → W p l e R s mI args below meth c (H.setIfInBounds (sm_a G a) (vp_cell (sm_c G 20) (m1, .inl (va_cpy (M.2.1 a0) (M.2.1 a) sp.toNatClampNeg dp.toNatClampNeg n.toNatClampNeg)))) (locs ++ locs1) cells slots Q (F0 mI (pc + 3) ls (r.map (sm_v G))) := by
      intro locs1 hb
      have := k _ _ ls (hr1 locs1 hb) hl
      simp only [am_sz, Nat.sub_self, Nat.add_zero] at this
      exact this
    have key := fun hb => hw _ hb _ (by rw [← hT]; rfl) Y'
    obtain ⟨t, a1, b1⟩ := key (fun q hq => by
      obtain ⟨z, -, hz⟩ := List.mem_map.mp hq
      rw [← hz])
    exact ⟨t, step t a1, b1⟩
  · cases hq
end SM7
end
section
/-! THE SIMULATION, 8: all instructions that go on; jumps; ends -/
section SM8
variable {G : sm_G} {p : Program} {l : Launch} {e : Env} {R : Room} {s : State} {mI : MethodId} {args : Array Value} {below : List Frame} {meth : Method} {c : Code} {H H1 : Heap} {locs : List Loc} {cells slots : Nat} {Q : State → Prop} {m d pc : Nat} {ls : Array Slot} {M M1 : am_M} {L L1 : am_L} {S S1 : List Value}
theorem sm_oi {n : Nat} (X : sm_cx G p R s mI args meth c m d) (hr : sm_rl G M s H locs) (hl : sm_L G L ls (am_mx m)) (hdg : decode (am_cd m) pc = .ok (.invokespecial n, 3)) (hf : Cond.methodLink (am_nm m).cls n objectInit ∈ am_W) (hq : am_oi d M L S = some (true, M1, L1, S1)) (k : sm_nx G p l e R s mI args below meth c cells slots Q m (pc + 3) M M1 L1 S1) : W p l e R s mI args below meth c H locs cells slots Q (F0 mI pc ls (S.map (sm_v G))) := by
  unfold am_oi at hq
  split at hq
  · rename_i a
    simp only [Option.some.injEq, Prod.mk.injEq] at hq
    obtain ⟨h0, rfl, rfl, rfl⟩ := hq
    rw [Bool.and_eq_true] at h0
    have hd : 1 ≤ d := Nat.le_of_ble_eq_true h0.1
    have ha : 5 ≤ a := Nat.le_of_ble_eq_true h0.2
    have hR := X.2.2.2.2.2.2.2.1
    have hR2 := X.2.2.2.2.2.2.2.2.1
    have kk := k.same hr hl
    rw [List.map_cons, sm_v5 ha]
    exact W.objInit X.1 X.2.1 X.2.2.2.1 (X.2.2.2.2.1 _ hf) (X.2.2.2.2.1 _ cl_oi.1) (X.2.2.2.2.1 _ cl_oi.2) rfl (by rw [X.2.2.1]; exact hl.2.1) rfl hdg (by omega) (by show 2 * 0 + 0 + 12 ≤ _; omega) kk
  · cases hq
theorem sm_s1 {i : am_P} (X : sm_cx G p R s mI args meth c m d) (hr : sm_rl G M s H locs) (hl : sm_L G L ls (am_mx m)) (hsr : am_srt i = 0) (hck : am_chk m pc i = true) (hq : am_s1 d i M L S = some (true, M1, L1, S1)) (hcl : cells + (M1.1.length - M.1.length) ≤ R.cells) (hsl : slots + (am_sz M1 - am_sz M) ≤ R.slots) (k : sm_nx G p l e R s mI args below meth c cells slots Q m (pc + am_len i) M M1 L1 S1) : W p l e R s mI args below meth c H locs cells slots Q (F0 mI pc ls (S.map (sm_v G))) := by
  obtain ⟨ins, ⟨ln, sr, x, y, z, w⟩, im, tb⟩ := i
  have hsr : sr = 0 := hsr
  subst hsr
  simp only [am_chk, Bool.and_eq_true, decide_eq_true_eq] at hck
  obtain ⟨hdg, hck⟩ := hck
  have hcs : cells ≤ R.cells ∧ slots ≤ R.slots := ⟨by omega, by omega⟩
  cases ins with
  | iadd =>
    have hn : ln = 1 := Nat.eq_of_beq_eq_true hck
    subst hn
    exact sm_iadd X hr hl hdg hq k
  | isub =>
    have hn : ln = 1 := Nat.eq_of_beq_eq_true hck
    subst hn
    exact sm_isub X hr hl hdg hq k
  | imul =>
    have hn : ln = 1 := Nat.eq_of_beq_eq_true hck
    subst hn
    exact sm_imul X hr hl hdg hq k
  | iand =>
    have hn : ln = 1 := Nat.eq_of_beq_eq_true hck
    subst hn
    exact sm_iand X hr hl hdg hq k
  | ior =>
    have hn : ln = 1 := Nat.eq_of_beq_eq_true hck
    subst hn
    exact sm_ior X hr hl hdg hq k
  | ishl =>
    have hn : ln = 1 := Nat.eq_of_beq_eq_true hck
    subst hn
    exact sm_ishl X hr hl hdg hq k
  | ishr =>
    have hn : ln = 1 := Nat.eq_of_beq_eq_true hck
    subst hn
    exact sm_ishr X hr hl hdg hq k
  | iushr =>
    have hn : ln = 1 := Nat.eq_of_beq_eq_true hck
    subst hn
    exact sm_iushr X hr hl hdg hq k
  | idiv =>
    have hn : ln = 1 := Nat.eq_of_beq_eq_true hck
    subst hn
    exact sm_idiv X hr hl hdg hq k
  | irem =>
    have hn : ln = 1 := Nat.eq_of_beq_eq_true hck
    subst hn
    exact sm_irem X hr hl hdg hq k
  | ineg =>
    have hn : ln = 1 := Nat.eq_of_beq_eq_true hck
    subst hn
    exact sm_ineg X hr hl hdg hq k
  | i2b =>
    have hn : ln = 1 := Nat.eq_of_beq_eq_true hck
    subst hn
    exact sm_i2b X hr hl hdg hq k
  | i2s =>
    have hn : ln = 1 := Nat.eq_of_beq_eq_true hck
    subst hn
    exact sm_i2s X hr hl hdg hq k
  | i2c =>
    have hn : ln = 1 := Nat.eq_of_beq_eq_true hck
    subst hn
    exact sm_i2c X hr hl hdg hq k
  | ladd =>
    have hn : ln = 1 := Nat.eq_of_beq_eq_true hck
    subst hn
    exact sm_ladd X hr hl hdg hq k
  | lsub =>
    have hn : ln = 1 := Nat.eq_of_beq_eq_true hck
    subst hn
    exact sm_lsub X hr hl hdg hq k
  | lmul =>
    have hn : ln = 1 := Nat.eq_of_beq_eq_true hck
    subst hn
    exact sm_lmul X hr hl hdg hq k
  | ldiv =>
    have hn : ln = 1 := Nat.eq_of_beq_eq_true hck
    subst hn
    exact sm_ldiv X hr hl hdg hq k
  | lrem =>
    have hn : ln = 1 := Nat.eq_of_beq_eq_true hck
    subst hn
    exact sm_lrem X hr hl hdg hq k
  | lcmp =>
    have hn : ln = 1 := Nat.eq_of_beq_eq_true hck
    subst hn
    exact sm_lcmp X hr hl hdg hq k
  | i2l =>
    have hn : ln = 1 := Nat.eq_of_beq_eq_true hck
    subst hn
    exact sm_i2l X hr hl hdg hq k
  | l2i =>
    have hn : ln = 1 := Nat.eq_of_beq_eq_true hck
    subst hn
    exact sm_l2i X hr hl hdg hq k
  | dup =>
    have hn : ln = 1 := Nat.eq_of_beq_eq_true hck
    subst hn
    exact sm_dup X hr hl hdg hq k
  | dup2 =>
    have hn : ln = 1 := Nat.eq_of_beq_eq_true hck
    subst hn
    exact sm_dup2 X hr hl hdg hq k
  | pop =>
    have hn : ln = 1 := Nat.eq_of_beq_eq_true hck
    subst hn
    exact sm_pop X hr hl hdg hq k
  | aconst_null =>
    have hn : ln = 1 := Nat.eq_of_beq_eq_true hck
    subst hn
    exact sm_null X hr hl hdg hq k
  | iaload =>
    have hn : ln = 1 := Nat.eq_of_beq_eq_true hck
    subst hn
    exact sm_iald X hr hl hdg hq k
  | iastore =>
    have hn : ln = 1 := Nat.eq_of_beq_eq_true hck
    subst hn
    exact sm_iast X hr hl hdg hq k
  | bastore =>
    have hn : ln = 1 := Nat.eq_of_beq_eq_true hck
    subst hn
    exact sm_bast X hr hl hdg hq k
  | arraylength =>
    have hn : ln = 1 := Nat.eq_of_beq_eq_true hck
    subst hn
    exact sm_alen X hr hl hdg hq k
  | aload_n n =>
    simp only [Bool.and_eq_true] at hck
    have hn : ln = 1 := Nat.eq_of_beq_eq_true hck.1
    subst hn
    exact sm_aload_n X hr hl hdg (Nat.eq_of_beq_eq_true hck.2) hq k
  | aload n =>
    simp only [Bool.and_eq_true] at hck
    have hn : ln = 2 := Nat.eq_of_beq_eq_true hck.1
    have hx : n = x := Nat.eq_of_beq_eq_true hck.2
    subst hn
    subst hx
    exact sm_aload X hr hl hdg hq k
  | iload_n n =>
    simp only [Bool.and_eq_true] at hck
    have hn : ln = 1 := Nat.eq_of_beq_eq_true hck.1
    subst hn
    exact sm_iload_n X hr hl hdg (Nat.eq_of_beq_eq_true hck.2) hq k
  | iload n =>
    simp only [Bool.and_eq_true] at hck
    have hn : ln = 2 := Nat.eq_of_beq_eq_true hck.1
    have hx : n = x := Nat.eq_of_beq_eq_true hck.2
    subst hn
    subst hx
    exact sm_iload X hr hl hdg hq k
  | lload_n n =>
    simp only [Bool.and_eq_true] at hck
    have hn : ln = 1 := Nat.eq_of_beq_eq_true hck.1
    subst hn
    exact sm_lload_n X hr hl hdg (Nat.eq_of_beq_eq_true hck.2) hq k
  | lload n =>
    simp only [Bool.and_eq_true] at hck
    have hn : ln = 2 := Nat.eq_of_beq_eq_true hck.1
    have hx : n = x := Nat.eq_of_beq_eq_true hck.2
    subst hn
    subst hx
    exact sm_lload X hr hl hdg hq k
  | astore_n n =>
    simp only [Bool.and_eq_true] at hck
    have hn : ln = 1 := Nat.eq_of_beq_eq_true hck.1
    subst hn
    exact sm_astore_n X hr hl hdg (Nat.eq_of_beq_eq_true hck.2) hq k
  | astore n =>
    simp only [Bool.and_eq_true] at hck
    have hn : ln = 2 := Nat.eq_of_beq_eq_true hck.1
    have hx : n = x := Nat.eq_of_beq_eq_true hck.2
    subst hn
    subst hx
    exact sm_astore X hr hl hdg hq k
  | istore_n n =>
    simp only [Bool.and_eq_true] at hck
    have hn : ln = 1 := Nat.eq_of_beq_eq_true hck.1
    subst hn
    exact sm_istore_n X hr hl hdg (Nat.eq_of_beq_eq_true hck.2) hq k
  | istore n =>
    simp only [Bool.and_eq_true] at hck
    have hn : ln = 2 := Nat.eq_of_beq_eq_true hck.1
    have hx : n = x := Nat.eq_of_beq_eq_true hck.2
    subst hn
    subst hx
    exact sm_istore X hr hl hdg hq k
  | lstore_n n =>
    simp only [Bool.and_eq_true] at hck
    have hn : ln = 1 := Nat.eq_of_beq_eq_true hck.1
    subst hn
    exact sm_lstore_n X hr hl hdg (Nat.eq_of_beq_eq_true hck.2) hq k
  | lstore n =>
    simp only [Bool.and_eq_true] at hck
    have hn : ln = 2 := Nat.eq_of_beq_eq_true hck.1
    have hx : n = x := Nat.eq_of_beq_eq_true hck.2
    subst hn
    subst hx
    exact sm_lstore X hr hl hdg hq k
  | iinc n v =>
    simp only [Bool.and_eq_true, decide_eq_true_eq] at hck
    have hn : ln = 3 := Nat.eq_of_beq_eq_true hck.1
    have hx : n = x := Nat.eq_of_beq_eq_true hck.2.1
    subst hn
    subst hx
    exact sm_iinc X hr hl hdg hck.2.2 hq k
  | iconst v =>
    simp only [Bool.and_eq_true, decide_eq_true_eq] at hck
    have hn : ln = 1 := Nat.eq_of_beq_eq_true hck.1
    subst hn
    exact sm_iconst X hr hl hdg hck.2 hq k
  | bipush v =>
    simp only [Bool.and_eq_true, decide_eq_true_eq] at hck
    have hn : ln = 2 := Nat.eq_of_beq_eq_true hck.1
    subst hn
    exact sm_bipush X hr hl hdg hck.2 hq k
  | sipush v =>
    simp only [Bool.and_eq_true, decide_eq_true_eq] at hck
    have hn : ln = 3 := Nat.eq_of_beq_eq_true hck.1
    subst hn
    exact sm_sipush X hr hl hdg hck.2 hq k
  | lconst v =>
    simp only [Bool.and_eq_true, decide_eq_true_eq] at hck
    have hn : ln = 1 := Nat.eq_of_beq_eq_true hck.1
    subst hn
    exact sm_lconst X hr hl hdg hck.2 hq k
  | ldc n =>
    simp only [Bool.and_eq_true] at hck
    have hn : ln = 2 := Nat.eq_of_beq_eq_true hck.1
    subst hn
    have h2 := hck.2
    cases hw : Nat.beq w 1 with
    | true =>
      have hq : am_psh (cond (Nat.beq w 1) (.ref 2) (.int im)) M L S = some (true, M1, L1, S1) := hq
      rw [hw] at h2 hq
      simp only [cond_true, Bool.and_eq_true, decide_eq_true_eq] at h2 hq
      have hx : n = 52 := Nat.eq_of_beq_eq_true h2.2
      subst hx
      exact sm_ldcS X hr hl h2.1 hdg hq k
    | false =>
      have hq : am_psh (cond (Nat.beq w 1) (.ref 2) (.int im)) M L S = some (true, M1, L1, S1) := hq
      rw [hw] at h2 hq
      simp only [cond_false] at h2 hq
      exact sm_ldc X hr hl hdg (am_lk_in h2) hq k
  | ldc_w n =>
    simp only [Bool.and_eq_true] at hck
    have hn : ln = 3 := Nat.eq_of_beq_eq_true hck.1
    subst hn
    exact sm_ldcw X hr hl hdg (am_lk_in hck.2) hq k
  | ldc2_w n =>
    simp only [Bool.and_eq_true] at hck
    have hn : ln = 3 := Nat.eq_of_beq_eq_true hck.1
    subst hn
    exact sm_ldc2 X hr hl hdg (am_lk_in hck.2) hq k
  | getfield n =>
    simp only [Bool.and_eq_true] at hck
    have hn : ln = 3 := Nat.eq_of_beq_eq_true hck.1
    subst hn
    have h2 := hck.2
    cases hx : Nat.beq x 26 with
    | true =>
      rw [hx] at h2
      have hx : x = 26 := Nat.eq_of_beq_eq_true hx
      subst hx
      simp only [cond_true] at h2
      cases hy : Nat.beq y 0 with
      | true =>
        rw [hy] at h2
        simp only [cond_true, Bool.and_eq_true] at h2
        exact sm_getS X hr hl hdg (Or.inl ⟨Nat.eq_of_beq_eq_true hy, Nat.eq_of_beq_eq_true h2.1, am_lk_in h2.2⟩) hq k
      | false =>
        rw [hy] at h2
        simp only [cond_false, Bool.and_eq_true] at h2
        exact sm_getS X hr hl hdg (Or.inr ⟨Nat.eq_of_beq_eq_true h2.1, Nat.eq_of_beq_eq_true h2.2.1, am_lk_in h2.2.2⟩) hq k
    | false =>
      rw [hx] at h2
      exact sm_getf X hr hl hdg h2 hq k
  | putfield n =>
    simp only [Bool.and_eq_true] at hck
    have hn : ln = 3 := Nat.eq_of_beq_eq_true hck.1
    subst hn
    exact sm_putf X hr hl hdg hck.2 hq k
  | getstatic n =>
    simp only [Bool.and_eq_true] at hck
    have hn : ln = 3 := Nat.eq_of_beq_eq_true hck.1
    subst hn
    have h2 := hck.2
    match x, h2, hq with
    | 0, h2, hq => exact sm_gets0 X hr hl hdg (am_nk_in h2) hq k
    | 1, h2, hq => exact sm_gets1 X hr hl hdg (am_lk_in h2) hq k
    | x + 2, h2, hq => exact sm_gets2 X hr hl hdg (am_lk_in h2) hq k
  | baload =>
    simp only [Bool.and_eq_true, Bool.or_eq_true] at hck
    have hn : ln = 1 := Nat.eq_of_beq_eq_true hck.1
    subst hn
    exact sm_bald (hck.2.imp Nat.eq_of_beq_eq_true Nat.eq_of_beq_eq_true) X hr hl hdg hq k
  | aaload =>
    simp only [Bool.and_eq_true] at hck
    have hn : ln = 1 := Nat.eq_of_beq_eq_true hck.1
    subst hn
    exact sm_aald (Nat.le_of_ble_eq_true hck.2.1) (Nat.le_of_ble_eq_true hck.2.2) X hr hl hdg hq k
  | aastore =>
    simp only [Bool.and_eq_true, decide_eq_true_eq] at hck
    have hn : ln = 1 := Nat.eq_of_beq_eq_true hck.1
    subst hn
    exact sm_aast (Nat.le_of_ble_eq_true hck.2.1) (Nat.le_of_ble_eq_true hck.2.2.1) hck.2.2.2 X hr hl hdg hq k
  | newarray t =>
    simp only [Bool.and_eq_true] at hck
    have hn : ln = 2 := Nat.eq_of_beq_eq_true hck.1
    subst hn
    have h2 := hck.2
    cases t with
    | int => exact sm_newa (Or.inl ⟨rfl, Nat.eq_of_beq_eq_true h2⟩) X hr hl hdg hq hcl hsl k
    | boolean => exact sm_newa (Or.inr ⟨rfl, Nat.eq_of_beq_eq_true h2⟩) X hr hl hdg hq hcl hsl k
    | _ => cases h2
  | anewarray n =>
    simp only [Bool.and_eq_true] at hck
    have hn : ln = 3 := Nat.eq_of_beq_eq_true hck.1
    subst hn
    exact sm_anew (Nat.le_of_ble_eq_true hck.2.1) (Nat.le_of_ble_eq_true hck.2.2.1) X hr hl hdg (am_lk_in hck.2.2.2) hq hcl hsl k
  | new n =>
    simp only [Bool.and_eq_true] at hck
    have hn : ln = 3 := Nat.eq_of_beq_eq_true hck.1
    subst hn
    have h2 := hck.2
    split at h2
    · rename_i q hqc
      simp only [Bool.and_eq_true] at h2
      exact sm_newo hqc (Nat.eq_of_beq_eq_true h2.1) X hr hl hdg (am_lk_in h2.2) hq hcl hsl k
    · cases h2
  | invokespecial n =>
    simp only [Bool.and_eq_true] at hck
    have hn : ln = 3 := Nat.eq_of_beq_eq_true hck.1
    subst hn
    exact sm_oi X hr hl hdg (am_lk_in hck.2) hq k
  | invokestatic n =>
    simp only [Bool.and_eq_true] at hck
    have hn : ln = 3 := Nat.eq_of_beq_eq_true hck.1
    subst hn
    have h2 := hck.2
    match w, h2, hq with
    | 0, h2, hq => exact sm_acp X hr hl hdg (am_lk_in h2) hq k
    | 1, h2, hq => exact sm_mmax X hr hl hdg (am_lk_in h2) hcs hq k
    | 2, h2, hq => exact sm_mmin X hr hl hdg (am_lk_in h2) hcs hq k
    | w + 3, h2, hq => exact sm_mabs X hr hl hdg (am_lk_in h2) hcs hq k
  | _ => cases hq
end SM8
end
section
/-! THE SIMULATION, 9: memories grow; a failed check stays failed; jumps -/
def gr_ (M M1 : am_M) : Prop := M.1.length ≤ M1.1.length ∧ am_sz M ≤ am_sz M1
theorem gr_same {M M1 : am_M} (h : M1.1 = M.1) : gr_ M M1 := ⟨by rw [h]; exact Nat.le_refl _, by unfold am_sz; rw [h]; exact Nat.le_refl _⟩
theorem gr_nw (c n : Nat) (M : am_M) : gr_ M (am_nw c n M) := by
  refine ⟨?_, ?_⟩
  · show _ ≤ (M.1 ++ [(c, n)]).length
    rw [List.length_append]
    omega
  · unfold am_sz
    show _ ≤ ((M.1 ++ [(c, n)]).map (fun q => q.2)).sum
    rw [List.map_append, List.sum_append]
    omega
theorem gr_trans {A B C : am_M} (h : gr_ A B) (h2 : gr_ B C) : gr_ A C := ⟨Nat.le_trans h.1 h2.1, Nat.le_trans h.2 h2.2⟩
theorem gr_ld {t x : Nat}  {M : am_M} {L : am_L} {S : List Value} {q : Bool × am_M × am_L × List Value} (h : am_ld t x M L S = some q) : gr_ M q.2.1 := by
  unfold am_ld at h
  (try simp only [cond_eq_ite] at h)
  repeat' split at h
  all_goals first | (cases h; exact gr_same rfl) | (cases h; exact gr_nw _ _ _) | cases h
theorem gr_so {t x : Nat}  {M : am_M} {L : am_L} {S : List Value} {q : Bool × am_M × am_L × List Value} (h : am_so t x M L S = some q) : gr_ M q.2.1 := by
  unfold am_so at h
  (try simp only [cond_eq_ite] at h)
  repeat' split at h
  all_goals first | (cases h; exact gr_same rfl) | (cases h; exact gr_nw _ _ _) | cases h
theorem gr_so2 {x : Nat}  {M : am_M} {L : am_L} {S : List Value} {q : Bool × am_M × am_L × List Value} (h : am_so2 x M L S = some q) : gr_ M q.2.1 := by
  unfold am_so2 at h
  (try simp only [cond_eq_ite] at h)
  repeat' split at h
  all_goals first | (cases h; exact gr_same rfl) | (cases h; exact gr_nw _ _ _) | cases h
theorem gr_inc {x : Nat} {z : Int32} {M : am_M} {L : am_L} {S : List Value} {q : Bool × am_M × am_L × List Value} (h : am_inc x z M L S = some q) : gr_ M q.2.1 := by
  unfold am_inc at h
  (try simp only [cond_eq_ite] at h)
  repeat' split at h
  all_goals first | (cases h; exact gr_same rfl) | (cases h; exact gr_nw _ _ _) | cases h
theorem gr_psh  {v : Value} {M : am_M} {L : am_L} {S : List Value} {q : Bool × am_M × am_L × List Value} (h : am_psh v M L S = some q) : gr_ M q.2.1 := by
  unfold am_psh at h
  (try simp only [cond_eq_ite] at h)
  repeat' split at h
  all_goals first | (cases h; exact gr_same rfl) | (cases h; exact gr_nw _ _ _) | cases h
theorem gr_b2  {g : Int32 → Int32 → Int32} {M : am_M} {L : am_L} {S : List Value} {q : Bool × am_M × am_L × List Value} (h : am_b2 g M L S = some q) : gr_ M q.2.1 := by
  unfold am_b2 at h
  (try simp only [cond_eq_ite] at h)
  repeat' split at h
  all_goals first | (cases h; exact gr_same rfl) | (cases h; exact gr_nw _ _ _) | cases h
theorem gr_d2  {g : Int32 → Int32 → Int32} {M : am_M} {L : am_L} {S : List Value} {q : Bool × am_M × am_L × List Value} (h : am_d2 g M L S = some q) : gr_ M q.2.1 := by
  unfold am_d2 at h
  (try simp only [cond_eq_ite] at h)
  repeat' split at h
  all_goals first | (cases h; exact gr_same rfl) | (cases h; exact gr_nw _ _ _) | cases h
theorem gr_b1  {g : Int32 → Int32} {M : am_M} {L : am_L} {S : List Value} {q : Bool × am_M × am_L × List Value} (h : am_b1 g M L S = some q) : gr_ M q.2.1 := by
  unfold am_b1 at h
  (try simp only [cond_eq_ite] at h)
  repeat' split at h
  all_goals first | (cases h; exact gr_same rfl) | (cases h; exact gr_nw _ _ _) | cases h
theorem gr_l2  {g : Int64 → Int64 → Int64} {M : am_M} {L : am_L} {S : List Value} {q : Bool × am_M × am_L × List Value} (h : am_l2 g M L S = some q) : gr_ M q.2.1 := by
  unfold am_l2 at h
  (try simp only [cond_eq_ite] at h)
  repeat' split at h
  all_goals first | (cases h; exact gr_same rfl) | (cases h; exact gr_nw _ _ _) | cases h
theorem gr_e2  {g : Int64 → Int64 → Int64} {M : am_M} {L : am_L} {S : List Value} {q : Bool × am_M × am_L × List Value} (h : am_e2 g M L S = some q) : gr_ M q.2.1 := by
  unfold am_e2 at h
  (try simp only [cond_eq_ite] at h)
  repeat' split at h
  all_goals first | (cases h; exact gr_same rfl) | (cases h; exact gr_nw _ _ _) | cases h
theorem gr_cmp   {M : am_M} {L : am_L} {S : List Value} {q : Bool × am_M × am_L × List Value} (h : am_cmp  M L S = some q) : gr_ M q.2.1 := by
  unfold am_cmp at h
  (try simp only [cond_eq_ite] at h)
  repeat' split at h
  all_goals first | (cases h; exact gr_same rfl) | (cases h; exact gr_nw _ _ _) | cases h
theorem gr_i2l   {M : am_M} {L : am_L} {S : List Value} {q : Bool × am_M × am_L × List Value} (h : am_i2l  M L S = some q) : gr_ M q.2.1 := by
  unfold am_i2l at h
  (try simp only [cond_eq_ite] at h)
  repeat' split at h
  all_goals first | (cases h; exact gr_same rfl) | (cases h; exact gr_nw _ _ _) | cases h
theorem gr_l2i   {M : am_M} {L : am_L} {S : List Value} {q : Bool × am_M × am_L × List Value} (h : am_l2i  M L S = some q) : gr_ M q.2.1 := by
  unfold am_l2i at h
  (try simp only [cond_eq_ite] at h)
  repeat' split at h
  all_goals first | (cases h; exact gr_same rfl) | (cases h; exact gr_nw _ _ _) | cases h
theorem gr_dup   {M : am_M} {L : am_L} {S : List Value} {q : Bool × am_M × am_L × List Value} (h : am_dup  M L S = some q) : gr_ M q.2.1 := by
  unfold am_dup at h
  (try simp only [cond_eq_ite] at h)
  repeat' split at h
  all_goals first | (cases h; exact gr_same rfl) | (cases h; exact gr_nw _ _ _) | cases h
theorem gr_dp2   {M : am_M} {L : am_L} {S : List Value} {q : Bool × am_M × am_L × List Value} (h : am_dp2  M L S = some q) : gr_ M q.2.1 := by
  unfold am_dp2 at h
  (try simp only [cond_eq_ite] at h)
  repeat' split at h
  all_goals first | (cases h; exact gr_same rfl) | (cases h; exact gr_nw _ _ _) | cases h
theorem gr_pop1   {M : am_M} {L : am_L} {S : List Value} {q : Bool × am_M × am_L × List Value} (h : am_pop1  M L S = some q) : gr_ M q.2.1 := by
  unfold am_pop1 at h
  (try simp only [cond_eq_ite] at h)
  repeat' split at h
  all_goals first | (cases h; exact gr_same rfl) | (cases h; exact gr_nw _ _ _) | cases h
theorem gr_gf {c k w : Nat}  {M : am_M} {L : am_L} {S : List Value} {q : Bool × am_M × am_L × List Value} (h : am_gf c k w M L S = some q) : gr_ M q.2.1 := by
  unfold am_gf at h
  (try simp only [cond_eq_ite] at h)
  repeat' split at h
  all_goals first | (cases h; exact gr_same rfl) | (cases h; exact gr_nw _ _ _) | cases h
theorem gr_pf {c k w : Nat}  {M : am_M} {L : am_L} {S : List Value} {q : Bool × am_M × am_L × List Value} (h : am_pf c k w M L S = some q) : gr_ M q.2.1 := by
  unfold am_pf at h
  (try simp only [cond_eq_ite] at h)
  repeat' split at h
  all_goals first | (cases h; exact gr_same rfl) | (cases h; exact gr_nw _ _ _) | cases h
theorem gr_ia {c : Nat}  {M : am_M} {L : am_L} {S : List Value} {q : Bool × am_M × am_L × List Value} (h : am_ia c M L S = some q) : gr_ M q.2.1 := by
  unfold am_ia at h
  (try simp only [cond_eq_ite] at h)
  repeat' split at h
  all_goals first | (cases h; exact gr_same rfl) | (cases h; exact gr_nw _ _ _) | cases h
theorem gr_aa {c : Nat}  {M : am_M} {L : am_L} {S : List Value} {q : Bool × am_M × am_L × List Value} (h : am_aa c M L S = some q) : gr_ M q.2.1 := by
  unfold am_aa at h
  (try simp only [cond_eq_ite] at h)
  repeat' split at h
  all_goals first | (cases h; exact gr_same rfl) | (cases h; exact gr_nw _ _ _) | cases h
theorem gr_is   {M : am_M} {L : am_L} {S : List Value} {q : Bool × am_M × am_L × List Value} (h : am_is  M L S = some q) : gr_ M q.2.1 := by
  unfold am_is at h
  (try simp only [cond_eq_ite] at h)
  repeat' split at h
  all_goals first | (cases h; exact gr_same rfl) | (cases h; exact gr_nw _ _ _) | cases h
theorem gr_bs   {M : am_M} {L : am_L} {S : List Value} {q : Bool × am_M × am_L × List Value} (h : am_bs  M L S = some q) : gr_ M q.2.1 := by
  unfold am_bs at h
  (try simp only [cond_eq_ite] at h)
  repeat' split at h
  all_goals first | (cases h; exact gr_same rfl) | (cases h; exact gr_nw _ _ _) | cases h
theorem gr_as {c y : Nat}  {M : am_M} {L : am_L} {S : List Value} {q : Bool × am_M × am_L × List Value} (h : am_as c y M L S = some q) : gr_ M q.2.1 := by
  unfold am_as at h
  (try simp only [cond_eq_ite] at h)
  repeat' split at h
  all_goals first | (cases h; exact gr_same rfl) | (cases h; exact gr_nw _ _ _) | cases h
theorem gr_al   {M : am_M} {L : am_L} {S : List Value} {q : Bool × am_M × am_L × List Value} (h : am_al  M L S = some q) : gr_ M q.2.1 := by
  unfold am_al at h
  (try simp only [cond_eq_ite] at h)
  repeat' split at h
  all_goals first | (cases h; exact gr_same rfl) | (cases h; exact gr_nw _ _ _) | cases h
theorem gr_na {c : Nat}  {M : am_M} {L : am_L} {S : List Value} {q : Bool × am_M × am_L × List Value} (h : am_na c M L S = some q) : gr_ M q.2.1 := by
  unfold am_na at h
  (try simp only [cond_eq_ite] at h)
  repeat' split at h
  all_goals first | (cases h; exact gr_same rfl) | (cases h; exact gr_nw _ _ _) | cases h
theorem gr_no {c n : Nat}  {M : am_M} {L : am_L} {S : List Value} {q : Bool × am_M × am_L × List Value} (h : am_no c n M L S = some q) : gr_ M q.2.1 := by
  unfold am_no at h
  (try simp only [cond_eq_ite] at h)
  repeat' split at h
  all_goals first | (cases h; exact gr_same rfl) | (cases h; exact gr_nw _ _ _) | cases h
theorem gr_oi {d : Nat}  {M : am_M} {L : am_L} {S : List Value} {q : Bool × am_M × am_L × List Value} (h : am_oi d M L S = some q) : gr_ M q.2.1 := by
  unfold am_oi at h
  (try simp only [cond_eq_ite] at h)
  repeat' split at h
  all_goals first | (cases h; exact gr_same rfl) | (cases h; exact gr_nw _ _ _) | cases h
theorem gr_cp {d : Nat}  {M : am_M} {L : am_L} {S : List Value} {q : Bool × am_M × am_L × List Value} (h : am_cp d M L S = some q) : gr_ M q.2.1 := by
  unfold am_cp at h
  (try simp only [cond_eq_ite] at h)
  repeat' split at h
  all_goals first | (cases h; exact gr_same rfl) | (cases h; exact gr_nw _ _ _) | cases h
theorem gr_ma {d w : Nat}  {M : am_M} {L : am_L} {S : List Value} {q : Bool × am_M × am_L × List Value} (h : am_ma d w M L S = some q) : gr_ M q.2.1 := by
  unfold am_ma at h
  (try simp only [cond_eq_ite] at h)
  repeat' split at h
  all_goals first | (cases h; exact gr_same rfl) | (cases h; exact gr_nw _ _ _) | cases h
theorem gr_s1 {d : Nat} {i : am_P} {M : am_M} {L : am_L} {S : List Value} {q : Bool × am_M × am_L × List Value} (h : am_s1 d i M L S = some q) : gr_ M q.2.1 := by
  obtain ⟨ins, ⟨ln, sr, x, y, z, w⟩, im, tb⟩ := i
  cases ins with
  | aload_n _ => exact gr_ld h
  | aload _ => exact gr_ld h
  | iload_n _ => exact gr_ld h
  | iload _ => exact gr_ld h
  | lload_n _ => exact gr_ld h
  | lload _ => exact gr_ld h
  | astore_n _ => exact gr_so h
  | astore _ => exact gr_so h
  | istore_n _ => exact gr_so h
  | istore _ => exact gr_so h
  | lstore_n _ => exact gr_so2 h
  | lstore _ => exact gr_so2 h
  | iinc _ _ => exact gr_inc h
  | iconst _ => exact gr_psh h
  | bipush _ => exact gr_psh h
  | sipush _ => exact gr_psh h
  | ldc _ => exact gr_psh h
  | ldc_w _ => exact gr_psh h
  | lconst _ => exact gr_psh h
  | ldc2_w _ => exact gr_psh h
  | aconst_null => exact gr_psh h
  | iadd => exact gr_b2 h
  | isub => exact gr_b2 h
  | imul => exact gr_b2 h
  | iand => exact gr_b2 h
  | ior => exact gr_b2 h
  | ishl => exact gr_b2 h
  | ishr => exact gr_b2 h
  | iushr => exact gr_b2 h
  | idiv => exact gr_d2 h
  | irem => exact gr_d2 h
  | ineg => exact gr_b1 h
  | i2b => exact gr_b1 h
  | i2s => exact gr_b1 h
  | i2c => exact gr_b1 h
  | ladd => exact gr_l2 h
  | lsub => exact gr_l2 h
  | lmul => exact gr_l2 h
  | ldiv => exact gr_e2 h
  | lrem => exact gr_e2 h
  | lcmp => exact gr_cmp h
  | i2l => exact gr_i2l h
  | l2i => exact gr_l2i h
  | dup => exact gr_dup h
  | dup2 => exact gr_dp2 h
  | pop => exact gr_pop1 h
  | getfield _ => exact gr_gf h
  | putfield _ => exact gr_pf h
  | getstatic _ => exact gr_psh h
  | iaload => exact gr_ia h
  | baload => exact gr_ia h
  | aaload => exact gr_aa h
  | iastore => exact gr_is h
  | bastore => exact gr_bs h
  | aastore => exact gr_as h
  | arraylength => exact gr_al h
  | newarray _ => exact gr_na h
  | anewarray _ => exact gr_na h
  | new _ => exact gr_no h
  | invokespecial _ => exact gr_oi h
  | invokestatic _ =>
    match w, h with
    | 0, h => exact gr_cp h
    | w + 1, h => exact gr_ma h
  | _ => cases h
theorem gr_ex {d : Nat} {J : Nat → am_M → am_L → List Value → Option am_V} {C : Nat → am_M → List Value → Option am_V} (hJ : ∀ b M L S v, J b M L S = some v → gr_ M v.2) (hC : ∀ y M as v, C y M as = some v → gr_ M v.2) : ∀ (is : List am_P) (f : Bool) (M : am_M) (L : am_L) (S : List Value) (v : am_V), am_ex d J C is f M L S = some v → gr_ M v.2 := by
  intro is
  induction is with
  | nil => intro f M L S v h; cases h
  | cons i is ih =>
    intro f M L S v h
    rw [am_ex_cons] at h
    unfold am_st at h
    generalize am_srt i = s at h
    rcases s with _ | _ | _ | s
    · unfold am_sS at h
      cases hq : am_s1 d i M L S with
      | none => rw [hq] at h; cases h
      | some q => rw [hq] at h; exact gr_trans (gr_s1 hq) (ih _ _ _ _ _ h)
    · unfold am_sS at h
      cases hq : am_s2 i S with
      | none => rw [hq] at h; cases h
      | some q =>
        rw [hq] at h
        cases f with
        | false => cases h
        | true => exact hJ _ _ _ _ _ h
    · unfold am_sS at h
      cases hq : am_s3 i M S with
      | none => rw [hq] at h; cases h
      | some q =>
        rw [hq] at h
        simp only [Option.bind_some] at h
        cases hf : (q.1 && f) with
        | false => rw [hf] at h; cases h
        | true =>
          rw [hf] at h
          simp only [cond_true] at h
          cases hc : C (am_x i) M q.2.1 with
          | none => rw [hc] at h; cases h
          | some r =>
            rw [hc] at h
            exact gr_trans (hC _ _ _ _ hc) (hJ _ _ _ _ _ h)
    · have h : (am_s4 i S).bind (fun v => cond f (some (v, M)) none) = some v := h
      cases hq : am_s4 i S with
      | none => rw [hq] at h; cases h
      | some q =>
        rw [hq] at h
        cases f with
        | false => cases h
        | true => cases h; exact gr_same rfl
theorem gr_run : ∀ (n d m b : Nat) (M : am_M) (L : am_L) (S : List Value) (v : am_V), am_run n d m b M L S = some v → gr_ M v.2 := by
  intro n
  induction n with
  | zero => intro d m b M L S v h; cases h
  | succ n ih =>
    intro d m b M L S v h
    rw [am_run] at h
    refine gr_ex (fun b M L S v h => ih _ _ _ _ _ _ _ h) (fun y M as v h => ?_) _ _ _ _ _ _ h
    cases d with
    | zero => cases h
    | succ e =>
      cases hk : am_okA y as with
      | false => simp only [hk, cond_false] at h; cases h
      | true =>
        simp only [hk, cond_true] at h
        exact ih _ _ _ _ _ _ _ h
theorem fl_ex {d : Nat} {J : Nat → am_M → am_L → List Value → Option am_V} {C : Nat → am_M → List Value → Option am_V} : ∀ (is : List am_P) (M : am_M) (L : am_L) (S : List Value), am_ex d J C is false M L S = none := by
  intro is
  induction is with
  | nil => intro M L S; rfl
  | cons i is ih =>
    intro M L S
    rw [am_ex_cons]
    unfold am_st
    generalize am_srt i = s
    rcases s with _ | _ | _ | s
    · unfold am_sS
      cases hq : am_s1 d i M L S with
      | none => rfl
      | some q => show am_ex d J C is (q.1 && false) _ _ _ = none; rw [Bool.and_false]; exact ih _ _ _
    · unfold am_sS
      cases hq : am_s2 i S with
      | none => rfl
      | some q => rfl
    · unfold am_sS
      cases hq : am_s3 i M S with
      | none => rfl
      | some q => show cond (q.1 && false) _ none = none; rw [Bool.and_false]; rfl
    · show (am_s4 i S).bind (fun v => cond false (some (v, M)) none) = none
      cases hq : am_s4 i S with
      | none => rfl
      | some q => rfl
end
section
/-! THE SIMULATION, 10: jumps and ends -/
section SM10
variable {G : sm_G} {p : Program} {l : Launch} {e : Env} {R : Room} {s : State} {mI : MethodId} {args : Array Value} {below : List Frame} {meth : Method} {c : Code} {H H1 : Heap} {locs : List Loc} {cells slots : Nat} {Q : State → Prop} {m d pc : Nat} {ls : Array Slot} {M M1 : am_M} {L L1 : am_L} {S S1 : List Value}
theorem sw_look {m pc y : Nat} {f : Nat → Nat} {dl : Int} {a : Int32} (hd : (pc : Int) + dl = (f y : Int)) : ∀ (tb : List (Int32 × Nat)) (ps : List (Int × Int)), am_swl m pc tb ps f = true → (pc : Int) + Op.lookupswitch.offset ps dl a.toInt = (f (am_swt a y tb) : Int) := by
  intro tb
  induction tb with
  | nil =>
    intro ps h
    cases ps with
    | nil => exact hd
    | cons q ps => cases h
  | cons t tb ih =>
    intro ps h
    cases ps with
    | nil => cases h
    | cons q ps =>
      obtain ⟨k, b⟩ := t
      obtain ⟨a0, o⟩ := q
      simp only [am_swl, Bool.and_eq_true, decide_eq_true_eq] at h
      obtain ⟨h1, h2, h3⟩ := h
      rw [Op.lookupswitch.offset_cons]
      show _ = ((f (if a = k then b else am_swt a y tb) : Nat) : Int)
      by_cases hk : a = k
      · rw [if_pos hk, if_pos (by rw [hk]; exact h1.symm)]
        exact h2
      · rw [if_neg hk, if_neg (fun e => hk (Int32.toInt_inj.mp (by rw [← e]; exact h1.symm)))]
        exact ih ps h3
theorem sw_tab {m pc y : Nat} {f : Nat → Nat} {dl : Int} {a : Int32} (hd : (pc : Int) + dl = (f y : Int)) : ∀ (os : List Int) (lo : Int) (tb : List (Int32 × Nat)), am_swl m pc tb (am_tbl lo os) f = true → ((a.toInt < lo ∨ lo + (os.length : Int) ≤ a.toInt) → am_swt a y tb = y) ∧ (¬ (a.toInt < lo ∨ lo + (os.length : Int) ≤ a.toInt) → ∃ o, os[(a.toInt - lo).toNat]? = some o ∧ (pc : Int) + o = (f (am_swt a y tb) : Int)) := by
  intro os
  induction os with
  | nil =>
    intro lo tb h
    cases tb with
    | nil => exact ⟨fun _ => rfl, fun h => absurd (show a.toInt < lo ∨ lo + (([] : List Int).length : Int) ≤ a.toInt by simp; omega) h⟩
    | cons t tb => cases h
  | cons o os ih =>
    intro lo tb h
    cases tb with
    | nil => cases h
    | cons t tb =>
      obtain ⟨k, b⟩ := t
      simp only [am_tbl, am_swl, Bool.and_eq_true, decide_eq_true_eq] at h
      obtain ⟨h1, h2, h3⟩ := h
      obtain ⟨i1, i2⟩ := ih (lo + 1) tb h3
      have hs : am_swt a y ((k, b) :: tb) = if a = k then b else am_swt a y tb := rfl
      rw [hs]
      have hlen : (((o :: os).length : Nat) : Int) = (os.length : Int) + 1 := by simp
      rw [hlen]
      by_cases hk : a = k
      · have hal : a.toInt = lo := by rw [hk]; exact h1
        rw [if_pos hk]
        refine ⟨fun hh => by omega, fun _ => ⟨o, ?_, h2⟩⟩
        rw [hal, Int.sub_self]
        rfl
      · have hal : a.toInt ≠ lo := fun e => hk (Int32.toInt_inj.mp (by rw [e]; exact h1.symm))
        rw [if_neg hk]
        refine ⟨fun hh => i1 (by omega), fun hh => ?_⟩
        obtain ⟨o', e1, e2⟩ := i2 (by omega)
        refine ⟨o', ?_, e2⟩
        rw [show (a.toInt - lo).toNat = (a.toInt - (lo + 1)).toNat + 1 by omega]
        exact e1
theorem sm_s2 {i : am_P} {b' : Nat} {S' : List Value} (X : sm_cx G p R s mI args meth c m d) (hr : sm_rl G M s H locs) (hl : sm_L G L ls (am_mx m)) (hsr : am_srt i = 1) (hck : am_chk m pc i = true) (hq : am_s2 i S = some (b', S')) (k : W p l e R s mI args below meth c H locs cells slots Q (F0 mI (am_pc m b') ls (S'.map (sm_v G)))) : W p l e R s mI args below meth c H locs cells slots Q (F0 mI pc ls (S.map (sm_v G))) := by
  obtain ⟨ins, ⟨ln, sr, x, y, z, w⟩, im, tb⟩ := i
  have hsr : sr = 1 := hsr
  subst hsr
  cases ins with
  | goto off =>
    simp only [am_chk, Bool.and_eq_true, decide_eq_true_eq] at hck
    cases hq
    exact lv_goto X.1 X.2.1 hck.1 hck.2 k
  | nop =>
    have hck : Nat.beq (am_pc m x) pc = true := hck
    cases hq
    rw [Nat.eq_of_beq_eq_true hck] at k
    exact k
  | ifCond cnd off =>
    simp only [am_chk, Bool.and_eq_true, decide_eq_true_eq] at hck
    obtain ⟨hdg, ht, hy⟩ := hck
    have hy : am_pc m y = pc + 3 := Nat.eq_of_beq_eq_true hy
    cases cnd with
    | eq =>
      simp only [am_s2] at hq
      split at hq
      · simp only [Option.some.injEq, Prod.mk.injEq] at hq
        obtain ⟨rfl, rfl⟩ := hq
        refine lv_if_eq X.1 X.2.1 hdg ht (fun h => ?_) (fun h => ?_)
        · rw [if_pos h] at k
          exact k
        · rw [if_neg h, hy] at k
          exact k
      · cases hq
    | ne =>
      simp only [am_s2] at hq
      split at hq
      · simp only [Option.some.injEq, Prod.mk.injEq] at hq
        obtain ⟨rfl, rfl⟩ := hq
        refine lv_if_ne X.1 X.2.1 hdg ht (fun h => ?_) (fun h => ?_)
        · rw [if_neg h] at k
          exact k
        · rw [if_pos h, hy] at k
          exact k
      · cases hq
    | lt =>
      simp only [am_s2] at hq
      split at hq
      · simp only [Option.some.injEq, Prod.mk.injEq] at hq
        obtain ⟨rfl, rfl⟩ := hq
        refine lv_if_lt X.1 X.2.1 hdg ht (fun h => ?_) (fun h => ?_)
        · rw [if_pos h] at k
          exact k
        · rw [if_neg h, hy] at k
          exact k
      · cases hq
    | ge =>
      simp only [am_s2] at hq
      split at hq
      · simp only [Option.some.injEq, Prod.mk.injEq] at hq
        obtain ⟨rfl, rfl⟩ := hq
        refine lv_if_ge X.1 X.2.1 hdg ht (fun h => ?_) (fun h => ?_)
        · rw [if_neg (Int32.not_lt.mpr h)] at k
          exact k
        · rw [if_pos (Int32.not_le.mp h), hy] at k
          exact k
      · cases hq
    | gt =>
      simp only [am_s2] at hq
      split at hq
      · simp only [Option.some.injEq, Prod.mk.injEq] at hq
        obtain ⟨rfl, rfl⟩ := hq
        refine lv_if_gt X.1 X.2.1 hdg ht (fun h => ?_) (fun h => ?_)
        · rw [if_pos h] at k
          exact k
        · rw [if_neg h, hy] at k
          exact k
      · cases hq
    | le =>
      simp only [am_s2] at hq
      split at hq
      · simp only [Option.some.injEq, Prod.mk.injEq] at hq
        obtain ⟨rfl, rfl⟩ := hq
        refine lv_if_le X.1 X.2.1 hdg ht (fun h => ?_) (fun h => ?_)
        · rw [if_neg (Int32.not_lt.mpr h)] at k
          exact k
        · rw [if_pos (Int32.not_le.mp h), hy] at k
          exact k
      · cases hq
  | if_icmp cnd off =>
    simp only [am_chk, Bool.and_eq_true, decide_eq_true_eq] at hck
    obtain ⟨hdg, ht, hy⟩ := hck
    have hy : am_pc m y = pc + 3 := Nat.eq_of_beq_eq_true hy
    cases cnd with
    | eq =>
      simp only [am_s2] at hq
      split at hq
      · simp only [Option.some.injEq, Prod.mk.injEq] at hq
        obtain ⟨rfl, rfl⟩ := hq
        refine lv_icmp_eq X.1 X.2.1 hdg ht (fun h => ?_) (fun h => ?_)
        · rw [if_pos h] at k
          exact k
        · rw [if_neg h, hy] at k
          exact k
      · cases hq
    | ne =>
      simp only [am_s2] at hq
      split at hq
      · simp only [Option.some.injEq, Prod.mk.injEq] at hq
        obtain ⟨rfl, rfl⟩ := hq
        refine lv_icmp_ne X.1 X.2.1 hdg ht (fun h => ?_) (fun h => ?_)
        · rw [if_neg h] at k
          exact k
        · rw [if_pos h, hy] at k
          exact k
      · cases hq
    | lt =>
      simp only [am_s2] at hq
      split at hq
      · simp only [Option.some.injEq, Prod.mk.injEq] at hq
        obtain ⟨rfl, rfl⟩ := hq
        refine lv_icmp_lt X.1 X.2.1 hdg ht (fun h => ?_) (fun h => ?_)
        · rw [if_pos h] at k
          exact k
        · rw [if_neg h, hy] at k
          exact k
      · cases hq
    | ge =>
      simp only [am_s2] at hq
      split at hq
      · simp only [Option.some.injEq, Prod.mk.injEq] at hq
        obtain ⟨rfl, rfl⟩ := hq
        refine lv_icmp_ge X.1 X.2.1 hdg ht (fun h => ?_) (fun h => ?_)
        · rw [if_neg (Int32.not_lt.mpr h)] at k
          exact k
        · rw [if_pos (Int32.not_le.mp h), hy] at k
          exact k
      · cases hq
    | gt =>
      simp only [am_s2] at hq
      split at hq
      · simp only [Option.some.injEq, Prod.mk.injEq] at hq
        obtain ⟨rfl, rfl⟩ := hq
        refine lv_icmp_gt X.1 X.2.1 hdg ht (fun h => ?_) (fun h => ?_)
        · rw [if_pos h] at k
          exact k
        · rw [if_neg h, hy] at k
          exact k
      · cases hq
    | le =>
      simp only [am_s2] at hq
      split at hq
      · simp only [Option.some.injEq, Prod.mk.injEq] at hq
        obtain ⟨rfl, rfl⟩ := hq
        refine lv_icmp_le X.1 X.2.1 hdg ht (fun h => ?_) (fun h => ?_)
        · rw [if_neg (Int32.not_lt.mpr h)] at k
          exact k
        · rw [if_pos (Int32.not_le.mp h), hy] at k
          exact k
      · cases hq
  | ifnonnull off =>
    simp only [am_chk, Bool.and_eq_true, decide_eq_true_eq] at hck
    obtain ⟨hdg, ht, hy⟩ := hck
    have hy : am_pc m y = pc + 3 := Nat.eq_of_beq_eq_true hy
    simp only [am_s2] at hq
    split at hq
    · simp only [Option.some.injEq, Prod.mk.injEq] at hq
      obtain ⟨rfl, rfl⟩ := hq
      rw [hy] at k
      exact lv_ifnonnullN X.1 X.2.1 hdg k
    · rename_i a r
      cases h5 : Nat.ble 5 a with
      | false => rw [h5] at hq; cases hq
      | true =>
        rw [h5] at hq
        simp only [cond_true, Option.some.injEq, Prod.mk.injEq] at hq
        obtain ⟨rfl, rfl⟩ := hq
        rw [List.map_cons, sm_v5 (Nat.le_of_ble_eq_true h5)]
        exact lv_ifnonnull X.1 X.2.1 hdg ht k
    · cases hq
  | tableswitch dl lo hi os =>
    simp only [am_chk, Bool.and_eq_true, decide_eq_true_eq] at hck
    obtain ⟨hdg, hd, h1, h2, h3⟩ := hck
    simp only [am_s2] at hq
    split at hq
    · rename_i a r
      simp only [Option.some.injEq, Prod.mk.injEq] at hq
      obtain ⟨rfl, rfl⟩ := hq
      obtain ⟨i1, i2⟩ := sw_tab (a := a) hd os.toList lo tb h3
      by_cases ho : a.toInt < lo ∨ lo + (os.toList.length : Int) ≤ a.toInt
      · have e : am_swt a y tb = y := i1 ho
        rw [e] at k
        exact lv_tableOut X.1 X.2.1 hdg (by omega) hd k
      · obtain ⟨o, e1, e2⟩ := i2 ho
        exact lv_tableIn X.1 X.2.1 hdg (by omega) (by omega) (by rw [← Array.getElem?_toList]; exact e1) e2 k
    · cases hq
  | lookupswitch dl ps =>
    simp only [am_chk, Bool.and_eq_true, decide_eq_true_eq] at hck
    obtain ⟨hdg, hd, h1, h2⟩ := hck
    simp only [am_s2] at hq
    split at hq
    · rename_i a r
      simp only [Option.some.injEq, Prod.mk.injEq] at hq
      obtain ⟨rfl, rfl⟩ := hq
      exact lv_lookup X.1 X.2.1 hdg h1 rfl (sw_look (a := a) hd tb ps.toList h2) k
    · cases hq
  | _ => cases hq
/-- an answer of a narrow type -/
theorem sm_zret {cc : ByteArray} {Qc : Array Value → State → Outcome → State → Prop} {free : Addr → Prop} {v z : Int32} {ty : FieldType} (hexec : p.tables.exec = Jvm.exec) (hb : c.code = cc) (hr : meth.sig.returnType = some ty) (hn : narrow ty (.int v) = .int z) (hq : ∀ t : State, t.heap = H → s.WarmedH t.vm → Qc args s (.returned (some (.int z))) t) (hf : ∀ q ∈ locs, free q.base) (hdg : decode cc pc = .ok (.ireturn, 1)) (hlocks : meth.locks = false) : W p l e R s mI args below meth c H locs cells slots (MQ below Qc args s cells slots free) (F0 mI pc ls [.int v]) := by
  intro T hT X
  obtain ⟨fs, hret, hrun, hended, hW, hframe⟩ := X.leave (v := some (.int z)) (hlocks := hlocks) (fun h => by rw [hr] at h; cases h)
  have hmeth' : T.vm.method? mI = some meth := X.method'
  refine ⟨T.setFrames fs, ?_, .returned (some (.int z)), hrun, hended, hq _ hT hW, locs, ⟨⟨_, rfl⟩, hW, hframe⟩, hf⟩
  jvm_step X.here [X.here.top, hexec, hb, hdg, hmeth', hr, hn]
  (try refine ⟨rfl, ?_⟩); (try refine ⟨rfl, ?_⟩)
  first | (intro acts; rw [hret _ acts rfl rfl rfl]) | rw [hret _ _ rfl rfl rfl]
  exact Steps.refl _
theorem sm_s4 {i : am_P} {v : Option Value} {Qc : Array Value → State → Outcome → State → Prop} {free : Addr → Prop} (X : sm_cx G p R s mI args meth c m d) (hck : am_chk m pc i = true) (hsr : 3 ≤ am_srt i) (hrt : meth.sig.returnType = am_rt m) (hlocks : meth.locks = false) (hq : am_s4 i S = some v) (hf : ∀ q ∈ locs, free q.base) (hQ : ∀ t : State, t.heap = H → s.WarmedH t.vm → Qc args s (.returned (v.map (sm_v G))) t) : W p l e R s mI args below meth c H locs cells slots (MQ below Qc args s cells slots free) (F0 mI pc ls (S.map (sm_v G))) := by
  have hP := X.2.2.2.2.2.2.2.2.2
  obtain ⟨ins, ⟨ln, sr, x, y, z, w⟩, im, tb⟩ := i
  match sr, hsr, hck with
  | sr + 3, _, hck =>
  simp only [am_chk, Bool.and_eq_true, decide_eq_true_eq] at hck
  obtain ⟨hdg, hck⟩ := hck
  cases ins with
  | ireturn =>
    simp only [am_s4] at hq
    split at hq
    · rename_i v0
      cases hq
      have hck : (match am_rt m with | some .int => Nat.beq w 0 | some .boolean => Nat.beq w 1 | some .char => Nat.beq w 2 | some .byte => Nat.beq w 3 | _ => false) = true := hck
      split at hck
      · rename_i hty
        have e : w = 0 := Nat.eq_of_beq_eq_true hck
        subst e
        exact sm_zret X.1 X.2.1 (hrt.trans hty) rfl hQ hf hdg hlocks
      · rename_i hty
        have e : w = 1 := Nat.eq_of_beq_eq_true hck
        subst e
        exact sm_zret X.1 X.2.1 (hrt.trans hty) rfl hQ hf hdg hlocks
      · rename_i hty
        have e : w = 2 := Nat.eq_of_beq_eq_true hck
        subst e
        exact sm_zret X.1 X.2.1 (hrt.trans hty) rfl hQ hf hdg hlocks
      · rename_i hty
        have e : w = 3 := Nat.eq_of_beq_eq_true hck
        subst e
        exact sm_zret X.1 X.2.1 (hrt.trans hty) rfl hQ hf hdg hlocks
      · cases hck
    · cases hq
  | lreturn =>
    simp only [am_s4] at hq
    split at hq
    · cases hq
      exact W.lret X.1 X.2.1 (hrt.trans (of_decide_eq_true hck)) hQ hf hdg hlocks
    · cases hq
  | areturn =>
    have hty : ∃ rt, am_rt m = some rt ∧ ((∃ n, rt = .object n) ∨ ∃ t, rt = .array t) := by
      have hck : (match am_rt m with | some (.object _) => true | some (.array _) => true | _ => false) = true := hck
      split at hck
      · rename_i n h
        exact ⟨_, h, Or.inl ⟨n, rfl⟩⟩
      · rename_i t h
        exact ⟨_, h, Or.inr ⟨t, rfl⟩⟩
      · cases hck
    obtain ⟨rt, h1, h2⟩ := hty
    simp only [am_s4] at hq
    split at hq
    · rename_i a
      cases hq
      exact W.aret X.1 X.2.1 (hrt.trans h1) h2 (sm_isr (G := G) (v := .ref a) hP rfl) hQ hf hdg hlocks
    · cases hq
      exact W.aret X.1 X.2.1 (hrt.trans h1) h2 (Or.inl rfl) hQ hf hdg hlocks
    · cases hq
  | return_ =>
    simp only [am_s4] at hq
    split at hq
    · cases hq
      exact W.vret X.1 X.2.1 (hrt.trans (of_decide_eq_true hck)) hQ hf hdg hlocks
    · cases hq
  | _ => cases hq
end SM10
end
