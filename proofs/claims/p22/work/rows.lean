section
-- ===== PART A: goes FIRST, ahead of the names: the tables' words, and 'selects' of the private methods out of them =====
/-- a private method of a class that the tables say can be made, by its rows of tables_1 -/
def lw_okq (q : MethodName × Nat) : Prop := (q.1.cls ≠ "java/lang/invoke/MethodHandle" ∧ q.1.cls ≠ "java/lang/invoke/VarHandle") ∧ Cond.instantiable q.1.cls q.2 ∈ tables_1 ∧ Cond.privateMethod q.1 ∈ tables_1 ∧ Cond.instanceMethod q.1 ∈ tables_1
theorem lw_p0 : lw_okq (⟨"IceTunes$Pond", "clear", "()V"⟩, 19) := ⟨⟨by decide +kernel, by decide +kernel⟩, List.mem_of_getElem? (i := 30) (by decide +kernel), List.mem_of_getElem? (i := 36) (by decide +kernel), List.mem_of_getElem? (i := 37) (by decide +kernel)⟩
theorem lw_p1 : lw_okq (⟨"IceTunes$History", "now", "()LIceTunes$Evening;"⟩, 4) := ⟨⟨by decide +kernel, by decide +kernel⟩, List.mem_of_getElem? (i := 242) (by decide +kernel), List.mem_of_getElem? (i := 430) (by decide +kernel), List.mem_of_getElem? (i := 431) (by decide +kernel)⟩
theorem lw_p2 : lw_okq (⟨"IceTunes$Evening", "begin", "(LIceTunes$Pond;)V"⟩, 7) := ⟨⟨by decide +kernel, by decide +kernel⟩, List.mem_of_getElem? (i := 249) (by decide +kernel), List.mem_of_getElem? (i := 434) (by decide +kernel), List.mem_of_getElem? (i := 435) (by decide +kernel)⟩
theorem lw_p3 : lw_okq (⟨"IceTunes$Pond", "iceAtFirst", "(I)I"⟩, 19) := ⟨⟨by decide +kernel, by decide +kernel⟩, List.mem_of_getElem? (i := 30) (by decide +kernel), List.mem_of_getElem? (i := 438) (by decide +kernel), List.mem_of_getElem? (i := 439) (by decide +kernel)⟩
theorem lw_p4 : lw_okq (⟨"IceTunes", "tapeNumber", "(I)V"⟩, 16) := ⟨⟨by decide +kernel, by decide +kernel⟩, List.mem_of_getElem? (i := 22) (by decide +kernel), List.mem_of_getElem? (i := 495) (by decide +kernel), List.mem_of_getElem? (i := 496) (by decide +kernel)⟩
theorem lw_p5 : lw_okq (⟨"IceTunes$Reader", "read", "([BILIceTunes$Pond;)Z"⟩, 9) := ⟨⟨by decide +kernel, by decide +kernel⟩, List.mem_of_getElem? (i := 142) (by decide +kernel), List.mem_of_getElem? (i := 507) (by decide +kernel), List.mem_of_getElem? (i := 508) (by decide +kernel)⟩
theorem lw_p6 : lw_okq (⟨"IceTunes$Tokens", "begin", "([BI)V"⟩, 6) := ⟨⟨by decide +kernel, by decide +kernel⟩, List.mem_of_getElem? (i := 148) (by decide +kernel), List.mem_of_getElem? (i := 512) (by decide +kernel), List.mem_of_getElem? (i := 513) (by decide +kernel)⟩
theorem lw_p7 : lw_okq (⟨"IceTunes$Tokens", "next", "()V"⟩, 6) := ⟨⟨by decide +kernel, by decide +kernel⟩, List.mem_of_getElem? (i := 148) (by decide +kernel), List.mem_of_getElem? (i := 519) (by decide +kernel), List.mem_of_getElem? (i := 520) (by decide +kernel)⟩
theorem lw_p8 : lw_okq (⟨"IceTunes$Tokens", "isLetter", "(I)Z"⟩, 6) := ⟨⟨by decide +kernel, by decide +kernel⟩, List.mem_of_getElem? (i := 148) (by decide +kernel), List.mem_of_getElem? (i := 523) (by decide +kernel), List.mem_of_getElem? (i := 524) (by decide +kernel)⟩
theorem lw_p9 : lw_okq (⟨"IceTunes$Tokens", "takeWord", "()V"⟩, 6) := ⟨⟨by decide +kernel, by decide +kernel⟩, List.mem_of_getElem? (i := 148) (by decide +kernel), List.mem_of_getElem? (i := 527) (by decide +kernel), List.mem_of_getElem? (i := 528) (by decide +kernel)⟩
theorem lw_p10 : lw_okq (⟨"IceTunes$Tokens", "kindOfWord", "()I"⟩, 6) := ⟨⟨by decide +kernel, by decide +kernel⟩, List.mem_of_getElem? (i := 148) (by decide +kernel), List.mem_of_getElem? (i := 531) (by decide +kernel), List.mem_of_getElem? (i := 532) (by decide +kernel)⟩
theorem lw_p11 : lw_okq (⟨"IceTunes$Tokens", "isDigit", "(I)Z"⟩, 6) := ⟨⟨by decide +kernel, by decide +kernel⟩, List.mem_of_getElem? (i := 148) (by decide +kernel), List.mem_of_getElem? (i := 584) (by decide +kernel), List.mem_of_getElem? (i := 585) (by decide +kernel)⟩
theorem lw_p12 : lw_okq (⟨"IceTunes$Tokens", "takeNumber", "()V"⟩, 6) := ⟨⟨by decide +kernel, by decide +kernel⟩, List.mem_of_getElem? (i := 148) (by decide +kernel), List.mem_of_getElem? (i := 588) (by decide +kernel), List.mem_of_getElem? (i := 589) (by decide +kernel)⟩
theorem lw_p13 : lw_okq (⟨"IceTunes$Reader", "mayStand", "(I)Z"⟩, 9) := ⟨⟨by decide +kernel, by decide +kernel⟩, List.mem_of_getElem? (i := 142) (by decide +kernel), List.mem_of_getElem? (i := 650) (by decide +kernel), List.mem_of_getElem? (i := 651) (by decide +kernel)⟩
theorem lw_p14 : lw_okq (⟨"IceTunes$Reader", "fail", "(I)Z"⟩, 9) := ⟨⟨by decide +kernel, by decide +kernel⟩, List.mem_of_getElem? (i := 142) (by decide +kernel), List.mem_of_getElem? (i := 654) (by decide +kernel), List.mem_of_getElem? (i := 655) (by decide +kernel)⟩
theorem lw_p15 : lw_okq (⟨"IceTunes$Reader", "readSize", "()Z"⟩, 9) := ⟨⟨by decide +kernel, by decide +kernel⟩, List.mem_of_getElem? (i := 142) (by decide +kernel), List.mem_of_getElem? (i := 659) (by decide +kernel), List.mem_of_getElem? (i := 660) (by decide +kernel)⟩
def lw_privs_1 : List (MethodName × Nat) := [(⟨"IceTunes$Pond", "clear", "()V"⟩, 19), (⟨"IceTunes$History", "now", "()LIceTunes$Evening;"⟩, 4), (⟨"IceTunes$Evening", "begin", "(LIceTunes$Pond;)V"⟩, 7), (⟨"IceTunes$Pond", "iceAtFirst", "(I)I"⟩, 19), (⟨"IceTunes", "tapeNumber", "(I)V"⟩, 16), (⟨"IceTunes$Reader", "read", "([BILIceTunes$Pond;)Z"⟩, 9), (⟨"IceTunes$Tokens", "begin", "([BI)V"⟩, 6), (⟨"IceTunes$Tokens", "next", "()V"⟩, 6), (⟨"IceTunes$Tokens", "isLetter", "(I)Z"⟩, 6), (⟨"IceTunes$Tokens", "takeWord", "()V"⟩, 6), (⟨"IceTunes$Tokens", "kindOfWord", "()I"⟩, 6), (⟨"IceTunes$Tokens", "isDigit", "(I)Z"⟩, 6), (⟨"IceTunes$Tokens", "takeNumber", "()V"⟩, 6), (⟨"IceTunes$Reader", "mayStand", "(I)Z"⟩, 9), (⟨"IceTunes$Reader", "fail", "(I)Z"⟩, 9), (⟨"IceTunes$Reader", "readSize", "()Z"⟩, 9)]
theorem lw_r1 : ∀ q ∈ lw_privs_1, lw_okq q := List.forall_mem_cons.mpr ⟨lw_p0, List.forall_mem_cons.mpr ⟨lw_p1, List.forall_mem_cons.mpr ⟨lw_p2, List.forall_mem_cons.mpr ⟨lw_p3, List.forall_mem_cons.mpr ⟨lw_p4, List.forall_mem_cons.mpr ⟨lw_p5, List.forall_mem_cons.mpr ⟨lw_p6, List.forall_mem_cons.mpr ⟨lw_p7, List.forall_mem_cons.mpr ⟨lw_p8, List.forall_mem_cons.mpr ⟨lw_p9, List.forall_mem_cons.mpr ⟨lw_p10, List.forall_mem_cons.mpr ⟨lw_p11, List.forall_mem_cons.mpr ⟨lw_p12, List.forall_mem_cons.mpr ⟨lw_p13, List.forall_mem_cons.mpr ⟨lw_p14, List.forall_mem_cons.mpr ⟨lw_p15, fun _ h => absurd h List.not_mem_nil⟩⟩⟩⟩⟩⟩⟩⟩⟩⟩⟩⟩⟩⟩⟩⟩
theorem lw_p16 : lw_okq (⟨"IceTunes$Reader", "takeNumber", "(II)Z"⟩, 9) := ⟨⟨by decide +kernel, by decide +kernel⟩, List.mem_of_getElem? (i := 142) (by decide +kernel), List.mem_of_getElem? (i := 663) (by decide +kernel), List.mem_of_getElem? (i := 664) (by decide +kernel)⟩
theorem lw_p17 : lw_okq (⟨"IceTunes$Reader", "take", "(I)Z"⟩, 9) := ⟨⟨by decide +kernel, by decide +kernel⟩, List.mem_of_getElem? (i := 142) (by decide +kernel), List.mem_of_getElem? (i := 667) (by decide +kernel), List.mem_of_getElem? (i := 668) (by decide +kernel)⟩
theorem lw_p18 : lw_okq (⟨"IceTunes$Reader", "readAllIce", "()Z"⟩, 9) := ⟨⟨by decide +kernel, by decide +kernel⟩, List.mem_of_getElem? (i := 142) (by decide +kernel), List.mem_of_getElem? (i := 671) (by decide +kernel), List.mem_of_getElem? (i := 672) (by decide +kernel)⟩
theorem lw_p19 : lw_okq (⟨"IceTunes$Reader", "readCell", "()Z"⟩, 9) := ⟨⟨by decide +kernel, by decide +kernel⟩, List.mem_of_getElem? (i := 142) (by decide +kernel), List.mem_of_getElem? (i := 675) (by decide +kernel), List.mem_of_getElem? (i := 676) (by decide +kernel)⟩
theorem lw_p20 : lw_okq (⟨"IceTunes$Reader", "takePlace", "(I)Z"⟩, 9) := ⟨⟨by decide +kernel, by decide +kernel⟩, List.mem_of_getElem? (i := 142) (by decide +kernel), List.mem_of_getElem? (i := 679) (by decide +kernel), List.mem_of_getElem? (i := 680) (by decide +kernel)⟩
theorem lw_p21 : lw_okq (⟨"IceTunes$Pond", "hasCell", "(II)Z"⟩, 19) := ⟨⟨by decide +kernel, by decide +kernel⟩, List.mem_of_getElem? (i := 30) (by decide +kernel), List.mem_of_getElem? (i := 683) (by decide +kernel), List.mem_of_getElem? (i := 684) (by decide +kernel)⟩
theorem lw_p22 : lw_okq (⟨"IceTunes$Reader", "isToldAlready", "(II)Z"⟩, 9) := ⟨⟨by decide +kernel, by decide +kernel⟩, List.mem_of_getElem? (i := 142) (by decide +kernel), List.mem_of_getElem? (i := 687) (by decide +kernel), List.mem_of_getElem? (i := 688) (by decide +kernel)⟩
theorem lw_p23 : lw_okq (⟨"IceTunes$Reader", "readPlank", "()Z"⟩, 9) := ⟨⟨by decide +kernel, by decide +kernel⟩, List.mem_of_getElem? (i := 142) (by decide +kernel), List.mem_of_getElem? (i := 691) (by decide +kernel), List.mem_of_getElem? (i := 692) (by decide +kernel)⟩
theorem lw_p24 : lw_okq (⟨"IceTunes$Reader", "readTune", "()Z"⟩, 9) := ⟨⟨by decide +kernel, by decide +kernel⟩, List.mem_of_getElem? (i := 142) (by decide +kernel), List.mem_of_getElem? (i := 695) (by decide +kernel), List.mem_of_getElem? (i := 696) (by decide +kernel)⟩
theorem lw_p25 : lw_okq (⟨"IceTunes$Reader", "takeName", "(II)Z"⟩, 9) := ⟨⟨by decide +kernel, by decide +kernel⟩, List.mem_of_getElem? (i := 142) (by decide +kernel), List.mem_of_getElem? (i := 699) (by decide +kernel), List.mem_of_getElem? (i := 700) (by decide +kernel)⟩
theorem lw_p26 : lw_okq (⟨"IceTunes$Tokens", "isSameWord", "(II)Z"⟩, 6) := ⟨⟨by decide +kernel, by decide +kernel⟩, List.mem_of_getElem? (i := 148) (by decide +kernel), List.mem_of_getElem? (i := 703) (by decide +kernel), List.mem_of_getElem? (i := 704) (by decide +kernel)⟩
theorem lw_p27 : lw_okq (⟨"IceTunes$Reader", "readFormula", "(I)Z"⟩, 9) := ⟨⟨by decide +kernel, by decide +kernel⟩, List.mem_of_getElem? (i := 142) (by decide +kernel), List.mem_of_getElem? (i := 707) (by decide +kernel), List.mem_of_getElem? (i := 708) (by decide +kernel)⟩
theorem lw_p28 : lw_okq (⟨"IceTunes$Reader", "readBoth", "(I)Z"⟩, 9) := ⟨⟨by decide +kernel, by decide +kernel⟩, List.mem_of_getElem? (i := 142) (by decide +kernel), List.mem_of_getElem? (i := 711) (by decide +kernel), List.mem_of_getElem? (i := 712) (by decide +kernel)⟩
theorem lw_p29 : lw_okq (⟨"IceTunes$Reader", "readOne", "(I)Z"⟩, 9) := ⟨⟨by decide +kernel, by decide +kernel⟩, List.mem_of_getElem? (i := 142) (by decide +kernel), List.mem_of_getElem? (i := 715) (by decide +kernel), List.mem_of_getElem? (i := 716) (by decide +kernel)⟩
theorem lw_p30 : lw_okq (⟨"IceTunes$Reader", "putCode", "(I)V"⟩, 9) := ⟨⟨by decide +kernel, by decide +kernel⟩, List.mem_of_getElem? (i := 142) (by decide +kernel), List.mem_of_getElem? (i := 719) (by decide +kernel), List.mem_of_getElem? (i := 720) (by decide +kernel)⟩
theorem lw_p31 : lw_okq (⟨"IceTunes$Reader", "readSum", "(I)Z"⟩, 9) := ⟨⟨by decide +kernel, by decide +kernel⟩, List.mem_of_getElem? (i := 142) (by decide +kernel), List.mem_of_getElem? (i := 723) (by decide +kernel), List.mem_of_getElem? (i := 724) (by decide +kernel)⟩
def lw_privs_2 : List (MethodName × Nat) := [(⟨"IceTunes$Reader", "takeNumber", "(II)Z"⟩, 9), (⟨"IceTunes$Reader", "take", "(I)Z"⟩, 9), (⟨"IceTunes$Reader", "readAllIce", "()Z"⟩, 9), (⟨"IceTunes$Reader", "readCell", "()Z"⟩, 9), (⟨"IceTunes$Reader", "takePlace", "(I)Z"⟩, 9), (⟨"IceTunes$Pond", "hasCell", "(II)Z"⟩, 19), (⟨"IceTunes$Reader", "isToldAlready", "(II)Z"⟩, 9), (⟨"IceTunes$Reader", "readPlank", "()Z"⟩, 9), (⟨"IceTunes$Reader", "readTune", "()Z"⟩, 9), (⟨"IceTunes$Reader", "takeName", "(II)Z"⟩, 9), (⟨"IceTunes$Tokens", "isSameWord", "(II)Z"⟩, 6), (⟨"IceTunes$Reader", "readFormula", "(I)Z"⟩, 9), (⟨"IceTunes$Reader", "readBoth", "(I)Z"⟩, 9), (⟨"IceTunes$Reader", "readOne", "(I)Z"⟩, 9), (⟨"IceTunes$Reader", "putCode", "(I)V"⟩, 9), (⟨"IceTunes$Reader", "readSum", "(I)Z"⟩, 9)]
theorem lw_r2 : ∀ q ∈ lw_privs_2, lw_okq q := List.forall_mem_cons.mpr ⟨lw_p16, List.forall_mem_cons.mpr ⟨lw_p17, List.forall_mem_cons.mpr ⟨lw_p18, List.forall_mem_cons.mpr ⟨lw_p19, List.forall_mem_cons.mpr ⟨lw_p20, List.forall_mem_cons.mpr ⟨lw_p21, List.forall_mem_cons.mpr ⟨lw_p22, List.forall_mem_cons.mpr ⟨lw_p23, List.forall_mem_cons.mpr ⟨lw_p24, List.forall_mem_cons.mpr ⟨lw_p25, List.forall_mem_cons.mpr ⟨lw_p26, List.forall_mem_cons.mpr ⟨lw_p27, List.forall_mem_cons.mpr ⟨lw_p28, List.forall_mem_cons.mpr ⟨lw_p29, List.forall_mem_cons.mpr ⟨lw_p30, List.forall_mem_cons.mpr ⟨lw_p31, fun _ h => absurd h List.not_mem_nil⟩⟩⟩⟩⟩⟩⟩⟩⟩⟩⟩⟩⟩⟩⟩⟩
theorem lw_p32 : lw_okq (⟨"IceTunes$Reader", "readTerm", "(I)Z"⟩, 9) := ⟨⟨by decide +kernel, by decide +kernel⟩, List.mem_of_getElem? (i := 142) (by decide +kernel), List.mem_of_getElem? (i := 727) (by decide +kernel), List.mem_of_getElem? (i := 728) (by decide +kernel)⟩
theorem lw_p33 : lw_okq (⟨"IceTunes$Reader", "readUnit", "(I)Z"⟩, 9) := ⟨⟨by decide +kernel, by decide +kernel⟩, List.mem_of_getElem? (i := 142) (by decide +kernel), List.mem_of_getElem? (i := 731) (by decide +kernel), List.mem_of_getElem? (i := 732) (by decide +kernel)⟩
theorem lw_p34 : lw_okq (⟨"IceTunes$Reader", "readSilence", "()Z"⟩, 9) := ⟨⟨by decide +kernel, by decide +kernel⟩, List.mem_of_getElem? (i := 142) (by decide +kernel), List.mem_of_getElem? (i := 738) (by decide +kernel), List.mem_of_getElem? (i := 739) (by decide +kernel)⟩
theorem lw_p35 : lw_okq (⟨"IceTunes$Reader", "readSkater", "()Z"⟩, 9) := ⟨⟨by decide +kernel, by decide +kernel⟩, List.mem_of_getElem? (i := 142) (by decide +kernel), List.mem_of_getElem? (i := 742) (by decide +kernel), List.mem_of_getElem? (i := 743) (by decide +kernel)⟩
theorem lw_p36 : lw_okq (⟨"IceTunes$History", "forget", "()V"⟩, 4) := ⟨⟨by decide +kernel, by decide +kernel⟩, List.mem_of_getElem? (i := 242) (by decide +kernel), List.mem_of_getElem? (i := 746) (by decide +kernel), List.mem_of_getElem? (i := 747) (by decide +kernel)⟩
theorem lw_p37 : lw_okq (⟨"IceTunes$Sights", "clear", "()V"⟩, 8) := ⟨⟨by decide +kernel, by decide +kernel⟩, List.mem_of_getElem? (i := 311) (by decide +kernel), List.mem_of_getElem? (i := 750) (by decide +kernel), List.mem_of_getElem? (i := 751) (by decide +kernel)⟩
theorem lw_p38 : lw_okq (⟨"IceTunes$Evening", "loadOf", "(ILIceTunes$Pond;)I"⟩, 7) := ⟨⟨by decide +kernel, by decide +kernel⟩, List.mem_of_getElem? (i := 249) (by decide +kernel), List.mem_of_getElem? (i := 767) (by decide +kernel), List.mem_of_getElem? (i := 768) (by decide +kernel)⟩
theorem lw_p39 : lw_okq (⟨"IceTunes$Evening", "isUp", "(I)Z"⟩, 7) := ⟨⟨by decide +kernel, by decide +kernel⟩, List.mem_of_getElem? (i := 249) (by decide +kernel), List.mem_of_getElem? (i := 771) (by decide +kernel), List.mem_of_getElem? (i := 772) (by decide +kernel)⟩
theorem lw_p40 : lw_okq (⟨"IceTunes$Pond", "hasSkater", "(I)Z"⟩, 19) := ⟨⟨by decide +kernel, by decide +kernel⟩, List.mem_of_getElem? (i := 30) (by decide +kernel), List.mem_of_getElem? (i := 779) (by decide +kernel), List.mem_of_getElem? (i := 780) (by decide +kernel)⟩
theorem lw_p41 : lw_okq (⟨"IceTunes$Pond", "hasTune", "(I)Z"⟩, 19) := ⟨⟨by decide +kernel, by decide +kernel⟩, List.mem_of_getElem? (i := 30) (by decide +kernel), List.mem_of_getElem? (i := 788) (by decide +kernel), List.mem_of_getElem? (i := 789) (by decide +kernel)⟩
theorem lw_p42 : lw_okq (⟨"IceTunes$History", "goOn", "()LIceTunes$Evening;"⟩, 4) := ⟨⟨by decide +kernel, by decide +kernel⟩, List.mem_of_getElem? (i := 242) (by decide +kernel), List.mem_of_getElem? (i := 792) (by decide +kernel), List.mem_of_getElem? (i := 793) (by decide +kernel)⟩
theorem lw_p43 : lw_okq (⟨"IceTunes$Evening", "copy", "(LIceTunes$Evening;)V"⟩, 7) := ⟨⟨by decide +kernel, by decide +kernel⟩, List.mem_of_getElem? (i := 249) (by decide +kernel), List.mem_of_getElem? (i := 797) (by decide +kernel), List.mem_of_getElem? (i := 798) (by decide +kernel)⟩
theorem lw_p44 : lw_okq (⟨"IceTunes$Band", "playTune", "(LIceTunes$Evening;I)V"⟩, 8) := ⟨⟨by decide +kernel, by decide +kernel⟩, List.mem_of_getElem? (i := 207) (by decide +kernel), List.mem_of_getElem? (i := 804) (by decide +kernel), List.mem_of_getElem? (i := 805) (by decide +kernel)⟩
theorem lw_p45 : lw_okq (⟨"IceTunes$Band", "playBar", "(LIceTunes$Evening;II)Z"⟩, 8) := ⟨⟨by decide +kernel, by decide +kernel⟩, List.mem_of_getElem? (i := 207) (by decide +kernel), List.mem_of_getElem? (i := 808) (by decide +kernel), List.mem_of_getElem? (i := 809) (by decide +kernel)⟩
theorem lw_p46 : lw_okq (⟨"IceTunes$Band", "stepAll", "(LIceTunes$Evening;)V"⟩, 8) := ⟨⟨by decide +kernel, by decide +kernel⟩, List.mem_of_getElem? (i := 207) (by decide +kernel), List.mem_of_getElem? (i := 812) (by decide +kernel), List.mem_of_getElem? (i := 813) (by decide +kernel)⟩
theorem lw_p47 : lw_okq (⟨"IceTunes$Pond", "stepOf", "(II)I"⟩, 19) := ⟨⟨by decide +kernel, by decide +kernel⟩, List.mem_of_getElem? (i := 30) (by decide +kernel), List.mem_of_getElem? (i := 817) (by decide +kernel), List.mem_of_getElem? (i := 818) (by decide +kernel)⟩
def lw_privs_3 : List (MethodName × Nat) := [(⟨"IceTunes$Reader", "readTerm", "(I)Z"⟩, 9), (⟨"IceTunes$Reader", "readUnit", "(I)Z"⟩, 9), (⟨"IceTunes$Reader", "readSilence", "()Z"⟩, 9), (⟨"IceTunes$Reader", "readSkater", "()Z"⟩, 9), (⟨"IceTunes$History", "forget", "()V"⟩, 4), (⟨"IceTunes$Sights", "clear", "()V"⟩, 8), (⟨"IceTunes$Evening", "loadOf", "(ILIceTunes$Pond;)I"⟩, 7), (⟨"IceTunes$Evening", "isUp", "(I)Z"⟩, 7), (⟨"IceTunes$Pond", "hasSkater", "(I)Z"⟩, 19), (⟨"IceTunes$Pond", "hasTune", "(I)Z"⟩, 19), (⟨"IceTunes$History", "goOn", "()LIceTunes$Evening;"⟩, 4), (⟨"IceTunes$Evening", "copy", "(LIceTunes$Evening;)V"⟩, 7), (⟨"IceTunes$Band", "playTune", "(LIceTunes$Evening;I)V"⟩, 8), (⟨"IceTunes$Band", "playBar", "(LIceTunes$Evening;II)Z"⟩, 8), (⟨"IceTunes$Band", "stepAll", "(LIceTunes$Evening;)V"⟩, 8), (⟨"IceTunes$Pond", "stepOf", "(II)I"⟩, 19)]
theorem lw_r3 : ∀ q ∈ lw_privs_3, lw_okq q := List.forall_mem_cons.mpr ⟨lw_p32, List.forall_mem_cons.mpr ⟨lw_p33, List.forall_mem_cons.mpr ⟨lw_p34, List.forall_mem_cons.mpr ⟨lw_p35, List.forall_mem_cons.mpr ⟨lw_p36, List.forall_mem_cons.mpr ⟨lw_p37, List.forall_mem_cons.mpr ⟨lw_p38, List.forall_mem_cons.mpr ⟨lw_p39, List.forall_mem_cons.mpr ⟨lw_p40, List.forall_mem_cons.mpr ⟨lw_p41, List.forall_mem_cons.mpr ⟨lw_p42, List.forall_mem_cons.mpr ⟨lw_p43, List.forall_mem_cons.mpr ⟨lw_p44, List.forall_mem_cons.mpr ⟨lw_p45, List.forall_mem_cons.mpr ⟨lw_p46, List.forall_mem_cons.mpr ⟨lw_p47, fun _ h => absurd h List.not_mem_nil⟩⟩⟩⟩⟩⟩⟩⟩⟩⟩⟩⟩⟩⟩⟩⟩
theorem lw_p48 : lw_okq (⟨"IceTunes$Pond", "beside", "(II)I"⟩, 19) := ⟨⟨by decide +kernel, by decide +kernel⟩, List.mem_of_getElem? (i := 30) (by decide +kernel), List.mem_of_getElem? (i := 821) (by decide +kernel), List.mem_of_getElem? (i := 822) (by decide +kernel)⟩
theorem lw_p49 : lw_okq (⟨"IceTunes$Band", "freeze", "(LIceTunes$Evening;II)V"⟩, 8) := ⟨⟨by decide +kernel, by decide +kernel⟩, List.mem_of_getElem? (i := 207) (by decide +kernel), List.mem_of_getElem? (i := 826) (by decide +kernel), List.mem_of_getElem? (i := 827) (by decide +kernel)⟩
theorem lw_p50 : lw_okq (⟨"IceTunes$Band", "iceAround", "(LIceTunes$Evening;II)I"⟩, 8) := ⟨⟨by decide +kernel, by decide +kernel⟩, List.mem_of_getElem? (i := 207) (by decide +kernel), List.mem_of_getElem? (i := 830) (by decide +kernel), List.mem_of_getElem? (i := 831) (by decide +kernel)⟩
theorem lw_p51 : lw_okq (⟨"IceTunes$Band", "workOut", "(II)I"⟩, 8) := ⟨⟨by decide +kernel, by decide +kernel⟩, List.mem_of_getElem? (i := 207) (by decide +kernel), List.mem_of_getElem? (i := 834) (by decide +kernel), List.mem_of_getElem? (i := 835) (by decide +kernel)⟩
theorem lw_p52 : lw_okq (⟨"IceTunes$Band", "look", "(I)I"⟩, 8) := ⟨⟨by decide +kernel, by decide +kernel⟩, List.mem_of_getElem? (i := 207) (by decide +kernel), List.mem_of_getElem? (i := 838) (by decide +kernel), List.mem_of_getElem? (i := 839) (by decide +kernel)⟩
theorem lw_p53 : lw_okq (⟨"IceTunes$Band", "breakCells", "(LIceTunes$Evening;II)Z"⟩, 8) := ⟨⟨by decide +kernel, by decide +kernel⟩, List.mem_of_getElem? (i := 207) (by decide +kernel), List.mem_of_getElem? (i := 848) (by decide +kernel), List.mem_of_getElem? (i := 849) (by decide +kernel)⟩
theorem lw_p54 : lw_okq (⟨"IceTunes$Band", "isTooHeavy", "(LIceTunes$Evening;I)Z"⟩, 8) := ⟨⟨by decide +kernel, by decide +kernel⟩, List.mem_of_getElem? (i := 207) (by decide +kernel), List.mem_of_getElem? (i := 852) (by decide +kernel), List.mem_of_getElem? (i := 853) (by decide +kernel)⟩
theorem lw_p55 : lw_okq (⟨"IceTunes$Band", "sink", "(LIceTunes$Evening;III)V"⟩, 8) := ⟨⟨by decide +kernel, by decide +kernel⟩, List.mem_of_getElem? (i := 207) (by decide +kernel), List.mem_of_getElem? (i := 856) (by decide +kernel), List.mem_of_getElem? (i := 857) (by decide +kernel)⟩
theorem lw_p56 : lw_okq (⟨"IceTunes$Evening", "countUp", "(LIceTunes$Pond;)I"⟩, 7) := ⟨⟨by decide +kernel, by decide +kernel⟩, List.mem_of_getElem? (i := 249) (by decide +kernel), List.mem_of_getElem? (i := 860) (by decide +kernel), List.mem_of_getElem? (i := 861) (by decide +kernel)⟩
theorem lw_p57 : lw_okq (⟨"IceTunes$Band", "keepSilence", "(LIceTunes$Evening;I)V"⟩, 8) := ⟨⟨by decide +kernel, by decide +kernel⟩, List.mem_of_getElem? (i := 207) (by decide +kernel), List.mem_of_getElem? (i := 868) (by decide +kernel), List.mem_of_getElem? (i := 869) (by decide +kernel)⟩
theorem lw_p58 : lw_okq (⟨"IceTunes$History", "takeBack", "()Z"⟩, 4) := ⟨⟨by decide +kernel, by decide +kernel⟩, List.mem_of_getElem? (i := 242) (by decide +kernel), List.mem_of_getElem? (i := 876) (by decide +kernel), List.mem_of_getElem? (i := 877) (by decide +kernel)⟩
theorem lw_p59 : lw_okq (⟨"IceTunes$History", "doAgain", "()Z"⟩, 4) := ⟨⟨by decide +kernel, by decide +kernel⟩, List.mem_of_getElem? (i := 242) (by decide +kernel), List.mem_of_getElem? (i := 884) (by decide +kernel), List.mem_of_getElem? (i := 885) (by decide +kernel)⟩
theorem lw_p60 : lw_okq (⟨"IceTunes$Pond", "hasTunes", "(I)Z"⟩, 19) := ⟨⟨by decide +kernel, by decide +kernel⟩, List.mem_of_getElem? (i := 30) (by decide +kernel), List.mem_of_getElem? (i := 892) (by decide +kernel), List.mem_of_getElem? (i := 893) (by decide +kernel)⟩
theorem lw_p61 : lw_okq (⟨"IceTunes$Forecast", "fewestIn", "(LIceTunes$Evening;I)I"⟩, 5) := ⟨⟨by decide +kernel, by decide +kernel⟩, List.mem_of_getElem? (i := 344) (by decide +kernel), List.mem_of_getElem? (i := 896) (by decide +kernel), List.mem_of_getElem? (i := 897) (by decide +kernel)⟩
theorem lw_p62 : lw_okq (⟨"IceTunes$Forecast", "arrange", "(II)V"⟩, 5) := ⟨⟨by decide +kernel, by decide +kernel⟩, List.mem_of_getElem? (i := 344) (by decide +kernel), List.mem_of_getElem? (i := 901) (by decide +kernel), List.mem_of_getElem? (i := 902) (by decide +kernel)⟩
theorem lw_p63 : lw_okq (⟨"IceTunes", "layDown", "([II)V"⟩, 16) := ⟨⟨by decide +kernel, by decide +kernel⟩, List.mem_of_getElem? (i := 22) (by decide +kernel), List.mem_of_getElem? (i := 913) (by decide +kernel), List.mem_of_getElem? (i := 914) (by decide +kernel)⟩
def lw_privs_4 : List (MethodName × Nat) := [(⟨"IceTunes$Pond", "beside", "(II)I"⟩, 19), (⟨"IceTunes$Band", "freeze", "(LIceTunes$Evening;II)V"⟩, 8), (⟨"IceTunes$Band", "iceAround", "(LIceTunes$Evening;II)I"⟩, 8), (⟨"IceTunes$Band", "workOut", "(II)I"⟩, 8), (⟨"IceTunes$Band", "look", "(I)I"⟩, 8), (⟨"IceTunes$Band", "breakCells", "(LIceTunes$Evening;II)Z"⟩, 8), (⟨"IceTunes$Band", "isTooHeavy", "(LIceTunes$Evening;I)Z"⟩, 8), (⟨"IceTunes$Band", "sink", "(LIceTunes$Evening;III)V"⟩, 8), (⟨"IceTunes$Evening", "countUp", "(LIceTunes$Pond;)I"⟩, 7), (⟨"IceTunes$Band", "keepSilence", "(LIceTunes$Evening;I)V"⟩, 8), (⟨"IceTunes$History", "takeBack", "()Z"⟩, 4), (⟨"IceTunes$History", "doAgain", "()Z"⟩, 4), (⟨"IceTunes$Pond", "hasTunes", "(I)Z"⟩, 19), (⟨"IceTunes$Forecast", "fewestIn", "(LIceTunes$Evening;I)I"⟩, 5), (⟨"IceTunes$Forecast", "arrange", "(II)V"⟩, 5), (⟨"IceTunes", "layDown", "([II)V"⟩, 16)]
theorem lw_r4 : ∀ q ∈ lw_privs_4, lw_okq q := List.forall_mem_cons.mpr ⟨lw_p48, List.forall_mem_cons.mpr ⟨lw_p49, List.forall_mem_cons.mpr ⟨lw_p50, List.forall_mem_cons.mpr ⟨lw_p51, List.forall_mem_cons.mpr ⟨lw_p52, List.forall_mem_cons.mpr ⟨lw_p53, List.forall_mem_cons.mpr ⟨lw_p54, List.forall_mem_cons.mpr ⟨lw_p55, List.forall_mem_cons.mpr ⟨lw_p56, List.forall_mem_cons.mpr ⟨lw_p57, List.forall_mem_cons.mpr ⟨lw_p58, List.forall_mem_cons.mpr ⟨lw_p59, List.forall_mem_cons.mpr ⟨lw_p60, List.forall_mem_cons.mpr ⟨lw_p61, List.forall_mem_cons.mpr ⟨lw_p62, List.forall_mem_cons.mpr ⟨lw_p63, fun _ h => absurd h List.not_mem_nil⟩⟩⟩⟩⟩⟩⟩⟩⟩⟩⟩⟩⟩⟩⟩⟩
theorem lw_p64 : lw_okq (⟨"IceTunes$Duel", "mostUp", "(LIceTunes$Evening;II)I"⟩, 5) := ⟨⟨by decide +kernel, by decide +kernel⟩, List.mem_of_getElem? (i := 368) (by decide +kernel), List.mem_of_getElem? (i := 921) (by decide +kernel), List.mem_of_getElem? (i := 922) (by decide +kernel)⟩
theorem lw_p65 : lw_okq (⟨"IceTunes$Duel", "chooseMost", "(III)I"⟩, 5) := ⟨⟨by decide +kernel, by decide +kernel⟩, List.mem_of_getElem? (i := 368) (by decide +kernel), List.mem_of_getElem? (i := 927) (by decide +kernel), List.mem_of_getElem? (i := 928) (by decide +kernel)⟩
theorem lw_p66 : lw_okq (⟨"IceTunes$Duel", "tryTune", "(IIII)I"⟩, 5) := ⟨⟨by decide +kernel, by decide +kernel⟩, List.mem_of_getElem? (i := 368) (by decide +kernel), List.mem_of_getElem? (i := 932) (by decide +kernel), List.mem_of_getElem? (i := 933) (by decide +kernel)⟩
theorem lw_p67 : lw_okq (⟨"IceTunes$Duel", "chooseLeast", "(III)I"⟩, 5) := ⟨⟨by decide +kernel, by decide +kernel⟩, List.mem_of_getElem? (i := 368) (by decide +kernel), List.mem_of_getElem? (i := 937) (by decide +kernel), List.mem_of_getElem? (i := 938) (by decide +kernel)⟩
theorem lw_p68 : lw_okq (⟨"IceTunes$Forecast", "fewestPlanks", "(LIceTunes$Evening;I)I"⟩, 5) := ⟨⟨by decide +kernel, by decide +kernel⟩, List.mem_of_getElem? (i := 344) (by decide +kernel), List.mem_of_getElem? (i := 946) (by decide +kernel), List.mem_of_getElem? (i := 947) (by decide +kernel)⟩
theorem lw_p69 : lw_okq (⟨"IceTunes$Forecast", "listCells", "(I)V"⟩, 5) := ⟨⟨by decide +kernel, by decide +kernel⟩, List.mem_of_getElem? (i := 344) (by decide +kernel), List.mem_of_getElem? (i := 954) (by decide +kernel), List.mem_of_getElem? (i := 955) (by decide +kernel)⟩
theorem lw_p70 : lw_okq (⟨"IceTunes$Forecast", "bestSilence", "(LIceTunes$Evening;I)I"⟩, 5) := ⟨⟨by decide +kernel, by decide +kernel⟩, List.mem_of_getElem? (i := 344) (by decide +kernel), List.mem_of_getElem? (i := 962) (by decide +kernel), List.mem_of_getElem? (i := 963) (by decide +kernel)⟩
theorem lw_p71 : lw_okq (⟨"IceTunes$Forecast", "firstBreak", "(LIceTunes$Evening;II)I"⟩, 5) := ⟨⟨by decide +kernel, by decide +kernel⟩, List.mem_of_getElem? (i := 344) (by decide +kernel), List.mem_of_getElem? (i := 971) (by decide +kernel), List.mem_of_getElem? (i := 972) (by decide +kernel)⟩
theorem lw_p72 : lw_okq (⟨"IceTunes$Evening", "thicken", "(I)V"⟩, 7) := ⟨⟨by decide +kernel, by decide +kernel⟩, List.mem_of_getElem? (i := 249) (by decide +kernel), List.mem_of_getElem? (i := 975) (by decide +kernel), List.mem_of_getElem? (i := 976) (by decide +kernel)⟩
theorem lw_p73 : lw_okq (⟨"IceTunes$Sights", "tellIce", "(IIIII)I"⟩, 8) := ⟨⟨by decide +kernel, by decide +kernel⟩, List.mem_of_getElem? (i := 311) (by decide +kernel), List.mem_of_getElem? (i := 992) (by decide +kernel), List.mem_of_getElem? (i := 993) (by decide +kernel)⟩
theorem lw_p74 : lw_okq (⟨"IceTunes$Sights", "tell", "(IIII)I"⟩, 8) := ⟨⟨by decide +kernel, by decide +kernel⟩, List.mem_of_getElem? (i := 311) (by decide +kernel), List.mem_of_getElem? (i := 996) (by decide +kernel), List.mem_of_getElem? (i := 997) (by decide +kernel)⟩
theorem lw_p75 : lw_okq (⟨"IceTunes$Sights", "tellSkater", "(IIZI)I"⟩, 8) := ⟨⟨by decide +kernel, by decide +kernel⟩, List.mem_of_getElem? (i := 311) (by decide +kernel), List.mem_of_getElem? (i := 1004) (by decide +kernel), List.mem_of_getElem? (i := 1005) (by decide +kernel)⟩
theorem lw_p76 : lw_okq (⟨"IceTunes$Sights", "takeAway", "(II)Z"⟩, 8) := ⟨⟨by decide +kernel, by decide +kernel⟩, List.mem_of_getElem? (i := 311) (by decide +kernel), List.mem_of_getElem? (i := 1012) (by decide +kernel), List.mem_of_getElem? (i := 1013) (by decide +kernel)⟩
theorem lw_p77 : lw_okq (⟨"IceTunes$Rows", "count", "(II)I"⟩, 10) := ⟨⟨by decide +kernel, by decide +kernel⟩, List.mem_of_getElem? (i := 391) (by decide +kernel), List.mem_of_getElem? (i := 1025) (by decide +kernel), List.mem_of_getElem? (i := 1026) (by decide +kernel)⟩
theorem lw_p78 : lw_okq (⟨"IceTunes$Sights", "lastBar", "(I)I"⟩, 8) := ⟨⟨by decide +kernel, by decide +kernel⟩, List.mem_of_getElem? (i := 311) (by decide +kernel), List.mem_of_getElem? (i := 1029) (by decide +kernel), List.mem_of_getElem? (i := 1030) (by decide +kernel)⟩
theorem lw_p79 : lw_okq (⟨"IceTunes$Sights", "isKnown", "(II)Z"⟩, 8) := ⟨⟨by decide +kernel, by decide +kernel⟩, List.mem_of_getElem? (i := 311) (by decide +kernel), List.mem_of_getElem? (i := 1033) (by decide +kernel), List.mem_of_getElem? (i := 1034) (by decide +kernel)⟩
def lw_privs_5 : List (MethodName × Nat) := [(⟨"IceTunes$Duel", "mostUp", "(LIceTunes$Evening;II)I"⟩, 5), (⟨"IceTunes$Duel", "chooseMost", "(III)I"⟩, 5), (⟨"IceTunes$Duel", "tryTune", "(IIII)I"⟩, 5), (⟨"IceTunes$Duel", "chooseLeast", "(III)I"⟩, 5), (⟨"IceTunes$Forecast", "fewestPlanks", "(LIceTunes$Evening;I)I"⟩, 5), (⟨"IceTunes$Forecast", "listCells", "(I)V"⟩, 5), (⟨"IceTunes$Forecast", "bestSilence", "(LIceTunes$Evening;I)I"⟩, 5), (⟨"IceTunes$Forecast", "firstBreak", "(LIceTunes$Evening;II)I"⟩, 5), (⟨"IceTunes$Evening", "thicken", "(I)V"⟩, 7), (⟨"IceTunes$Sights", "tellIce", "(IIIII)I"⟩, 8), (⟨"IceTunes$Sights", "tell", "(IIII)I"⟩, 8), (⟨"IceTunes$Sights", "tellSkater", "(IIZI)I"⟩, 8), (⟨"IceTunes$Sights", "takeAway", "(II)Z"⟩, 8), (⟨"IceTunes$Rows", "count", "(II)I"⟩, 10), (⟨"IceTunes$Sights", "lastBar", "(I)I"⟩, 8), (⟨"IceTunes$Sights", "isKnown", "(II)Z"⟩, 8)]
theorem lw_r5 : ∀ q ∈ lw_privs_5, lw_okq q := List.forall_mem_cons.mpr ⟨lw_p64, List.forall_mem_cons.mpr ⟨lw_p65, List.forall_mem_cons.mpr ⟨lw_p66, List.forall_mem_cons.mpr ⟨lw_p67, List.forall_mem_cons.mpr ⟨lw_p68, List.forall_mem_cons.mpr ⟨lw_p69, List.forall_mem_cons.mpr ⟨lw_p70, List.forall_mem_cons.mpr ⟨lw_p71, List.forall_mem_cons.mpr ⟨lw_p72, List.forall_mem_cons.mpr ⟨lw_p73, List.forall_mem_cons.mpr ⟨lw_p74, List.forall_mem_cons.mpr ⟨lw_p75, List.forall_mem_cons.mpr ⟨lw_p76, List.forall_mem_cons.mpr ⟨lw_p77, List.forall_mem_cons.mpr ⟨lw_p78, List.forall_mem_cons.mpr ⟨lw_p79, fun _ h => absurd h List.not_mem_nil⟩⟩⟩⟩⟩⟩⟩⟩⟩⟩⟩⟩⟩⟩⟩⟩
theorem lw_p80 : lw_okq (⟨"IceTunes$Rows", "extend", "(I)V"⟩, 10) := ⟨⟨by decide +kernel, by decide +kernel⟩, List.mem_of_getElem? (i := 391) (by decide +kernel), List.mem_of_getElem? (i := 1039) (by decide +kernel), List.mem_of_getElem? (i := 1040) (by decide +kernel)⟩
theorem lw_p81 : lw_okq (⟨"IceTunes$Rows", "takeRow", "()V"⟩, 10) := ⟨⟨by decide +kernel, by decide +kernel⟩, List.mem_of_getElem? (i := 391) (by decide +kernel), List.mem_of_getElem? (i := 1043) (by decide +kernel), List.mem_of_getElem? (i := 1044) (by decide +kernel)⟩
theorem lw_p82 : lw_okq (⟨"IceTunes$Rows", "playsAsSeen", "(LIceTunes$Evening;I)Z"⟩, 10) := ⟨⟨by decide +kernel, by decide +kernel⟩, List.mem_of_getElem? (i := 391) (by decide +kernel), List.mem_of_getElem? (i := 1048) (by decide +kernel), List.mem_of_getElem? (i := 1049) (by decide +kernel)⟩
theorem lw_p83 : lw_okq (⟨"IceTunes$Sights", "areSo", "(LIceTunes$Evening;I)Z"⟩, 8) := ⟨⟨by decide +kernel, by decide +kernel⟩, List.mem_of_getElem? (i := 311) (by decide +kernel), List.mem_of_getElem? (i := 1053) (by decide +kernel), List.mem_of_getElem? (i := 1054) (by decide +kernel)⟩
theorem lw_p84 : lw_okq (⟨"IceTunes$Sights", "isSo", "(ILIceTunes$Evening;)Z"⟩, 8) := ⟨⟨by decide +kernel, by decide +kernel⟩, List.mem_of_getElem? (i := 311) (by decide +kernel), List.mem_of_getElem? (i := 1057) (by decide +kernel), List.mem_of_getElem? (i := 1058) (by decide +kernel)⟩
theorem lw_p85 : lw_okq (⟨"IceTunesModel", "clearBank", "()V"⟩, 71) := ⟨⟨by decide +kernel, by decide +kernel⟩, List.mem_of_getElem? (i := 1079) (by decide +kernel), List.mem_of_getElem? (i := 1085) (by decide +kernel), List.mem_of_getElem? (i := 1086) (by decide +kernel)⟩
theorem lw_p86 : lw_okq (⟨"IceTunesModel", "begin", "()V"⟩, 71) := ⟨⟨by decide +kernel, by decide +kernel⟩, List.mem_of_getElem? (i := 1079) (by decide +kernel), List.mem_of_getElem? (i := 1089) (by decide +kernel), List.mem_of_getElem? (i := 1090) (by decide +kernel)⟩
theorem lw_p87 : lw_okq (⟨"IceTunesModel", "layFirst", "()V"⟩, 71) := ⟨⟨by decide +kernel, by decide +kernel⟩, List.mem_of_getElem? (i := 1079) (by decide +kernel), List.mem_of_getElem? (i := 1093) (by decide +kernel), List.mem_of_getElem? (i := 1094) (by decide +kernel)⟩
theorem lw_p88 : lw_okq (⟨"IceTunesModel", "put", "(III)V"⟩, 71) := ⟨⟨by decide +kernel, by decide +kernel⟩, List.mem_of_getElem? (i := 1079) (by decide +kernel), List.mem_of_getElem? (i := 1097) (by decide +kernel), List.mem_of_getElem? (i := 1098) (by decide +kernel)⟩
theorem lw_p89 : lw_okq (⟨"IceTunesModel", "goOn", "()V"⟩, 71) := ⟨⟨by decide +kernel, by decide +kernel⟩, List.mem_of_getElem? (i := 1079) (by decide +kernel), List.mem_of_getElem? (i := 1320) (by decide +kernel), List.mem_of_getElem? (i := 1321) (by decide +kernel)⟩
theorem lw_p90 : lw_okq (⟨"IceTunesModel", "sign", "(I)I"⟩, 71) := ⟨⟨by decide +kernel, by decide +kernel⟩, List.mem_of_getElem? (i := 1079) (by decide +kernel), List.mem_of_getElem? (i := 1324) (by decide +kernel), List.mem_of_getElem? (i := 1325) (by decide +kernel)⟩
theorem lw_p91 : lw_okq (⟨"IceTunesModel", "isGood", "()Z"⟩, 71) := ⟨⟨by decide +kernel, by decide +kernel⟩, List.mem_of_getElem? (i := 1079) (by decide +kernel), List.mem_of_getElem? (i := 1362) (by decide +kernel), List.mem_of_getElem? (i := 1363) (by decide +kernel)⟩
theorem lw_p92 : lw_okq (⟨"IceTunesModel", "readLine", "()V"⟩, 71) := ⟨⟨by decide +kernel, by decide +kernel⟩, List.mem_of_getElem? (i := 1079) (by decide +kernel), List.mem_of_getElem? (i := 1366) (by decide +kernel), List.mem_of_getElem? (i := 1367) (by decide +kernel)⟩
theorem lw_p93 : lw_okq (⟨"IceTunesModel", "isFull", "()Z"⟩, 71) := ⟨⟨by decide +kernel, by decide +kernel⟩, List.mem_of_getElem? (i := 1079) (by decide +kernel), List.mem_of_getElem? (i := 1370) (by decide +kernel), List.mem_of_getElem? (i := 1371) (by decide +kernel)⟩
theorem lw_p94 : lw_okq (⟨"IceTunesModel", "isWord", "(J)Z"⟩, 71) := ⟨⟨by decide +kernel, by decide +kernel⟩, List.mem_of_getElem? (i := 1079) (by decide +kernel), List.mem_of_getElem? (i := 1374) (by decide +kernel), List.mem_of_getElem? (i := 1375) (by decide +kernel)⟩
theorem lw_p95 : lw_okq (⟨"IceTunesModel", "misplaced", "()V"⟩, 71) := ⟨⟨by decide +kernel, by decide +kernel⟩, List.mem_of_getElem? (i := 1079) (by decide +kernel), List.mem_of_getElem? (i := 1378) (by decide +kernel), List.mem_of_getElem? (i := 1379) (by decide +kernel)⟩
def lw_privs_6 : List (MethodName × Nat) := [(⟨"IceTunes$Rows", "extend", "(I)V"⟩, 10), (⟨"IceTunes$Rows", "takeRow", "()V"⟩, 10), (⟨"IceTunes$Rows", "playsAsSeen", "(LIceTunes$Evening;I)Z"⟩, 10), (⟨"IceTunes$Sights", "areSo", "(LIceTunes$Evening;I)Z"⟩, 8), (⟨"IceTunes$Sights", "isSo", "(ILIceTunes$Evening;)Z"⟩, 8), (⟨"IceTunesModel", "clearBank", "()V"⟩, 71), (⟨"IceTunesModel", "begin", "()V"⟩, 71), (⟨"IceTunesModel", "layFirst", "()V"⟩, 71), (⟨"IceTunesModel", "put", "(III)V"⟩, 71), (⟨"IceTunesModel", "goOn", "()V"⟩, 71), (⟨"IceTunesModel", "sign", "(I)I"⟩, 71), (⟨"IceTunesModel", "isGood", "()Z"⟩, 71), (⟨"IceTunesModel", "readLine", "()V"⟩, 71), (⟨"IceTunesModel", "isFull", "()Z"⟩, 71), (⟨"IceTunesModel", "isWord", "(J)Z"⟩, 71), (⟨"IceTunesModel", "misplaced", "()V"⟩, 71)]
theorem lw_r6 : ∀ q ∈ lw_privs_6, lw_okq q := List.forall_mem_cons.mpr ⟨lw_p80, List.forall_mem_cons.mpr ⟨lw_p81, List.forall_mem_cons.mpr ⟨lw_p82, List.forall_mem_cons.mpr ⟨lw_p83, List.forall_mem_cons.mpr ⟨lw_p84, List.forall_mem_cons.mpr ⟨lw_p85, List.forall_mem_cons.mpr ⟨lw_p86, List.forall_mem_cons.mpr ⟨lw_p87, List.forall_mem_cons.mpr ⟨lw_p88, List.forall_mem_cons.mpr ⟨lw_p89, List.forall_mem_cons.mpr ⟨lw_p90, List.forall_mem_cons.mpr ⟨lw_p91, List.forall_mem_cons.mpr ⟨lw_p92, List.forall_mem_cons.mpr ⟨lw_p93, List.forall_mem_cons.mpr ⟨lw_p94, List.forall_mem_cons.mpr ⟨lw_p95, fun _ h => absurd h List.not_mem_nil⟩⟩⟩⟩⟩⟩⟩⟩⟩⟩⟩⟩⟩⟩⟩⟩
theorem lw_p96 : lw_okq (⟨"IceTunesModel", "fails", "(II)V"⟩, 71) := ⟨⟨by decide +kernel, by decide +kernel⟩, List.mem_of_getElem? (i := 1079) (by decide +kernel), List.mem_of_getElem? (i := 1382) (by decide +kernel), List.mem_of_getElem? (i := 1383) (by decide +kernel)⟩
theorem lw_p97 : lw_okq (⟨"IceTunesModel", "numeral", "(II)I"⟩, 71) := ⟨⟨by decide +kernel, by decide +kernel⟩, List.mem_of_getElem? (i := 1079) (by decide +kernel), List.mem_of_getElem? (i := 1386) (by decide +kernel), List.mem_of_getElem? (i := 1387) (by decide +kernel)⟩
theorem lw_p98 : lw_okq (⟨"IceTunesModel", "after", "(JII)I"⟩, 71) := ⟨⟨by decide +kernel, by decide +kernel⟩, List.mem_of_getElem? (i := 1079) (by decide +kernel), List.mem_of_getElem? (i := 1390) (by decide +kernel), List.mem_of_getElem? (i := 1391) (by decide +kernel)⟩
theorem lw_p99 : lw_okq (⟨"IceTunesModel", "must", "(Z)V"⟩, 71) := ⟨⟨by decide +kernel, by decide +kernel⟩, List.mem_of_getElem? (i := 1079) (by decide +kernel), List.mem_of_getElem? (i := 1394) (by decide +kernel), List.mem_of_getElem? (i := 1395) (by decide +kernel)⟩
theorem lw_p100 : lw_okq (⟨"IceTunesModel", "readCell", "()V"⟩, 71) := ⟨⟨by decide +kernel, by decide +kernel⟩, List.mem_of_getElem? (i := 1079) (by decide +kernel), List.mem_of_getElem? (i := 1398) (by decide +kernel), List.mem_of_getElem? (i := 1399) (by decide +kernel)⟩
theorem lw_p101 : lw_okq (⟨"IceTunesModel", "readPlank", "()V"⟩, 71) := ⟨⟨by decide +kernel, by decide +kernel⟩, List.mem_of_getElem? (i := 1079) (by decide +kernel), List.mem_of_getElem? (i := 1402) (by decide +kernel), List.mem_of_getElem? (i := 1403) (by decide +kernel)⟩
theorem lw_p102 : lw_okq (⟨"IceTunesModel", "readTune", "()V"⟩, 71) := ⟨⟨by decide +kernel, by decide +kernel⟩, List.mem_of_getElem? (i := 1079) (by decide +kernel), List.mem_of_getElem? (i := 1406) (by decide +kernel), List.mem_of_getElem? (i := 1407) (by decide +kernel)⟩
theorem lw_p103 : lw_okq (⟨"IceTunesModel", "here", "([JII)I"⟩, 71) := ⟨⟨by decide +kernel, by decide +kernel⟩, List.mem_of_getElem? (i := 1079) (by decide +kernel), List.mem_of_getElem? (i := 1410) (by decide +kernel), List.mem_of_getElem? (i := 1411) (by decide +kernel)⟩
theorem lw_p104 : lw_okq (⟨"IceTunesModel", "fresh", "(Z)J"⟩, 71) := ⟨⟨by decide +kernel, by decide +kernel⟩, List.mem_of_getElem? (i := 1079) (by decide +kernel), List.mem_of_getElem? (i := 1414) (by decide +kernel), List.mem_of_getElem? (i := 1415) (by decide +kernel)⟩
theorem lw_p105 : lw_okq (⟨"IceTunesModel", "readRule", "(I)V"⟩, 71) := ⟨⟨by decide +kernel, by decide +kernel⟩, List.mem_of_getElem? (i := 1079) (by decide +kernel), List.mem_of_getElem? (i := 1418) (by decide +kernel), List.mem_of_getElem? (i := 1419) (by decide +kernel)⟩
theorem lw_p106 : lw_okq (⟨"IceTunesModel", "e", "()V"⟩, 71) := ⟨⟨by decide +kernel, by decide +kernel⟩, List.mem_of_getElem? (i := 1079) (by decide +kernel), List.mem_of_getElem? (i := 1422) (by decide +kernel), List.mem_of_getElem? (i := 1423) (by decide +kernel)⟩
theorem lw_p107 : lw_okq (⟨"IceTunesModel", "pushE", "(II)V"⟩, 71) := ⟨⟨by decide +kernel, by decide +kernel⟩, List.mem_of_getElem? (i := 1079) (by decide +kernel), List.mem_of_getElem? (i := 1426) (by decide +kernel), List.mem_of_getElem? (i := 1427) (by decide +kernel)⟩
theorem lw_p108 : lw_okq (⟨"IceTunesModel", "unit", "()Z"⟩, 71) := ⟨⟨by decide +kernel, by decide +kernel⟩, List.mem_of_getElem? (i := 1079) (by decide +kernel), List.mem_of_getElem? (i := 1430) (by decide +kernel), List.mem_of_getElem? (i := 1431) (by decide +kernel)⟩
theorem lw_p109 : lw_okq (⟨"IceTunesModel", "isSignHere", "(I)Z"⟩, 71) := ⟨⟨by decide +kernel, by decide +kernel⟩, List.mem_of_getElem? (i := 1079) (by decide +kernel), List.mem_of_getElem? (i := 1434) (by decide +kernel), List.mem_of_getElem? (i := 1435) (by decide +kernel)⟩
theorem lw_p110 : lw_okq (⟨"IceTunesModel", "wordHere", "()I"⟩, 71) := ⟨⟨by decide +kernel, by decide +kernel⟩, List.mem_of_getElem? (i := 1079) (by decide +kernel), List.mem_of_getElem? (i := 1438) (by decide +kernel), List.mem_of_getElem? (i := 1439) (by decide +kernel)⟩
theorem lw_p111 : lw_okq (⟨"IceTunesModel", "emit", "(II)V"⟩, 71) := ⟨⟨by decide +kernel, by decide +kernel⟩, List.mem_of_getElem? (i := 1079) (by decide +kernel), List.mem_of_getElem? (i := 1442) (by decide +kernel), List.mem_of_getElem? (i := 1443) (by decide +kernel)⟩
def lw_privs_7 : List (MethodName × Nat) := [(⟨"IceTunesModel", "fails", "(II)V"⟩, 71), (⟨"IceTunesModel", "numeral", "(II)I"⟩, 71), (⟨"IceTunesModel", "after", "(JII)I"⟩, 71), (⟨"IceTunesModel", "must", "(Z)V"⟩, 71), (⟨"IceTunesModel", "readCell", "()V"⟩, 71), (⟨"IceTunesModel", "readPlank", "()V"⟩, 71), (⟨"IceTunesModel", "readTune", "()V"⟩, 71), (⟨"IceTunesModel", "here", "([JII)I"⟩, 71), (⟨"IceTunesModel", "fresh", "(Z)J"⟩, 71), (⟨"IceTunesModel", "readRule", "(I)V"⟩, 71), (⟨"IceTunesModel", "e", "()V"⟩, 71), (⟨"IceTunesModel", "pushE", "(II)V"⟩, 71), (⟨"IceTunesModel", "unit", "()Z"⟩, 71), (⟨"IceTunesModel", "isSignHere", "(I)Z"⟩, 71), (⟨"IceTunesModel", "wordHere", "()I"⟩, 71), (⟨"IceTunesModel", "emit", "(II)V"⟩, 71)]
theorem lw_r7 : ∀ q ∈ lw_privs_7, lw_okq q := List.forall_mem_cons.mpr ⟨lw_p96, List.forall_mem_cons.mpr ⟨lw_p97, List.forall_mem_cons.mpr ⟨lw_p98, List.forall_mem_cons.mpr ⟨lw_p99, List.forall_mem_cons.mpr ⟨lw_p100, List.forall_mem_cons.mpr ⟨lw_p101, List.forall_mem_cons.mpr ⟨lw_p102, List.forall_mem_cons.mpr ⟨lw_p103, List.forall_mem_cons.mpr ⟨lw_p104, List.forall_mem_cons.mpr ⟨lw_p105, List.forall_mem_cons.mpr ⟨lw_p106, List.forall_mem_cons.mpr ⟨lw_p107, List.forall_mem_cons.mpr ⟨lw_p108, List.forall_mem_cons.mpr ⟨lw_p109, List.forall_mem_cons.mpr ⟨lw_p110, List.forall_mem_cons.mpr ⟨lw_p111, fun _ h => absurd h List.not_mem_nil⟩⟩⟩⟩⟩⟩⟩⟩⟩⟩⟩⟩⟩⟩⟩⟩
theorem lw_p112 : lw_okq (⟨"IceTunesModel", "behindUnit", "()Z"⟩, 71) := ⟨⟨by decide +kernel, by decide +kernel⟩, List.mem_of_getElem? (i := 1079) (by decide +kernel), List.mem_of_getElem? (i := 1446) (by decide +kernel), List.mem_of_getElem? (i := 1447) (by decide +kernel)⟩
theorem lw_p113 : lw_okq (⟨"IceTunesModel", "rankHere", "()I"⟩, 71) := ⟨⟨by decide +kernel, by decide +kernel⟩, List.mem_of_getElem? (i := 1079) (by decide +kernel), List.mem_of_getElem? (i := 1450) (by decide +kernel), List.mem_of_getElem? (i := 1451) (by decide +kernel)⟩
theorem lw_p114 : lw_okq (⟨"IceTunesModel", "isCompared", "()Z"⟩, 71) := ⟨⟨by decide +kernel, by decide +kernel⟩, List.mem_of_getElem? (i := 1079) (by decide +kernel), List.mem_of_getElem? (i := 1454) (by decide +kernel), List.mem_of_getElem? (i := 1455) (by decide +kernel)⟩
theorem lw_p115 : lw_okq (⟨"IceTunesModel", "readSkater", "()V"⟩, 71) := ⟨⟨by decide +kernel, by decide +kernel⟩, List.mem_of_getElem? (i := 1079) (by decide +kernel), List.mem_of_getElem? (i := 1458) (by decide +kernel), List.mem_of_getElem? (i := 1459) (by decide +kernel)⟩
theorem lw_p116 : lw_okq (⟨"IceTunesModel", "stepHere", "()I"⟩, 71) := ⟨⟨by decide +kernel, by decide +kernel⟩, List.mem_of_getElem? (i := 1079) (by decide +kernel), List.mem_of_getElem? (i := 1462) (by decide +kernel), List.mem_of_getElem? (i := 1463) (by decide +kernel)⟩
theorem lw_p117 : lw_okq (⟨"IceTunesModel", "isCell", "(II)Z"⟩, 71) := ⟨⟨by decide +kernel, by decide +kernel⟩, List.mem_of_getElem? (i := 1079) (by decide +kernel), List.mem_of_getElem? (i := 1474) (by decide +kernel), List.mem_of_getElem? (i := 1475) (by decide +kernel)⟩
theorem lw_p118 : lw_okq (⟨"IceTunesModel", "layLoads", "()V"⟩, 71) := ⟨⟨by decide +kernel, by decide +kernel⟩, List.mem_of_getElem? (i := 1079) (by decide +kernel), List.mem_of_getElem? (i := 1485) (by decide +kernel), List.mem_of_getElem? (i := 1486) (by decide +kernel)⟩
theorem lw_p119 : lw_okq (⟨"IceTunesModel", "of", "(II)I"⟩, 71) := ⟨⟨by decide +kernel, by decide +kernel⟩, List.mem_of_getElem? (i := 1079) (by decide +kernel), List.mem_of_getElem? (i := 1489) (by decide +kernel), List.mem_of_getElem? (i := 1490) (by decide +kernel)⟩
theorem lw_p120 : lw_okq (⟨"IceTunesModel", "isSkater", "(I)Z"⟩, 71) := ⟨⟨by decide +kernel, by decide +kernel⟩, List.mem_of_getElem? (i := 1079) (by decide +kernel), List.mem_of_getElem? (i := 1497) (by decide +kernel), List.mem_of_getElem? (i := 1498) (by decide +kernel)⟩
theorem lw_p121 : lw_okq (⟨"IceTunesModel", "isTune", "(I)Z"⟩, 71) := ⟨⟨by decide +kernel, by decide +kernel⟩, List.mem_of_getElem? (i := 1079) (by decide +kernel), List.mem_of_getElem? (i := 1505) (by decide +kernel), List.mem_of_getElem? (i := 1506) (by decide +kernel)⟩
theorem lw_p122 : lw_okq (⟨"IceTunesModel", "keepAct", "()V"⟩, 71) := ⟨⟨by decide +kernel, by decide +kernel⟩, List.mem_of_getElem? (i := 1079) (by decide +kernel), List.mem_of_getElem? (i := 1509) (by decide +kernel), List.mem_of_getElem? (i := 1510) (by decide +kernel)⟩
theorem lw_p123 : lw_okq (⟨"IceTunesModel", "tune", "(I)V"⟩, 71) := ⟨⟨by decide +kernel, by decide +kernel⟩, List.mem_of_getElem? (i := 1079) (by decide +kernel), List.mem_of_getElem? (i := 1513) (by decide +kernel), List.mem_of_getElem? (i := 1514) (by decide +kernel)⟩
theorem lw_p124 : lw_okq (⟨"IceTunesModel", "bar", "(II)V"⟩, 71) := ⟨⟨by decide +kernel, by decide +kernel⟩, List.mem_of_getElem? (i := 1079) (by decide +kernel), List.mem_of_getElem? (i := 1517) (by decide +kernel), List.mem_of_getElem? (i := 1518) (by decide +kernel)⟩
theorem lw_p125 : lw_okq (⟨"IceTunesModel", "goes", "(I)V"⟩, 71) := ⟨⟨by decide +kernel, by decide +kernel⟩, List.mem_of_getElem? (i := 1079) (by decide +kernel), List.mem_of_getElem? (i := 1521) (by decide +kernel), List.mem_of_getElem? (i := 1522) (by decide +kernel)⟩
theorem lw_p126 : lw_okq (⟨"IceTunesModel", "iceAt", "(II)I"⟩, 71) := ⟨⟨by decide +kernel, by decide +kernel⟩, List.mem_of_getElem? (i := 1079) (by decide +kernel), List.mem_of_getElem? (i := 1525) (by decide +kernel), List.mem_of_getElem? (i := 1526) (by decide +kernel)⟩
theorem lw_p127 : lw_okq (⟨"IceTunesModel", "comes", "(IIIII)I"⟩, 71) := ⟨⟨by decide +kernel, by decide +kernel⟩, List.mem_of_getElem? (i := 1079) (by decide +kernel), List.mem_of_getElem? (i := 1529) (by decide +kernel), List.mem_of_getElem? (i := 1530) (by decide +kernel)⟩
def lw_privs_8 : List (MethodName × Nat) := [(⟨"IceTunesModel", "behindUnit", "()Z"⟩, 71), (⟨"IceTunesModel", "rankHere", "()I"⟩, 71), (⟨"IceTunesModel", "isCompared", "()Z"⟩, 71), (⟨"IceTunesModel", "readSkater", "()V"⟩, 71), (⟨"IceTunesModel", "stepHere", "()I"⟩, 71), (⟨"IceTunesModel", "isCell", "(II)Z"⟩, 71), (⟨"IceTunesModel", "layLoads", "()V"⟩, 71), (⟨"IceTunesModel", "of", "(II)I"⟩, 71), (⟨"IceTunesModel", "isSkater", "(I)Z"⟩, 71), (⟨"IceTunesModel", "isTune", "(I)Z"⟩, 71), (⟨"IceTunesModel", "keepAct", "()V"⟩, 71), (⟨"IceTunesModel", "tune", "(I)V"⟩, 71), (⟨"IceTunesModel", "bar", "(II)V"⟩, 71), (⟨"IceTunesModel", "goes", "(I)V"⟩, 71), (⟨"IceTunesModel", "iceAt", "(II)I"⟩, 71), (⟨"IceTunesModel", "comes", "(IIIII)I"⟩, 71)]
theorem lw_r8 : ∀ q ∈ lw_privs_8, lw_okq q := List.forall_mem_cons.mpr ⟨lw_p112, List.forall_mem_cons.mpr ⟨lw_p113, List.forall_mem_cons.mpr ⟨lw_p114, List.forall_mem_cons.mpr ⟨lw_p115, List.forall_mem_cons.mpr ⟨lw_p116, List.forall_mem_cons.mpr ⟨lw_p117, List.forall_mem_cons.mpr ⟨lw_p118, List.forall_mem_cons.mpr ⟨lw_p119, List.forall_mem_cons.mpr ⟨lw_p120, List.forall_mem_cons.mpr ⟨lw_p121, List.forall_mem_cons.mpr ⟨lw_p122, List.forall_mem_cons.mpr ⟨lw_p123, List.forall_mem_cons.mpr ⟨lw_p124, List.forall_mem_cons.mpr ⟨lw_p125, List.forall_mem_cons.mpr ⟨lw_p126, List.forall_mem_cons.mpr ⟨lw_p127, fun _ h => absurd h List.not_mem_nil⟩⟩⟩⟩⟩⟩⟩⟩⟩⟩⟩⟩⟩⟩⟩⟩
theorem lw_p128 : lw_okq (⟨"IceTunesModel", "breaksAt", "(III)V"⟩, 71) := ⟨⟨by decide +kernel, by decide +kernel⟩, List.mem_of_getElem? (i := 1079) (by decide +kernel), List.mem_of_getElem? (i := 1536) (by decide +kernel), List.mem_of_getElem? (i := 1537) (by decide +kernel)⟩
theorem lw_p129 : lw_okq (⟨"IceTunesModel", "upMany", "()I"⟩, 71) := ⟨⟨by decide +kernel, by decide +kernel⟩, List.mem_of_getElem? (i := 1079) (by decide +kernel), List.mem_of_getElem? (i := 1540) (by decide +kernel), List.mem_of_getElem? (i := 1541) (by decide +kernel)⟩
theorem lw_p130 : lw_okq (⟨"IceTunesModel", "silence", "(I)V"⟩, 71) := ⟨⟨by decide +kernel, by decide +kernel⟩, List.mem_of_getElem? (i := 1079) (by decide +kernel), List.mem_of_getElem? (i := 1548) (by decide +kernel), List.mem_of_getElem? (i := 1549) (by decide +kernel)⟩
theorem lw_p131 : lw_okq (⟨"IceTunesModel", "exchange", "()V"⟩, 71) := ⟨⟨by decide +kernel, by decide +kernel⟩, List.mem_of_getElem? (i := 1079) (by decide +kernel), List.mem_of_getElem? (i := 1556) (by decide +kernel), List.mem_of_getElem? (i := 1557) (by decide +kernel)⟩
theorem lw_p132 : lw_okq (⟨"IceTunesModel", "isSet", "(I)Z"⟩, 71) := ⟨⟨by decide +kernel, by decide +kernel⟩, List.mem_of_getElem? (i := 1079) (by decide +kernel), List.mem_of_getElem? (i := 1572) (by decide +kernel), List.mem_of_getElem? (i := 1573) (by decide +kernel)⟩
theorem lw_p133 : lw_okq (⟨"IceTunesModel", "layTunes", "(I)I"⟩, 71) := ⟨⟨by decide +kernel, by decide +kernel⟩, List.mem_of_getElem? (i := 1079) (by decide +kernel), List.mem_of_getElem? (i := 1576) (by decide +kernel), List.mem_of_getElem? (i := 1577) (by decide +kernel)⟩
theorem lw_p134 : lw_okq (⟨"IceTunesModel", "keep", "(I)V"⟩, 71) := ⟨⟨by decide +kernel, by decide +kernel⟩, List.mem_of_getElem? (i := 1079) (by decide +kernel), List.mem_of_getElem? (i := 1580) (by decide +kernel), List.mem_of_getElem? (i := 1581) (by decide +kernel)⟩
theorem lw_p135 : lw_okq (⟨"IceTunesModel", "inMany", "()I"⟩, 71) := ⟨⟨by decide +kernel, by decide +kernel⟩, List.mem_of_getElem? (i := 1079) (by decide +kernel), List.mem_of_getElem? (i := 1584) (by decide +kernel), List.mem_of_getElem? (i := 1585) (by decide +kernel)⟩
theorem lw_p136 : lw_okq (⟨"IceTunesModel", "bring", "(I)V"⟩, 71) := ⟨⟨by decide +kernel, by decide +kernel⟩, List.mem_of_getElem? (i := 1079) (by decide +kernel), List.mem_of_getElem? (i := 1588) (by decide +kernel), List.mem_of_getElem? (i := 1589) (by decide +kernel)⟩
theorem lw_p137 : lw_okq (⟨"IceTunesModel", "nextOrder", "(I)Z"⟩, 71) := ⟨⟨by decide +kernel, by decide +kernel⟩, List.mem_of_getElem? (i := 1079) (by decide +kernel), List.mem_of_getElem? (i := 1592) (by decide +kernel), List.mem_of_getElem? (i := 1593) (by decide +kernel)⟩
theorem lw_p138 : lw_okq (⟨"IceTunesModel", "swap", "(II)V"⟩, 71) := ⟨⟨by decide +kernel, by decide +kernel⟩, List.mem_of_getElem? (i := 1079) (by decide +kernel), List.mem_of_getElem? (i := 1596) (by decide +kernel), List.mem_of_getElem? (i := 1597) (by decide +kernel)⟩
theorem lw_p139 : lw_okq (⟨"IceTunesModel", "lay", "([II)V"⟩, 71) := ⟨⟨by decide +kernel, by decide +kernel⟩, List.mem_of_getElem? (i := 1079) (by decide +kernel), List.mem_of_getElem? (i := 1600) (by decide +kernel), List.mem_of_getElem? (i := 1601) (by decide +kernel)⟩
theorem lw_p140 : lw_okq (⟨"IceTunesModel", "duels", "(II)I"⟩, 71) := ⟨⟨by decide +kernel, by decide +kernel⟩, List.mem_of_getElem? (i := 1079) (by decide +kernel), List.mem_of_getElem? (i := 1608) (by decide +kernel), List.mem_of_getElem? (i := 1609) (by decide +kernel)⟩
theorem lw_p141 : lw_okq (⟨"IceTunesModel", "takes", "(II)V"⟩, 71) := ⟨⟨by decide +kernel, by decide +kernel⟩, List.mem_of_getElem? (i := 1079) (by decide +kernel), List.mem_of_getElem? (i := 1612) (by decide +kernel), List.mem_of_getElem? (i := 1613) (by decide +kernel)⟩
theorem lw_p142 : lw_okq (⟨"IceTunesModel", "isDry", "(I)Z"⟩, 71) := ⟨⟨by decide +kernel, by decide +kernel⟩, List.mem_of_getElem? (i := 1079) (by decide +kernel), List.mem_of_getElem? (i := 1620) (by decide +kernel), List.mem_of_getElem? (i := 1621) (by decide +kernel)⟩
theorem lw_p143 : lw_okq (⟨"IceTunesModel", "isDryBy", "(III)Z"⟩, 71) := ⟨⟨by decide +kernel, by decide +kernel⟩, List.mem_of_getElem? (i := 1079) (by decide +kernel), List.mem_of_getElem? (i := 1624) (by decide +kernel), List.mem_of_getElem? (i := 1625) (by decide +kernel)⟩
def lw_privs_9 : List (MethodName × Nat) := [(⟨"IceTunesModel", "breaksAt", "(III)V"⟩, 71), (⟨"IceTunesModel", "upMany", "()I"⟩, 71), (⟨"IceTunesModel", "silence", "(I)V"⟩, 71), (⟨"IceTunesModel", "exchange", "()V"⟩, 71), (⟨"IceTunesModel", "isSet", "(I)Z"⟩, 71), (⟨"IceTunesModel", "layTunes", "(I)I"⟩, 71), (⟨"IceTunesModel", "keep", "(I)V"⟩, 71), (⟨"IceTunesModel", "inMany", "()I"⟩, 71), (⟨"IceTunesModel", "bring", "(I)V"⟩, 71), (⟨"IceTunesModel", "nextOrder", "(I)Z"⟩, 71), (⟨"IceTunesModel", "swap", "(II)V"⟩, 71), (⟨"IceTunesModel", "lay", "([II)V"⟩, 71), (⟨"IceTunesModel", "duels", "(II)I"⟩, 71), (⟨"IceTunesModel", "takes", "(II)V"⟩, 71), (⟨"IceTunesModel", "isDry", "(I)Z"⟩, 71), (⟨"IceTunesModel", "isDryBy", "(III)Z"⟩, 71)]
theorem lw_r9 : ∀ q ∈ lw_privs_9, lw_okq q := List.forall_mem_cons.mpr ⟨lw_p128, List.forall_mem_cons.mpr ⟨lw_p129, List.forall_mem_cons.mpr ⟨lw_p130, List.forall_mem_cons.mpr ⟨lw_p131, List.forall_mem_cons.mpr ⟨lw_p132, List.forall_mem_cons.mpr ⟨lw_p133, List.forall_mem_cons.mpr ⟨lw_p134, List.forall_mem_cons.mpr ⟨lw_p135, List.forall_mem_cons.mpr ⟨lw_p136, List.forall_mem_cons.mpr ⟨lw_p137, List.forall_mem_cons.mpr ⟨lw_p138, List.forall_mem_cons.mpr ⟨lw_p139, List.forall_mem_cons.mpr ⟨lw_p140, List.forall_mem_cons.mpr ⟨lw_p141, List.forall_mem_cons.mpr ⟨lw_p142, List.forall_mem_cons.mpr ⟨lw_p143, fun _ h => absurd h List.not_mem_nil⟩⟩⟩⟩⟩⟩⟩⟩⟩⟩⟩⟩⟩⟩⟩⟩
theorem lw_p144 : lw_okq (⟨"IceTunesModel", "addSight", "(IIII)I"⟩, 71) := ⟨⟨by decide +kernel, by decide +kernel⟩, List.mem_of_getElem? (i := 1079) (by decide +kernel), List.mem_of_getElem? (i := 1640) (by decide +kernel), List.mem_of_getElem? (i := 1641) (by decide +kernel)⟩
theorem lw_p145 : lw_okq (⟨"IceTunesModel", "layAsked", "(II)V"⟩, 71) := ⟨⟨by decide +kernel, by decide +kernel⟩, List.mem_of_getElem? (i := 1079) (by decide +kernel), List.mem_of_getElem? (i := 1661) (by decide +kernel), List.mem_of_getElem? (i := 1662) (by decide +kernel)⟩
theorem lw_p146 : lw_okq (⟨"IceTunesModel", "areSoBy", "(II)Z"⟩, 71) := ⟨⟨by decide +kernel, by decide +kernel⟩, List.mem_of_getElem? (i := 1079) (by decide +kernel), List.mem_of_getElem? (i := 1665) (by decide +kernel), List.mem_of_getElem? (i := 1666) (by decide +kernel)⟩
theorem lw_p147 : lw_okq (⟨"IceTunesModel", "areSoNow", "(I)Z"⟩, 71) := ⟨⟨by decide +kernel, by decide +kernel⟩, List.mem_of_getElem? (i := 1079) (by decide +kernel), List.mem_of_getElem? (i := 1669) (by decide +kernel), List.mem_of_getElem? (i := 1670) (by decide +kernel)⟩
theorem lw_p148 : lw_okq (⟨"IceTunesModel", "counts", "(II)Z"⟩, 71) := ⟨⟨by decide +kernel, by decide +kernel⟩, List.mem_of_getElem? (i := 1079) (by decide +kernel), List.mem_of_getElem? (i := 1673) (by decide +kernel), List.mem_of_getElem? (i := 1674) (by decide +kernel)⟩
def lw_privs_10 : List (MethodName × Nat) := [(⟨"IceTunesModel", "addSight", "(IIII)I"⟩, 71), (⟨"IceTunesModel", "layAsked", "(II)V"⟩, 71), (⟨"IceTunesModel", "areSoBy", "(II)Z"⟩, 71), (⟨"IceTunesModel", "areSoNow", "(I)Z"⟩, 71), (⟨"IceTunesModel", "counts", "(II)Z"⟩, 71)]
theorem lw_r10 : ∀ q ∈ lw_privs_10, lw_okq q := List.forall_mem_cons.mpr ⟨lw_p144, List.forall_mem_cons.mpr ⟨lw_p145, List.forall_mem_cons.mpr ⟨lw_p146, List.forall_mem_cons.mpr ⟨lw_p147, List.forall_mem_cons.mpr ⟨lw_p148, fun _ h => absurd h List.not_mem_nil⟩⟩⟩⟩⟩
def lw_privs : List (MethodName × Nat) := lw_privs_1 ++ (lw_privs_2 ++ (lw_privs_3 ++ (lw_privs_4 ++ (lw_privs_5 ++ (lw_privs_6 ++ (lw_privs_7 ++ (lw_privs_8 ++ (lw_privs_9 ++ (lw_privs_10)))))))))
def lw_tbl : List Cond := k2_sels lw_privs ++ tables_1
theorem lw_privs_ok : ∀ q ∈ lw_privs, lw_okq q := by
  show ∀ q ∈ lw_privs_1 ++ (lw_privs_2 ++ (lw_privs_3 ++ (lw_privs_4 ++ (lw_privs_5 ++ (lw_privs_6 ++ (lw_privs_7 ++ (lw_privs_8 ++ (lw_privs_9 ++ (lw_privs_10))))))))), lw_okq q
  exact List.forall_mem_append.mpr ⟨lw_r1, List.forall_mem_append.mpr ⟨lw_r2, List.forall_mem_append.mpr ⟨lw_r3, List.forall_mem_append.mpr ⟨lw_r4, List.forall_mem_append.mpr ⟨lw_r5, List.forall_mem_append.mpr ⟨lw_r6, List.forall_mem_append.mpr ⟨lw_r7, List.forall_mem_append.mpr ⟨lw_r8, List.forall_mem_append.mpr ⟨lw_r9, lw_r10⟩⟩⟩⟩⟩⟩⟩⟩⟩
-- ===== end of PART A; then your names; then what follows =====
/-! THE CLAIM OUT OF ONE WALK OF THE LAW'S BODY. Your part is whole_start (and what it stands on); all else here is the same for every law, but numbers. -/
def R_law : String := "IceTunesLaw"
def lw_P (b : Addr) (xs : List Int32) (args : Array Value) (s : State) : Prop := args = #[.ref b] ∧ s.IntsAt b xs ∧ xs.length ≤ 3072 ∧ (Jvm.Cond.and given_1 narrow_1).before args s = true
def lw_Q (_ : Array Value) (s : State) (o : Outcome) (t : State) : Prop := o = .returned (some (.int 1)) ∧ Framed s o t [] 600000 7302250
def lw_Z (below : List Frame) (a : Array Value) (s : State) : State → Prop := fun t => ∃ o, t.status = .running ∧ Ended t below o ∧ lw_Q a s o t
/-- the law's own end, with 1 on the stack, nothing written that was there before, its room as the claim has it -/
theorem lw_ret {p : Program} {l : Launch} {e : Env} {s : State} {m : MethodId} {below : List Frame} {meth : Method} {c : Code} {b : Nat} (hx : p.tables.exec = Jvm.exec) (hb : c.code = code) (hr : meth.sig.returnType = ret) (hlocks : meth.locks = false) {pc : Nat} {H : Heap} {ls : Array Slot} (hdg : decode code pc = .ok (.ireturn, 1)) : W p l e room_1 s m #[Value.ref b] below meth c H [] 600000 7302250 (lw_Z below #[Value.ref b] s) (F0 m pc ls [.int 1]) := by
  intro T hT X
  obtain ⟨fs, hret, hrun, hended, hW, hframe⟩ := X.leave (v := some (.int 1)) (hlocks := hlocks) (fun h => by rw [hr] at h; cases h)
  have hmeth' : T.vm.method? m = some meth := X.method'
  refine ⟨T.setFrames fs, ?_, .returned (some (.int 1)), hrun, hended, rfl, ⟨_, rfl⟩, hW, hframe⟩
  jvm_step X.here [X.here.top, hx, hb, hdg, hmeth', hr, ret, narrow_b1]
  (try refine ⟨rfl, ?_⟩); (try refine ⟨rfl, ?_⟩)
  first | (intro acts; rw [hret _ acts rfl rfl rfl]) | rw [hret _ _ rfl rfl rfl]
  exact Steps.refl _
/-- what holds at the law's entry: the machine, the code, the tables' words (any of lw_tbl by 'hts w (by decide +kernel)'), the script of L ints xs at the cell b, what the Statement gives of the start (any of its parts by flat_of_before) -/
def lw_At (p : Program) (s : State) (m : MethodId) (meth : Method) (c : Code) (b L : Nat) (xs : Nat → Int32) : Prop :=
  p.tables.exec = Jvm.exec ∧ c.code = code ∧ meth.sig.returnType = ret ∧ c.maxLocals = 4 ∧ s.vm.findClass R_law = some m.cls ∧ (∀ w ∈ lw_tbl, w.before #[Value.ref b] s = true) ∧ va_X b L xs s s.heap ∧ b < s.heap.size ∧ meth.locks = false ∧ (Jvm.Cond.and given_1 narrow_1).before #[Value.ref b] s = true
end
section
def RX0 : String := "IceTunes$Band"
def TX0 : u_T := fun k => match k with
  | 0 => ("IceTunes$Band", "pond", "LIceTunes$Pond;", false)
  | 1 => ("IceTunes$Band", "loads", "[I", true)
  | 2 => ("IceTunes$Band", "nextIce", "[I", true)
  | 3 => ("IceTunes$Band", "stack", "[I", true)
  | 4 => ("IceTunes$Band", "ice", "I", false)
  | 5 => ("IceTunes$Band", "beat", "I", false)
  | 6 => ("IceTunes$Band", "load", "I", false)
  | _ => ("IceTunes$Band", "around", "I", false)
def tyX0 : Nat → FieldType := fun k => match k with
  | 0 => .object "IceTunes$Pond"
  | 1 => .array .int
  | 2 => .array .int
  | 3 => .array .int
  | 4 => .int
  | 5 => .int
  | 6 => .int
  | _ => .int
abbrev wsX00 : List Cond := u_ws RX0 TX0 8
theorem nmX0 : ∀ a, a < 8 → ∀ b, b < 8 → a ≠ b → (TX0 a).2.1 ≠ (TX0 b).2.1 := by decide +kernel
theorem tyX0_ok : ∀ k, k < 8 → parseFieldDescriptor (TX0 k).2.2.1 = some (tyX0 k) := by decide +kernel
abbrev cX0_init : ByteArray := prog_2_method_1_code
def yX0_init : MethodName := ⟨RX0, "<init>", "(LIceTunes$Pond;)V"⟩
abbrev cX0_playTune : ByteArray := prog_2_method_2_code
def yX0_playTune : MethodName := ⟨RX0, "playTune", "(LIceTunes$Evening;I)V"⟩
abbrev cX0_keepSilence : ByteArray := prog_2_method_3_code
def yX0_keepSilence : MethodName := ⟨RX0, "keepSilence", "(LIceTunes$Evening;I)V"⟩
abbrev cX0_playBar : ByteArray := prog_2_method_4_code
def yX0_playBar : MethodName := ⟨RX0, "playBar", "(LIceTunes$Evening;II)Z"⟩
abbrev cX0_stepAll : ByteArray := prog_2_method_5_code
def yX0_stepAll : MethodName := ⟨RX0, "stepAll", "(LIceTunes$Evening;)V"⟩
abbrev cX0_freeze : ByteArray := prog_2_method_6_code
def yX0_freeze : MethodName := ⟨RX0, "freeze", "(LIceTunes$Evening;II)V"⟩
abbrev cX0_iceAround : ByteArray := prog_2_method_7_code
def yX0_iceAround : MethodName := ⟨RX0, "iceAround", "(LIceTunes$Evening;II)I"⟩
abbrev cX0_workOut : ByteArray := prog_2_method_8_code
def yX0_workOut : MethodName := ⟨RX0, "workOut", "(II)I"⟩
abbrev cX0_look : ByteArray := prog_2_method_9_code
def yX0_look : MethodName := ⟨RX0, "look", "(I)I"⟩
abbrev cX0_join : ByteArray := prog_2_method_10_code
def yX0_join : MethodName := ⟨RX0, "join", "(III)I"⟩
abbrev cX0_isTooHeavy : ByteArray := prog_2_method_11_code
def yX0_isTooHeavy : MethodName := ⟨RX0, "isTooHeavy", "(LIceTunes$Evening;I)Z"⟩
abbrev cX0_breakCells : ByteArray := prog_2_method_12_code
def yX0_breakCells : MethodName := ⟨RX0, "breakCells", "(LIceTunes$Evening;II)Z"⟩
abbrev cX0_sink : ByteArray := prog_2_method_13_code
def yX0_sink : MethodName := ⟨RX0, "sink", "(LIceTunes$Evening;III)V"⟩
def RX1 : String := "IceTunes$Duel"
def TX1 : u_T := fun k => match k with
  | 0 => ("IceTunes$Duel", "band", "LIceTunes$Band;", true)
  | 1 => ("IceTunes$Duel", "desk", "[LIceTunes$Evening;", true)
  | 2 => ("IceTunes$Duel", "set", "I", false)
  | 3 => ("IceTunes$Duel", "turns", "I", false)
  | _ => ("IceTunes$Duel", "choice", "I", false)
def tyX1 : Nat → FieldType := fun k => match k with
  | 0 => .object "IceTunes$Band"
  | 1 => .array (.object "IceTunes$Evening")
  | 2 => .int
  | 3 => .int
  | _ => .int
abbrev wsX10 : List Cond := u_ws RX1 TX1 5
theorem nmX1 : ∀ a, a < 5 → ∀ b, b < 5 → a ≠ b → (TX1 a).2.1 ≠ (TX1 b).2.1 := by decide +kernel
theorem tyX1_ok : ∀ k, k < 5 → parseFieldDescriptor (TX1 k).2.2.1 = some (tyX1 k) := by decide +kernel
abbrev cX1_init : ByteArray := prog_3_method_1_code
def yX1_init : MethodName := ⟨RX1, "<init>", "(LIceTunes$Band;[LIceTunes$Evening;)V"⟩
abbrev cX1_mostUp : ByteArray := prog_3_method_2_code
def yX1_mostUp : MethodName := ⟨RX1, "mostUp", "(LIceTunes$Evening;II)I"⟩
abbrev cX1_chooseMost : ByteArray := prog_3_method_3_code
def yX1_chooseMost : MethodName := ⟨RX1, "chooseMost", "(III)I"⟩
abbrev cX1_chooseLeast : ByteArray := prog_3_method_4_code
def yX1_chooseLeast : MethodName := ⟨RX1, "chooseLeast", "(III)I"⟩
abbrev cX1_tryTune : ByteArray := prog_3_method_5_code
def yX1_tryTune : MethodName := ⟨RX1, "tryTune", "(IIII)I"⟩
def RX2 : String := "IceTunes$Evening"
def TX2 : u_T := fun k => match k with
  | 0 => ("IceTunes$Evening", "bars", "I", false)
  | 1 => ("IceTunes$Evening", "in", "I", false)
  | 2 => ("IceTunes$Evening", "ice", "[I", true)
  | 3 => ("IceTunes$Evening", "spot", "[I", true)
  | 4 => ("IceTunes$Evening", "inBar", "[I", true)
  | 5 => ("IceTunes$Evening", "inTune", "[I", true)
  | _ => ("IceTunes$Evening", "inBeat", "[I", true)
def tyX2 : Nat → FieldType := fun k => match k with
  | 0 => .int
  | 1 => .int
  | 2 => .array .int
  | 3 => .array .int
  | 4 => .array .int
  | 5 => .array .int
  | _ => .array .int
abbrev wsX20 : List Cond := u_ws RX2 TX2 7
theorem nmX2 : ∀ a, a < 7 → ∀ b, b < 7 → a ≠ b → (TX2 a).2.1 ≠ (TX2 b).2.1 := by decide +kernel
theorem tyX2_ok : ∀ k, k < 7 → parseFieldDescriptor (TX2 k).2.2.1 = some (tyX2 k) := by decide +kernel
abbrev cX2_init : ByteArray := prog_4_method_1_code
def yX2_init : MethodName := ⟨RX2, "<init>", "()V"⟩
abbrev cX2_begin : ByteArray := prog_4_method_2_code
def yX2_begin : MethodName := ⟨RX2, "begin", "(LIceTunes$Pond;)V"⟩
abbrev cX2_copy : ByteArray := prog_4_method_3_code
def yX2_copy : MethodName := ⟨RX2, "copy", "(LIceTunes$Evening;)V"⟩
abbrev cX2_isUp : ByteArray := prog_4_method_4_code
def yX2_isUp : MethodName := ⟨RX2, "isUp", "(I)Z"⟩
abbrev cX2_countUp : ByteArray := prog_4_method_5_code
def yX2_countUp : MethodName := ⟨RX2, "countUp", "(LIceTunes$Pond;)I"⟩
abbrev cX2_loadOf : ByteArray := prog_4_method_6_code
def yX2_loadOf : MethodName := ⟨RX2, "loadOf", "(ILIceTunes$Pond;)I"⟩
abbrev cX2_thicken : ByteArray := prog_4_method_7_code
def yX2_thicken : MethodName := ⟨RX2, "thicken", "(I)V"⟩
def RX3 : String := "IceTunes$Forecast"
def TX3 : u_T := fun k => match k with
  | 0 => ("IceTunes$Forecast", "band", "LIceTunes$Band;", true)
  | 1 => ("IceTunes$Forecast", "desk", "[LIceTunes$Evening;", true)
  | 2 => ("IceTunes$Forecast", "row", "[I", true)
  | 3 => ("IceTunes$Forecast", "best", "[I", true)
  | _ => ("IceTunes$Forecast", "fewest", "I", false)
def tyX3 : Nat → FieldType := fun k => match k with
  | 0 => .object "IceTunes$Band"
  | 1 => .array (.object "IceTunes$Evening")
  | 2 => .array .int
  | 3 => .array .int
  | _ => .int
abbrev wsX30 : List Cond := u_ws RX3 TX3 5
theorem nmX3 : ∀ a, a < 5 → ∀ b, b < 5 → a ≠ b → (TX3 a).2.1 ≠ (TX3 b).2.1 := by decide +kernel
theorem tyX3_ok : ∀ k, k < 5 → parseFieldDescriptor (TX3 k).2.2.1 = some (tyX3 k) := by decide +kernel
abbrev cX3_init : ByteArray := prog_5_method_1_code
def yX3_init : MethodName := ⟨RX3, "<init>", "(LIceTunes$Band;[LIceTunes$Evening;)V"⟩
abbrev cX3_fewestIn : ByteArray := prog_5_method_2_code
def yX3_fewestIn : MethodName := ⟨RX3, "fewestIn", "(LIceTunes$Evening;I)I"⟩
abbrev cX3_arrange : ByteArray := prog_5_method_3_code
def yX3_arrange : MethodName := ⟨RX3, "arrange", "(II)V"⟩
abbrev cX3_fewestPlanks : ByteArray := prog_5_method_4_code
def yX3_fewestPlanks : MethodName := ⟨RX3, "fewestPlanks", "(LIceTunes$Evening;I)I"⟩
abbrev cX3_listCells : ByteArray := prog_5_method_5_code
def yX3_listCells : MethodName := ⟨RX3, "listCells", "(I)V"⟩
abbrev cX3_bestSilence : ByteArray := prog_5_method_6_code
def yX3_bestSilence : MethodName := ⟨RX3, "bestSilence", "(LIceTunes$Evening;I)I"⟩
abbrev cX3_firstBreak : ByteArray := prog_5_method_7_code
def yX3_firstBreak : MethodName := ⟨RX3, "firstBreak", "(LIceTunes$Evening;II)I"⟩
def RX4 : String := "IceTunes$History"
def TX4 : u_T := fun k => match k with
  | 0 => ("IceTunes$History", "slots", "[LIceTunes$Evening;", true)
  | 1 => ("IceTunes$History", "first", "I", false)
  | 2 => ("IceTunes$History", "done", "I", false)
  | _ => ("IceTunes$History", "undone", "I", false)
def tyX4 : Nat → FieldType := fun k => match k with
  | 0 => .array (.object "IceTunes$Evening")
  | 1 => .int
  | 2 => .int
  | _ => .int
abbrev wsX40 : List Cond := u_ws RX4 TX4 4
theorem nmX4 : ∀ a, a < 4 → ∀ b, b < 4 → a ≠ b → (TX4 a).2.1 ≠ (TX4 b).2.1 := by decide +kernel
theorem tyX4_ok : ∀ k, k < 4 → parseFieldDescriptor (TX4 k).2.2.1 = some (tyX4 k) := by decide +kernel
abbrev cX4_init : ByteArray := prog_6_method_1_code
def yX4_init : MethodName := ⟨RX4, "<init>", "()V"⟩
abbrev cX4_now : ByteArray := prog_6_method_2_code
def yX4_now : MethodName := ⟨RX4, "now", "()LIceTunes$Evening;"⟩
abbrev cX4_goOn : ByteArray := prog_6_method_3_code
def yX4_goOn : MethodName := ⟨RX4, "goOn", "()LIceTunes$Evening;"⟩
abbrev cX4_takeBack : ByteArray := prog_6_method_4_code
def yX4_takeBack : MethodName := ⟨RX4, "takeBack", "()Z"⟩
abbrev cX4_doAgain : ByteArray := prog_6_method_5_code
def yX4_doAgain : MethodName := ⟨RX4, "doAgain", "()Z"⟩
abbrev cX4_forget : ByteArray := prog_6_method_6_code
def yX4_forget : MethodName := ⟨RX4, "forget", "()V"⟩
def RX5 : String := "IceTunes$Pond"
def TX5 : u_T := fun k => match k with
  | 0 => ("IceTunes$Pond", "across", "I", false)
  | 1 => ("IceTunes$Pond", "down", "I", false)
  | 2 => ("IceTunes$Pond", "allIce", "I", false)
  | 3 => ("IceTunes$Pond", "cellIce", "[I", true)
  | 4 => ("IceTunes$Pond", "planked", "[Z", true)
  | 5 => ("IceTunes$Pond", "planks", "I", false)
  | 6 => ("IceTunes$Pond", "tunes", "I", false)
  | 7 => ("IceTunes$Pond", "bars", "[I", true)
  | 8 => ("IceTunes$Pond", "hasSilence", "Z", false)
  | 9 => ("IceTunes$Pond", "skaters", "I", false)
  | 10 => ("IceTunes$Pond", "weight", "[I", true)
  | 11 => ("IceTunes$Pond", "home", "[I", true)
  | 12 => ("IceTunes$Pond", "steps", "[B", true)
  | 13 => ("IceTunes$Pond", "stepCount", "[I", true)
  | 14 => ("IceTunes$Pond", "units", "I", false)
  | 15 => ("IceTunes$Pond", "code", "[I", true)
  | 16 => ("IceTunes$Pond", "codes", "I", false)
  | 17 => ("IceTunes$Pond", "codeFrom", "[I", true)
  | _ => ("IceTunes$Pond", "codeTo", "[I", true)
def tyX5 : Nat → FieldType := fun k => match k with
  | 0 => .int
  | 1 => .int
  | 2 => .int
  | 3 => .array .int
  | 4 => .array .boolean
  | 5 => .int
  | 6 => .int
  | 7 => .array .int
  | 8 => .boolean
  | 9 => .int
  | 10 => .array .int
  | 11 => .array .int
  | 12 => .array .byte
  | 13 => .array .int
  | 14 => .int
  | 15 => .array .int
  | 16 => .int
  | 17 => .array .int
  | _ => .array .int
abbrev wsX50 : List Cond := u_ws RX5 TX5 19
theorem nmX5 : ∀ a, a < 19 → ∀ b, b < 19 → a ≠ b → (TX5 a).2.1 ≠ (TX5 b).2.1 := by decide +kernel
theorem tyX5_ok : ∀ k, k < 19 → parseFieldDescriptor (TX5 k).2.2.1 = some (tyX5 k) := by decide +kernel
abbrev cX5_init : ByteArray := prog_7_method_1_code
def yX5_init : MethodName := ⟨RX5, "<init>", "()V"⟩
abbrev cX5_clear : ByteArray := prog_7_method_2_code
def yX5_clear : MethodName := ⟨RX5, "clear", "()V"⟩
abbrev cX5_hasCell : ByteArray := prog_7_method_3_code
def yX5_hasCell : MethodName := ⟨RX5, "hasCell", "(II)Z"⟩
abbrev cX5_hasTune : ByteArray := prog_7_method_4_code
def yX5_hasTune : MethodName := ⟨RX5, "hasTune", "(I)Z"⟩
abbrev cX5_hasTunes : ByteArray := prog_7_method_5_code
def yX5_hasTunes : MethodName := ⟨RX5, "hasTunes", "(I)Z"⟩
abbrev cX5_hasSkater : ByteArray := prog_7_method_6_code
def yX5_hasSkater : MethodName := ⟨RX5, "hasSkater", "(I)Z"⟩
abbrev cX5_iceAtFirst : ByteArray := prog_7_method_7_code
def yX5_iceAtFirst : MethodName := ⟨RX5, "iceAtFirst", "(I)I"⟩
abbrev cX5_stepOf : ByteArray := prog_7_method_8_code
def yX5_stepOf : MethodName := ⟨RX5, "stepOf", "(II)I"⟩
abbrev cX5_beside : ByteArray := prog_7_method_9_code
def yX5_beside : MethodName := ⟨RX5, "beside", "(II)I"⟩
def RX6 : String := "IceTunes$Reader"
def TX6 : u_T := fun k => match k with
  | 0 => ("IceTunes$Reader", "tokens", "LIceTunes$Tokens;", true)
  | 1 => ("IceTunes$Reader", "pond", "LIceTunes$Pond;", false)
  | 2 => ("IceTunes$Reader", "fault", "I", false)
  | 3 => ("IceTunes$Reader", "place", "I", false)
  | 4 => ("IceTunes$Reader", "number", "I", false)
  | 5 => ("IceTunes$Reader", "cell", "I", false)
  | 6 => ("IceTunes$Reader", "formulaUnits", "I", false)
  | 7 => ("IceTunes$Reader", "nameFrom", "[I", true)
  | _ => ("IceTunes$Reader", "nameLetters", "[I", true)
def tyX6 : Nat → FieldType := fun k => match k with
  | 0 => .object "IceTunes$Tokens"
  | 1 => .object "IceTunes$Pond"
  | 2 => .int
  | 3 => .int
  | 4 => .int
  | 5 => .int
  | 6 => .int
  | 7 => .array .int
  | _ => .array .int
abbrev wsX60 : List Cond := u_ws RX6 TX6 9
theorem nmX6 : ∀ a, a < 9 → ∀ b, b < 9 → a ≠ b → (TX6 a).2.1 ≠ (TX6 b).2.1 := by decide +kernel
theorem tyX6_ok : ∀ k, k < 9 → parseFieldDescriptor (TX6 k).2.2.1 = some (tyX6 k) := by decide +kernel
abbrev cX6_init : ByteArray := prog_8_method_1_code
def yX6_init : MethodName := ⟨RX6, "<init>", "()V"⟩
abbrev cX6_read : ByteArray := prog_8_method_2_code
def yX6_read : MethodName := ⟨RX6, "read", "([BILIceTunes$Pond;)Z"⟩
abbrev cX6_fail : ByteArray := prog_8_method_3_code
def yX6_fail : MethodName := ⟨RX6, "fail", "(I)Z"⟩
abbrev cX6_take : ByteArray := prog_8_method_4_code
def yX6_take : MethodName := ⟨RX6, "take", "(I)Z"⟩
abbrev cX6_takeNumber : ByteArray := prog_8_method_5_code
def yX6_takeNumber : MethodName := ⟨RX6, "takeNumber", "(II)Z"⟩
abbrev cX6_mayStand : ByteArray := prog_8_method_6_code
def yX6_mayStand : MethodName := ⟨RX6, "mayStand", "(I)Z"⟩
abbrev cX6_readSize : ByteArray := prog_8_method_7_code
def yX6_readSize : MethodName := ⟨RX6, "readSize", "()Z"⟩
abbrev cX6_readAllIce : ByteArray := prog_8_method_8_code
def yX6_readAllIce : MethodName := ⟨RX6, "readAllIce", "()Z"⟩
abbrev cX6_readCell : ByteArray := prog_8_method_9_code
def yX6_readCell : MethodName := ⟨RX6, "readCell", "()Z"⟩
abbrev cX6_readPlank : ByteArray := prog_8_method_10_code
def yX6_readPlank : MethodName := ⟨RX6, "readPlank", "()Z"⟩
abbrev cX6_takePlace : ByteArray := prog_8_method_11_code
def yX6_takePlace : MethodName := ⟨RX6, "takePlace", "(I)Z"⟩
abbrev cX6_isToldAlready : ByteArray := prog_8_method_12_code
def yX6_isToldAlready : MethodName := ⟨RX6, "isToldAlready", "(II)Z"⟩
abbrev cX6_takeName : ByteArray := prog_8_method_13_code
def yX6_takeName : MethodName := ⟨RX6, "takeName", "(II)Z"⟩
abbrev cX6_readTune : ByteArray := prog_8_method_14_code
def yX6_readTune : MethodName := ⟨RX6, "readTune", "()Z"⟩
abbrev cX6_readSilence : ByteArray := prog_8_method_15_code
def yX6_readSilence : MethodName := ⟨RX6, "readSilence", "()Z"⟩
abbrev cX6_readSkater : ByteArray := prog_8_method_16_code
def yX6_readSkater : MethodName := ⟨RX6, "readSkater", "()Z"⟩
abbrev cX6_putCode : ByteArray := prog_8_method_17_code
def yX6_putCode : MethodName := ⟨RX6, "putCode", "(I)V"⟩
abbrev cX6_readFormula : ByteArray := prog_8_method_18_code
def yX6_readFormula : MethodName := ⟨RX6, "readFormula", "(I)Z"⟩
abbrev cX6_readBoth : ByteArray := prog_8_method_19_code
def yX6_readBoth : MethodName := ⟨RX6, "readBoth", "(I)Z"⟩
abbrev cX6_readOne : ByteArray := prog_8_method_20_code
def yX6_readOne : MethodName := ⟨RX6, "readOne", "(I)Z"⟩
abbrev cX6_readSum : ByteArray := prog_8_method_21_code
def yX6_readSum : MethodName := ⟨RX6, "readSum", "(I)Z"⟩
abbrev cX6_readTerm : ByteArray := prog_8_method_22_code
def yX6_readTerm : MethodName := ⟨RX6, "readTerm", "(I)Z"⟩
abbrev cX6_isTermSign : ByteArray := prog_8_method_23_code
def yX6_isTermSign : MethodName := ⟨RX6, "isTermSign", "(I)Z"⟩
abbrev cX6_readUnit : ByteArray := prog_8_method_24_code
def yX6_readUnit : MethodName := ⟨RX6, "readUnit", "(I)Z"⟩
def RX7 : String := "IceTunes$Rows"
def TX7 : u_T := fun k => match k with
  | 0 => ("IceTunes$Rows", "band", "LIceTunes$Band;", true)
  | 1 => ("IceTunes$Rows", "desk", "[LIceTunes$Evening;", true)
  | 2 => ("IceTunes$Rows", "sights", "LIceTunes$Sights;", true)
  | 3 => ("IceTunes$Rows", "row", "[I", true)
  | 4 => ("IceTunes$Rows", "first", "[I", true)
  | 5 => ("IceTunes$Rows", "only", "[I", true)
  | 6 => ("IceTunes$Rows", "found", "I", false)
  | 7 => ("IceTunes$Rows", "tunes", "I", false)
  | 8 => ("IceTunes$Rows", "known", "I", false)
  | _ => ("IceTunes$Rows", "lastBar", "I", false)
def tyX7 : Nat → FieldType := fun k => match k with
  | 0 => .object "IceTunes$Band"
  | 1 => .array (.object "IceTunes$Evening")
  | 2 => .object "IceTunes$Sights"
  | 3 => .array .int
  | 4 => .array .int
  | 5 => .array .int
  | 6 => .int
  | 7 => .int
  | 8 => .int
  | _ => .int
abbrev wsX70 : List Cond := u_ws RX7 TX7 10
theorem nmX7 : ∀ a, a < 10 → ∀ b, b < 10 → a ≠ b → (TX7 a).2.1 ≠ (TX7 b).2.1 := by decide +kernel
theorem tyX7_ok : ∀ k, k < 10 → parseFieldDescriptor (TX7 k).2.2.1 = some (tyX7 k) := by decide +kernel
abbrev cX7_init : ByteArray := prog_9_method_1_code
def yX7_init : MethodName := ⟨RX7, "<init>", "(LIceTunes$Band;[LIceTunes$Evening;LIceTunes$Sights;)V"⟩
abbrev cX7_count : ByteArray := prog_9_method_2_code
def yX7_count : MethodName := ⟨RX7, "count", "(II)I"⟩
abbrev cX7_extend : ByteArray := prog_9_method_3_code
def yX7_extend : MethodName := ⟨RX7, "extend", "(I)V"⟩
abbrev cX7_playsAsSeen : ByteArray := prog_9_method_4_code
def yX7_playsAsSeen : MethodName := ⟨RX7, "playsAsSeen", "(LIceTunes$Evening;I)Z"⟩
abbrev cX7_takeRow : ByteArray := prog_9_method_5_code
def yX7_takeRow : MethodName := ⟨RX7, "takeRow", "()V"⟩
def RX8 : String := "IceTunes$Sights"
def TX8 : u_T := fun k => match k with
  | 0 => ("IceTunes$Sights", "count", "I", false)
  | 1 => ("IceTunes$Sights", "bar", "[I", true)
  | 2 => ("IceTunes$Sights", "cell", "[I", true)
  | 3 => ("IceTunes$Sights", "skater", "[I", true)
  | 4 => ("IceTunes$Sights", "least", "[I", true)
  | 5 => ("IceTunes$Sights", "most", "[I", true)
  | 6 => ("IceTunes$Sights", "toldAt", "[I", true)
  | _ => ("IceTunes$Sights", "untoldAt", "[I", true)
def tyX8 : Nat → FieldType := fun k => match k with
  | 0 => .int
  | 1 => .array .int
  | 2 => .array .int
  | 3 => .array .int
  | 4 => .array .int
  | 5 => .array .int
  | 6 => .array .int
  | _ => .array .int
abbrev wsX80 : List Cond := u_ws RX8 TX8 8
theorem nmX8 : ∀ a, a < 8 → ∀ b, b < 8 → a ≠ b → (TX8 a).2.1 ≠ (TX8 b).2.1 := by decide +kernel
theorem tyX8_ok : ∀ k, k < 8 → parseFieldDescriptor (TX8 k).2.2.1 = some (tyX8 k) := by decide +kernel
abbrev cX8_init : ByteArray := prog_10_method_1_code
def yX8_init : MethodName := ⟨RX8, "<init>", "()V"⟩
abbrev cX8_clear : ByteArray := prog_10_method_2_code
def yX8_clear : MethodName := ⟨RX8, "clear", "()V"⟩
abbrev cX8_tellIce : ByteArray := prog_10_method_3_code
def yX8_tellIce : MethodName := ⟨RX8, "tellIce", "(IIIII)I"⟩
abbrev cX8_tellSkater : ByteArray := prog_10_method_4_code
def yX8_tellSkater : MethodName := ⟨RX8, "tellSkater", "(IIZI)I"⟩
abbrev cX8_tell : ByteArray := prog_10_method_5_code
def yX8_tell : MethodName := ⟨RX8, "tell", "(IIII)I"⟩
abbrev cX8_takeAway : ByteArray := prog_10_method_6_code
def yX8_takeAway : MethodName := ⟨RX8, "takeAway", "(II)Z"⟩
abbrev cX8_isKnown : ByteArray := prog_10_method_7_code
def yX8_isKnown : MethodName := ⟨RX8, "isKnown", "(II)Z"⟩
abbrev cX8_lastBar : ByteArray := prog_10_method_8_code
def yX8_lastBar : MethodName := ⟨RX8, "lastBar", "(I)I"⟩
abbrev cX8_areSo : ByteArray := prog_10_method_9_code
def yX8_areSo : MethodName := ⟨RX8, "areSo", "(LIceTunes$Evening;I)Z"⟩
abbrev cX8_isSo : ByteArray := prog_10_method_10_code
def yX8_isSo : MethodName := ⟨RX8, "isSo", "(ILIceTunes$Evening;)Z"⟩
def RX9 : String := "IceTunes$Tokens"
def TX9 : u_T := fun k => match k with
  | 0 => ("IceTunes$Tokens", "text", "[B", false)
  | 1 => ("IceTunes$Tokens", "length", "I", false)
  | 2 => ("IceTunes$Tokens", "kind", "I", false)
  | 3 => ("IceTunes$Tokens", "start", "I", false)
  | 4 => ("IceTunes$Tokens", "stop", "I", false)
  | _ => ("IceTunes$Tokens", "value", "I", false)
def tyX9 : Nat → FieldType := fun k => match k with
  | 0 => .array .byte
  | 1 => .int
  | 2 => .int
  | 3 => .int
  | 4 => .int
  | _ => .int
abbrev wsX90 : List Cond := u_ws RX9 TX9 6
theorem nmX9 : ∀ a, a < 6 → ∀ b, b < 6 → a ≠ b → (TX9 a).2.1 ≠ (TX9 b).2.1 := by decide +kernel
theorem tyX9_ok : ∀ k, k < 6 → parseFieldDescriptor (TX9 k).2.2.1 = some (tyX9 k) := by decide +kernel
abbrev cX9_init : ByteArray := prog_11_method_1_code
def yX9_init : MethodName := ⟨RX9, "<init>", "()V"⟩
abbrev cX9_begin : ByteArray := prog_11_method_2_code
def yX9_begin : MethodName := ⟨RX9, "begin", "([BI)V"⟩
abbrev cX9_next : ByteArray := prog_11_method_3_code
def yX9_next : MethodName := ⟨RX9, "next", "()V"⟩
abbrev cX9_isLetter : ByteArray := prog_11_method_4_code
def yX9_isLetter : MethodName := ⟨RX9, "isLetter", "(I)Z"⟩
abbrev cX9_isDigit : ByteArray := prog_11_method_5_code
def yX9_isDigit : MethodName := ⟨RX9, "isDigit", "(I)Z"⟩
abbrev cX9_takeWord : ByteArray := prog_11_method_6_code
def yX9_takeWord : MethodName := ⟨RX9, "takeWord", "()V"⟩
abbrev cX9_kindOfWord : ByteArray := prog_11_method_7_code
def yX9_kindOfWord : MethodName := ⟨RX9, "kindOfWord", "()I"⟩
abbrev cX9_takeNumber : ByteArray := prog_11_method_8_code
def yX9_takeNumber : MethodName := ⟨RX9, "takeNumber", "()V"⟩
abbrev cX9_isSameWord : ByteArray := prog_11_method_9_code
def yX9_isSameWord : MethodName := ⟨RX9, "isSameWord", "(II)Z"⟩
def RX10 : String := "IceTunes"
def TX10 : u_T := fun k => match k with
  | 0 => ("IceTunes", "tape", "[B", true)
  | 1 => ("IceTunes", "taped", "I", false)
  | 2 => ("IceTunes", "told", "LIceTunes$Pond;", false)
  | 3 => ("IceTunes", "draft", "LIceTunes$Pond;", false)
  | 4 => ("IceTunes", "reader", "LIceTunes$Reader;", true)
  | 5 => ("IceTunes", "band", "LIceTunes$Band;", true)
  | 6 => ("IceTunes", "history", "LIceTunes$History;", true)
  | 7 => ("IceTunes", "boxes", "[LIceTunes$Evening;", true)
  | 8 => ("IceTunes", "kept", "[Z", true)
  | 9 => ("IceTunes", "sights", "LIceTunes$Sights;", true)
  | 10 => ("IceTunes", "forecast", "LIceTunes$Forecast;", true)
  | 11 => ("IceTunes", "duels", "LIceTunes$Duel;", true)
  | 12 => ("IceTunes", "rows", "LIceTunes$Rows;", true)
  | 13 => ("IceTunes", "lying", "[I", true)
  | 14 => ("IceTunes", "lyingCount", "I", false)
  | _ => ("IceTunes", "time", "I", false)
def tyX10 : Nat → FieldType := fun k => match k with
  | 0 => .array .byte
  | 1 => .int
  | 2 => .object "IceTunes$Pond"
  | 3 => .object "IceTunes$Pond"
  | 4 => .object "IceTunes$Reader"
  | 5 => .object "IceTunes$Band"
  | 6 => .object "IceTunes$History"
  | 7 => .array (.object "IceTunes$Evening")
  | 8 => .array .boolean
  | 9 => .object "IceTunes$Sights"
  | 10 => .object "IceTunes$Forecast"
  | 11 => .object "IceTunes$Duel"
  | 12 => .object "IceTunes$Rows"
  | 13 => .array .int
  | 14 => .int
  | _ => .int
abbrev wsX100 : List Cond := u_ws RX10 TX10 16
theorem nmX10 : ∀ a, a < 16 → ∀ b, b < 16 → a ≠ b → (TX10 a).2.1 ≠ (TX10 b).2.1 := by decide +kernel
theorem tyX10_ok : ∀ k, k < 16 → parseFieldDescriptor (TX10 k).2.2.1 = some (tyX10 k) := by decide +kernel
abbrev cX10_init : ByteArray := prog_1_method_1_code
def yX10_init : MethodName := ⟨RX10, "<init>", "()V"⟩
abbrev cX10_feed : ByteArray := prog_1_method_2_code
def yX10_feed : MethodName := ⟨RX10, "feed", "(IIIII)I"⟩
abbrev cX10_tapeNumber : ByteArray := prog_1_method_3_code
def yX10_tapeNumber : MethodName := ⟨RX10, "tapeNumber", "(I)V"⟩
abbrev cX10_end : ByteArray := prog_1_method_4_code
def yX10_end : MethodName := ⟨RX10, "end", "(I)I"⟩
abbrev cX10_pond : ByteArray := prog_1_method_5_code
def yX10_pond : MethodName := ⟨RX10, "pond", "()I"⟩
abbrev cX10_fault : ByteArray := prog_1_method_6_code
def yX10_fault : MethodName := ⟨RX10, "fault", "(I)I"⟩
abbrev cX10_ice : ByteArray := prog_1_method_7_code
def yX10_ice : MethodName := ⟨RX10, "ice", "(II)I"⟩
abbrev cX10_load : ByteArray := prog_1_method_8_code
def yX10_load : MethodName := ⟨RX10, "load", "(II)I"⟩
abbrev cX10_skater : ByteArray := prog_1_method_9_code
def yX10_skater : MethodName := ⟨RX10, "skater", "(II)I"⟩
abbrev cX10_play : ByteArray := prog_1_method_10_code
def yX10_play : MethodName := ⟨RX10, "play", "(I)I"⟩
abbrev cX10_hold : ByteArray := prog_1_method_11_code
def yX10_hold : MethodName := ⟨RX10, "hold", "(I)I"⟩
abbrev cX10_undo : ByteArray := prog_1_method_12_code
def yX10_undo : MethodName := ⟨RX10, "undo", "()Z"⟩
abbrev cX10_redo : ByteArray := prog_1_method_13_code
def yX10_redo : MethodName := ⟨RX10, "redo", "()Z"⟩
abbrev cX10_order : ByteArray := prog_1_method_14_code
def yX10_order : MethodName := ⟨RX10, "order", "(I)I"⟩
abbrev cX10_duel : ByteArray := prog_1_method_15_code
def yX10_duel : MethodName := ⟨RX10, "duel", "(III)I"⟩
abbrev cX10_planks : ByteArray := prog_1_method_16_code
def yX10_planks : MethodName := ⟨RX10, "planks", "(I)I"⟩
abbrev cX10_hush : ByteArray := prog_1_method_17_code
def yX10_hush : MethodName := ⟨RX10, "hush", "(II)I"⟩
abbrev cX10_breaks : ByteArray := prog_1_method_18_code
def yX10_breaks : MethodName := ⟨RX10, "breaks", "(II)I"⟩
abbrev cX10_lies : ByteArray := prog_1_method_19_code
def yX10_lies : MethodName := ⟨RX10, "lies", "(I)I"⟩
abbrev cX10_layDown : ByteArray := prog_1_method_20_code
def yX10_layDown : MethodName := ⟨RX10, "layDown", "([II)V"⟩
abbrev cX10_sight : ByteArray := prog_1_method_21_code
def yX10_sight : MethodName := ⟨RX10, "sight", "(IIIII)I"⟩
abbrev cX10_seen : ByteArray := prog_1_method_22_code
def yX10_seen : MethodName := ⟨RX10, "seen", "(IIZ)I"⟩
abbrev cX10_isSightBar : ByteArray := prog_1_method_23_code
def yX10_isSightBar : MethodName := ⟨RX10, "isSightBar", "(I)Z"⟩
abbrev cX10_untell : ByteArray := prog_1_method_24_code
def yX10_untell : MethodName := ⟨RX10, "untell", "(I)Z"⟩
abbrev cX10_later : ByteArray := prog_1_method_25_code
def yX10_later : MethodName := ⟨RX10, "later", "(I)I"⟩
abbrev cX10_asked : ByteArray := prog_1_method_26_code
def yX10_asked : MethodName := ⟨RX10, "asked", "(II)I"⟩
abbrev cX10_sure : ByteArray := prog_1_method_27_code
def yX10_sure : MethodName := ⟨RX10, "sure", "(III)I"⟩
abbrev cX10_image : ByteArray := prog_1_method_28_code
def yX10_image : MethodName := ⟨RX10, "image", "(I)I"⟩
abbrev cX10_back : ByteArray := prog_1_method_29_code
def yX10_back : MethodName := ⟨RX10, "back", "(I)I"⟩
abbrev cX10_about : ByteArray := prog_1_method_30_code
def yX10_about : MethodName := ⟨RX10, "about", "(I)I"⟩
def RX11 : String := "IceTunesModel"
def TX11 : u_T := fun k => match k with
  | 0 => ("IceTunesModel", "tape", "[B", true)
  | 1 => ("IceTunesModel", "text", "[B", true)
  | 2 => ("IceTunesModel", "taped", "I", false)
  | 3 => ("IceTunesModel", "size", "I", false)
  | 4 => ("IceTunesModel", "faultKind", "I", false)
  | 5 => ("IceTunesModel", "faultPlace", "I", false)
  | 6 => ("IceTunesModel", "at", "I", false)
  | 7 => ("IceTunesModel", "end", "I", false)
  | 8 => ("IceTunesModel", "token", "I", false)
  | 9 => ("IceTunesModel", "number", "I", false)
  | 10 => ("IceTunesModel", "name", "J", false)
  | 11 => ("IceTunesModel", "across", "[I", true)
  | 12 => ("IceTunesModel", "down", "[I", true)
  | 13 => ("IceTunesModel", "iceTold", "[I", true)
  | 14 => ("IceTunesModel", "planks", "[I", true)
  | 15 => ("IceTunesModel", "tunes", "[I", true)
  | 16 => ("IceTunesModel", "skaters", "[I", true)
  | 17 => ("IceTunesModel", "units", "[I", true)
  | 18 => ("IceTunesModel", "cellIce", "[I", true)
  | 19 => ("IceTunesModel", "bars", "[I", true)
  | 20 => ("IceTunesModel", "ruleFrom", "[I", true)
  | 21 => ("IceTunesModel", "ruleTo", "[I", true)
  | 22 => ("IceTunesModel", "weight", "[I", true)
  | 23 => ("IceTunesModel", "startX", "[I", true)
  | 24 => ("IceTunesModel", "startY", "[I", true)
  | 25 => ("IceTunesModel", "stepMany", "[I", true)
  | 26 => ("IceTunesModel", "steps", "[I", true)
  | 27 => ("IceTunesModel", "isPond", "[Z", true)
  | 28 => ("IceTunesModel", "isIce", "[Z", true)
  | 29 => ("IceTunesModel", "isSilence", "[Z", true)
  | 30 => ("IceTunesModel", "isPlank", "[Z", true)
  | 31 => ("IceTunesModel", "tName", "[J", true)
  | 32 => ("IceTunesModel", "sName", "[J", true)
  | 33 => ("IceTunesModel", "code", "[I", true)
  | 34 => ("IceTunesModel", "codeNumber", "[I", true)
  | 35 => ("IceTunesModel", "eWhat", "[I", true)
  | 36 => ("IceTunesModel", "eSign", "[I", true)
  | 37 => ("IceTunesModel", "pile", "[I", true)
  | 38 => ("IceTunesModel", "bank", "I", false)
  | 39 => ("IceTunesModel", "rb", "I", false)
  | 40 => ("IceTunesModel", "codes", "I", false)
  | 41 => ("IceTunesModel", "within", "I", false)
  | 42 => ("IceTunesModel", "piled", "I", false)
  | 43 => ("IceTunesModel", "unitsInRule", "I", false)
  | 44 => ("IceTunesModel", "all", "[I", true)
  | 45 => ("IceTunesModel", "kept", "[I", true)
  | 46 => ("IceTunesModel", "loads", "[I", true)
  | 47 => ("IceTunesModel", "thick", "[I", true)
  | 48 => ("IceTunesModel", "isMore", "[Z", true)
  | 49 => ("IceTunesModel", "didBreak", "Z", false)
  | 50 => ("IceTunesModel", "was", "[I", true)
  | 51 => ("IceTunesModel", "acts", "I", false)
  | 52 => ("IceTunesModel", "undone", "I", false)
  | 53 => ("IceTunesModel", "row", "[I", true)
  | 54 => ("IceTunesModel", "bestRow", "[I", true)
  | 55 => ("IceTunesModel", "laidRow", "[I", true)
  | 56 => ("IceTunesModel", "laid", "I", false)
  | 57 => ("IceTunesModel", "chosen", "[I", true)
  | 58 => ("IceTunesModel", "duelBest", "[I", true)
  | 59 => ("IceTunesModel", "gBar", "[I", true)
  | 60 => ("IceTunesModel", "gCell", "[I", true)
  | 61 => ("IceTunesModel", "gLeast", "[I", true)
  | 62 => ("IceTunesModel", "gMost", "[I", true)
  | 63 => ("IceTunesModel", "gTold", "[I", true)
  | 64 => ("IceTunesModel", "gUntold", "[I", true)
  | 65 => ("IceTunesModel", "sureOf", "[I", true)
  | 66 => ("IceTunesModel", "sights", "I", false)
  | 67 => ("IceTunesModel", "time", "I", false)
  | 68 => ("IceTunesModel", "askedMany", "I", false)
  | 69 => ("IceTunesModel", "boxAll", "[I", true)
  | _ => ("IceTunesModel", "isBoxed", "[Z", true)
def tyX11 : Nat → FieldType := fun k => match k with
  | 0 => .array .byte
  | 1 => .array .byte
  | 2 => .int
  | 3 => .int
  | 4 => .int
  | 5 => .int
  | 6 => .int
  | 7 => .int
  | 8 => .int
  | 9 => .int
  | 10 => .long
  | 11 => .array .int
  | 12 => .array .int
  | 13 => .array .int
  | 14 => .array .int
  | 15 => .array .int
  | 16 => .array .int
  | 17 => .array .int
  | 18 => .array .int
  | 19 => .array .int
  | 20 => .array .int
  | 21 => .array .int
  | 22 => .array .int
  | 23 => .array .int
  | 24 => .array .int
  | 25 => .array .int
  | 26 => .array .int
  | 27 => .array .boolean
  | 28 => .array .boolean
  | 29 => .array .boolean
  | 30 => .array .boolean
  | 31 => .array .long
  | 32 => .array .long
  | 33 => .array .int
  | 34 => .array .int
  | 35 => .array .int
  | 36 => .array .int
  | 37 => .array .int
  | 38 => .int
  | 39 => .int
  | 40 => .int
  | 41 => .int
  | 42 => .int
  | 43 => .int
  | 44 => .array .int
  | 45 => .array .int
  | 46 => .array .int
  | 47 => .array .int
  | 48 => .array .boolean
  | 49 => .boolean
  | 50 => .array .int
  | 51 => .int
  | 52 => .int
  | 53 => .array .int
  | 54 => .array .int
  | 55 => .array .int
  | 56 => .int
  | 57 => .array .int
  | 58 => .array .int
  | 59 => .array .int
  | 60 => .array .int
  | 61 => .array .int
  | 62 => .array .int
  | 63 => .array .int
  | 64 => .array .int
  | 65 => .array .int
  | 66 => .int
  | 67 => .int
  | 68 => .int
  | 69 => .array .int
  | _ => .array .boolean
abbrev wsX110 : List Cond := u_ws RX11 TX11 71
theorem nmX11 : ∀ a, a < 71 → ∀ b, b < 71 → a ≠ b → (TX11 a).2.1 ≠ (TX11 b).2.1 := by decide +kernel
theorem tyX11_ok : ∀ k, k < 71 → parseFieldDescriptor (TX11 k).2.2.1 = some (tyX11 k) := by decide +kernel
abbrev cX11_init : ByteArray := prog_13_method_1_code
def yX11_init : MethodName := ⟨RX11, "<init>", "()V"⟩
abbrev cX11_sign : ByteArray := prog_13_method_2_code
def yX11_sign : MethodName := ⟨RX11, "sign", "(I)I"⟩
abbrev cX11_isLetter : ByteArray := prog_13_method_3_code
def yX11_isLetter : MethodName := ⟨RX11, "isLetter", "(I)Z"⟩
abbrev cX11_isDigit : ByteArray := prog_13_method_4_code
def yX11_isDigit : MethodName := ⟨RX11, "isDigit", "(I)Z"⟩
abbrev cX11_fails : ByteArray := prog_13_method_5_code
def yX11_fails : MethodName := ⟨RX11, "fails", "(II)V"⟩
abbrev cX11_isGood : ByteArray := prog_13_method_6_code
def yX11_isGood : MethodName := ⟨RX11, "isGood", "()Z"⟩
abbrev cX11_isKept : ByteArray := prog_13_method_7_code
def yX11_isKept : MethodName := ⟨RX11, "isKept", "(J)Z"⟩
abbrev cX11_isSign : ByteArray := prog_13_method_8_code
def yX11_isSign : MethodName := ⟨RX11, "isSign", "(I)Z"⟩
abbrev cX11_goOn : ByteArray := prog_13_method_9_code
def yX11_goOn : MethodName := ⟨RX11, "goOn", "()V"⟩
abbrev cX11_isSignHere : ByteArray := prog_13_method_10_code
def yX11_isSignHere : MethodName := ⟨RX11, "isSignHere", "(I)Z"⟩
abbrev cX11_isWord : ByteArray := prog_13_method_11_code
def yX11_isWord : MethodName := ⟨RX11, "isWord", "(J)Z"⟩
abbrev cX11_misplaced : ByteArray := prog_13_method_12_code
def yX11_misplaced : MethodName := ⟨RX11, "misplaced", "()V"⟩
abbrev cX11_must : ByteArray := prog_13_method_13_code
def yX11_must : MethodName := ⟨RX11, "must", "(Z)V"⟩
abbrev cX11_numeral : ByteArray := prog_13_method_14_code
def yX11_numeral : MethodName := ⟨RX11, "numeral", "(II)I"⟩
abbrev cX11_after : ByteArray := prog_13_method_15_code
def yX11_after : MethodName := ⟨RX11, "after", "(JII)I"⟩
abbrev cX11_clearBank : ByteArray := prog_13_method_16_code
def yX11_clearBank : MethodName := ⟨RX11, "clearBank", "()V"⟩
abbrev cX11_pond : ByteArray := prog_13_method_17_code
def yX11_pond : MethodName := ⟨RX11, "pond", "()I"⟩
abbrev cX11_isFull : ByteArray := prog_13_method_18_code
def yX11_isFull : MethodName := ⟨RX11, "isFull", "()Z"⟩
abbrev cX11_readLine : ByteArray := prog_13_method_19_code
def yX11_readLine : MethodName := ⟨RX11, "readLine", "()V"⟩
abbrev cX11_readCell : ByteArray := prog_13_method_20_code
def yX11_readCell : MethodName := ⟨RX11, "readCell", "()V"⟩
abbrev cX11_readPlank : ByteArray := prog_13_method_21_code
def yX11_readPlank : MethodName := ⟨RX11, "readPlank", "()V"⟩
abbrev cX11_here : ByteArray := prog_13_method_22_code
def yX11_here : MethodName := ⟨RX11, "here", "([JII)I"⟩
abbrev cX11_fresh : ByteArray := prog_13_method_23_code
def yX11_fresh : MethodName := ⟨RX11, "fresh", "(Z)J"⟩
abbrev cX11_readTune : ByteArray := prog_13_method_24_code
def yX11_readTune : MethodName := ⟨RX11, "readTune", "()V"⟩
abbrev cX11_stepHere : ByteArray := prog_13_method_25_code
def yX11_stepHere : MethodName := ⟨RX11, "stepHere", "()I"⟩
abbrev cX11_readSkater : ByteArray := prog_13_method_26_code
def yX11_readSkater : MethodName := ⟨RX11, "readSkater", "()V"⟩
abbrev cX11_readRule : ByteArray := prog_13_method_27_code
def yX11_readRule : MethodName := ⟨RX11, "readRule", "(I)V"⟩
abbrev cX11_emit : ByteArray := prog_13_method_28_code
def yX11_emit : MethodName := ⟨RX11, "emit", "(II)V"⟩
abbrev cX11_pushE : ByteArray := prog_13_method_29_code
def yX11_pushE : MethodName := ⟨RX11, "pushE", "(II)V"⟩
abbrev cX11_e : ByteArray := prog_13_method_30_code
def yX11_e : MethodName := ⟨RX11, "e", "()V"⟩
abbrev cX11_wordHere : ByteArray := prog_13_method_31_code
def yX11_wordHere : MethodName := ⟨RX11, "wordHere", "()I"⟩
abbrev cX11_unit : ByteArray := prog_13_method_32_code
def yX11_unit : MethodName := ⟨RX11, "unit", "()Z"⟩
abbrev cX11_rankHere : ByteArray := prog_13_method_33_code
def yX11_rankHere : MethodName := ⟨RX11, "rankHere", "()I"⟩
abbrev cX11_isCompared : ByteArray := prog_13_method_34_code
def yX11_isCompared : MethodName := ⟨RX11, "isCompared", "()Z"⟩
abbrev cX11_behindUnit : ByteArray := prog_13_method_35_code
def yX11_behindUnit : MethodName := ⟨RX11, "behindUnit", "()Z"⟩
abbrev cX11_two : ByteArray := prog_13_method_36_code
def yX11_two : MethodName := ⟨RX11, "two", "(III)I"⟩
abbrev cX11_comes : ByteArray := prog_13_method_37_code
def yX11_comes : MethodName := ⟨RX11, "comes", "(IIIII)I"⟩
abbrev cX11_fault : ByteArray := prog_13_method_38_code
def yX11_fault : MethodName := ⟨RX11, "fault", "(I)I"⟩
abbrev cX11_isIn : ByteArray := prog_13_method_39_code
def yX11_isIn : MethodName := ⟨RX11, "isIn", "(III)Z"⟩
abbrev cX11_isCell : ByteArray := prog_13_method_40_code
def yX11_isCell : MethodName := ⟨RX11, "isCell", "(II)Z"⟩
abbrev cX11_isTune : ByteArray := prog_13_method_41_code
def yX11_isTune : MethodName := ⟨RX11, "isTune", "(I)Z"⟩
abbrev cX11_isSkater : ByteArray := prog_13_method_42_code
def yX11_isSkater : MethodName := ⟨RX11, "isSkater", "(I)Z"⟩
abbrev cX11_of : ByteArray := prog_13_method_43_code
def yX11_of : MethodName := ⟨RX11, "of", "(II)I"⟩
abbrev cX11_put : ByteArray := prog_13_method_44_code
def yX11_put : MethodName := ⟨RX11, "put", "(III)V"⟩
abbrev cX11_layFirst : ByteArray := prog_13_method_45_code
def yX11_layFirst : MethodName := ⟨RX11, "layFirst", "()V"⟩
abbrev cX11_begin : ByteArray := prog_13_method_46_code
def yX11_begin : MethodName := ⟨RX11, "begin", "()V"⟩
abbrev cX11_keep : ByteArray := prog_13_method_47_code
def yX11_keep : MethodName := ⟨RX11, "keep", "(I)V"⟩
abbrev cX11_bring : ByteArray := prog_13_method_48_code
def yX11_bring : MethodName := ⟨RX11, "bring", "(I)V"⟩
abbrev cX11_goes : ByteArray := prog_13_method_49_code
def yX11_goes : MethodName := ⟨RX11, "goes", "(I)V"⟩
abbrev cX11_layLoads : ByteArray := prog_13_method_50_code
def yX11_layLoads : MethodName := ⟨RX11, "layLoads", "()V"⟩
abbrev cX11_iceAt : ByteArray := prog_13_method_51_code
def yX11_iceAt : MethodName := ⟨RX11, "iceAt", "(II)I"⟩
abbrev cX11_bar : ByteArray := prog_13_method_52_code
def yX11_bar : MethodName := ⟨RX11, "bar", "(II)V"⟩
abbrev cX11_breaksAt : ByteArray := prog_13_method_53_code
def yX11_breaksAt : MethodName := ⟨RX11, "breaksAt", "(III)V"⟩
abbrev cX11_tune : ByteArray := prog_13_method_54_code
def yX11_tune : MethodName := ⟨RX11, "tune", "(I)V"⟩
abbrev cX11_silence : ByteArray := prog_13_method_55_code
def yX11_silence : MethodName := ⟨RX11, "silence", "(I)V"⟩
abbrev cX11_upMany : ByteArray := prog_13_method_56_code
def yX11_upMany : MethodName := ⟨RX11, "upMany", "()I"⟩
abbrev cX11_inMany : ByteArray := prog_13_method_57_code
def yX11_inMany : MethodName := ⟨RX11, "inMany", "()I"⟩
abbrev cX11_ice : ByteArray := prog_13_method_58_code
def yX11_ice : MethodName := ⟨RX11, "ice", "(II)I"⟩
abbrev cX11_load : ByteArray := prog_13_method_59_code
def yX11_load : MethodName := ⟨RX11, "load", "(II)I"⟩
abbrev cX11_skater : ByteArray := prog_13_method_60_code
def yX11_skater : MethodName := ⟨RX11, "skater", "(II)I"⟩
abbrev cX11_keepAct : ByteArray := prog_13_method_61_code
def yX11_keepAct : MethodName := ⟨RX11, "keepAct", "()V"⟩
abbrev cX11_exchange : ByteArray := prog_13_method_62_code
def yX11_exchange : MethodName := ⟨RX11, "exchange", "()V"⟩
abbrev cX11_play : ByteArray := prog_13_method_63_code
def yX11_play : MethodName := ⟨RX11, "play", "(I)I"⟩
abbrev cX11_hold : ByteArray := prog_13_method_64_code
def yX11_hold : MethodName := ⟨RX11, "hold", "(I)I"⟩
abbrev cX11_undo : ByteArray := prog_13_method_65_code
def yX11_undo : MethodName := ⟨RX11, "undo", "()Z"⟩
abbrev cX11_redo : ByteArray := prog_13_method_66_code
def yX11_redo : MethodName := ⟨RX11, "redo", "()Z"⟩
abbrev cX11_lay : ByteArray := prog_13_method_67_code
def yX11_lay : MethodName := ⟨RX11, "lay", "([II)V"⟩
abbrev cX11_lies : ByteArray := prog_13_method_68_code
def yX11_lies : MethodName := ⟨RX11, "lies", "(I)I"⟩
abbrev cX11_nextOrder : ByteArray := prog_13_method_69_code
def yX11_nextOrder : MethodName := ⟨RX11, "nextOrder", "(I)Z"⟩
abbrev cX11_swap : ByteArray := prog_13_method_70_code
def yX11_swap : MethodName := ⟨RX11, "swap", "(II)V"⟩
abbrev cX11_layTunes : ByteArray := prog_13_method_71_code
def yX11_layTunes : MethodName := ⟨RX11, "layTunes", "(I)I"⟩
abbrev cX11_isSet : ByteArray := prog_13_method_72_code
def yX11_isSet : MethodName := ⟨RX11, "isSet", "(I)Z"⟩
abbrev cX11_order : ByteArray := prog_13_method_73_code
def yX11_order : MethodName := ⟨RX11, "order", "(I)I"⟩
abbrev cX11_duels : ByteArray := prog_13_method_74_code
def yX11_duels : MethodName := ⟨RX11, "duels", "(II)I"⟩
abbrev cX11_takes : ByteArray := prog_13_method_75_code
def yX11_takes : MethodName := ⟨RX11, "takes", "(II)V"⟩
abbrev cX11_duel : ByteArray := prog_13_method_76_code
def yX11_duel : MethodName := ⟨RX11, "duel", "(III)I"⟩
abbrev cX11_isDry : ByteArray := prog_13_method_77_code
def yX11_isDry : MethodName := ⟨RX11, "isDry", "(I)Z"⟩
abbrev cX11_planks : ByteArray := prog_13_method_78_code
def yX11_planks : MethodName := ⟨RX11, "planks", "(I)I"⟩
abbrev cX11_isDryBy : ByteArray := prog_13_method_79_code
def yX11_isDryBy : MethodName := ⟨RX11, "isDryBy", "(III)Z"⟩
abbrev cX11_hush : ByteArray := prog_13_method_80_code
def yX11_hush : MethodName := ⟨RX11, "hush", "(II)I"⟩
abbrev cX11_breaks : ByteArray := prog_13_method_81_code
def yX11_breaks : MethodName := ⟨RX11, "breaks", "(II)I"⟩
abbrev cX11_addSight : ByteArray := prog_13_method_82_code
def yX11_addSight : MethodName := ⟨RX11, "addSight", "(IIII)I"⟩
abbrev cX11_sight : ByteArray := prog_13_method_83_code
def yX11_sight : MethodName := ⟨RX11, "sight", "(IIIII)I"⟩
abbrev cX11_seen : ByteArray := prog_13_method_84_code
def yX11_seen : MethodName := ⟨RX11, "seen", "(IIZ)I"⟩
abbrev cX11_untell : ByteArray := prog_13_method_85_code
def yX11_untell : MethodName := ⟨RX11, "untell", "(I)Z"⟩
abbrev cX11_later : ByteArray := prog_13_method_86_code
def yX11_later : MethodName := ⟨RX11, "later", "(I)I"⟩
abbrev cX11_counts : ByteArray := prog_13_method_87_code
def yX11_counts : MethodName := ⟨RX11, "counts", "(II)Z"⟩
abbrev cX11_areSoNow : ByteArray := prog_13_method_88_code
def yX11_areSoNow : MethodName := ⟨RX11, "areSoNow", "(I)Z"⟩
abbrev cX11_areSoBy : ByteArray := prog_13_method_89_code
def yX11_areSoBy : MethodName := ⟨RX11, "areSoBy", "(II)Z"⟩
abbrev cX11_layAsked : ByteArray := prog_13_method_90_code
def yX11_layAsked : MethodName := ⟨RX11, "layAsked", "(II)V"⟩
abbrev cX11_asked : ByteArray := prog_13_method_91_code
def yX11_asked : MethodName := ⟨RX11, "asked", "(II)I"⟩
abbrev cX11_sure : ByteArray := prog_13_method_92_code
def yX11_sure : MethodName := ⟨RX11, "sure", "(III)I"⟩
abbrev cX11_image : ByteArray := prog_13_method_93_code
def yX11_image : MethodName := ⟨RX11, "image", "(I)I"⟩
abbrev cX11_back : ByteArray := prog_13_method_94_code
def yX11_back : MethodName := ⟨RX11, "back", "(I)I"⟩
abbrev cX11_about : ByteArray := prog_13_method_95_code
def yX11_about : MethodName := ⟨RX11, "about", "(I)I"⟩
abbrev cX11_feed : ByteArray := prog_13_method_96_code
def yX11_feed : MethodName := ⟨RX11, "feed", "(IIIII)I"⟩
abbrev cX11_end : ByteArray := prog_13_method_97_code
def yX11_end : MethodName := ⟨RX11, "end", "(I)I"⟩
def RJ11 : String := "java/lang/Character"
def TJ11 : u_T := fun k => match k with
  | _ => ("", "", "", false)
def tyJ11 : Nat → FieldType := fun k => match k with
  | _ => .int
abbrev wsJ110 : List Cond := u_ws RJ11 TJ11 0
theorem nmJ11 : ∀ a, a < 0 → ∀ b, b < 0 → a ≠ b → (TJ11 a).2.1 ≠ (TJ11 b).2.1 := by decide +kernel
theorem tyJ11_ok : ∀ k, k < 0 → parseFieldDescriptor (TJ11 k).2.2.1 = some (tyJ11 k) := by decide +kernel
abbrev cJ11_isValidCodePoint_9a6ad : ByteArray := prog_14_method_11_code
def yJ11_isValidCodePoint_9a6ad : MethodName := ⟨RJ11, "isValidCodePoint", "(I)Z"⟩
abbrev cJ11_highSurrogate_5068e : ByteArray := prog_14_method_28_code
def yJ11_highSurrogate_5068e : MethodName := ⟨RJ11, "highSurrogate", "(I)C"⟩
abbrev cJ11_lowSurrogate_5068e : ByteArray := prog_14_method_29_code
def yJ11_lowSurrogate_5068e : MethodName := ⟨RJ11, "lowSurrogate", "(I)C"⟩
def RJ6 : String := "java/lang/Integer"
def TJ6 : u_T := fun k => match k with
  | _ => ("", "", "", false)
def tyJ6 : Nat → FieldType := fun k => match k with
  | _ => .int
abbrev wsJ60 : List Cond := u_ws RJ6 TJ6 0
theorem nmJ6 : ∀ a, a < 0 → ∀ b, b < 0 → a ≠ b → (TJ6 a).2.1 ≠ (TJ6 b).2.1 := by decide +kernel
theorem tyJ6_ok : ∀ k, k < 0 → parseFieldDescriptor (TJ6 k).2.2.1 = some (tyJ6 k) := by decide +kernel
abbrev cJ6_bitCount_0f7a4 : ByteArray := prog_15_method_49_code
def yJ6_bitCount_0f7a4 : MethodName := ⟨RJ6, "bitCount", "(I)I"⟩
def RJ9 : String := "java/lang/Math"
def TJ9 : u_T := fun k => match k with
  | _ => ("", "", "", false)
def tyJ9 : Nat → FieldType := fun k => match k with
  | _ => .int
abbrev wsJ90 : List Cond := u_ws RJ9 TJ9 0
theorem nmJ9 : ∀ a, a < 0 → ∀ b, b < 0 → a ≠ b → (TJ9 a).2.1 ≠ (TJ9 b).2.1 := by decide +kernel
theorem tyJ9_ok : ∀ k, k < 0 → parseFieldDescriptor (TJ9 k).2.2.1 = some (tyJ9 k) := by decide +kernel
abbrev cJ9_max_7cf53 : ByteArray := prog_16_method_65_code
def yJ9_max_7cf53 : MethodName := ⟨RJ9, "max", "(II)I"⟩
abbrev cJ9_min_7cf53 : ByteArray := prog_16_method_69_code
def yJ9_min_7cf53 : MethodName := ⟨RJ9, "min", "(II)I"⟩
def RJ0 : String := "java/lang/String"
def TJ0 : u_T := fun k => match k with
  | _ => ("", "", "", false)
def tyJ0 : Nat → FieldType := fun k => match k with
  | _ => .int
abbrev wsJ00 : List Cond := u_ws RJ0 TJ0 0
theorem nmJ0 : ∀ a, a < 0 → ∀ b, b < 0 → a ≠ b → (TJ0 a).2.1 ≠ (TJ0 b).2.1 := by decide +kernel
theorem tyJ0_ok : ∀ k, k < 0 → parseFieldDescriptor (TJ0 k).2.2.1 = some (tyJ0 k) := by decide +kernel
abbrev cJ0_length_8abf5 : ByteArray := prog_17_method_54_code
def yJ0_length_8abf5 : MethodName := ⟨RJ0, "length", "()I"⟩
abbrev cJ0_charAt_5068e : ByteArray := prog_17_method_56_code
def yJ0_charAt_5068e : MethodName := ⟨RJ0, "charAt", "(I)C"⟩
abbrev cJ0_indexOf_0f7a4 : ByteArray := prog_17_method_79_code
def yJ0_indexOf_0f7a4 : MethodName := ⟨RJ0, "indexOf", "(I)I"⟩
abbrev cJ0_indexOf_7cf53 : ByteArray := prog_17_method_80_code
def yJ0_indexOf_7cf53 : MethodName := ⟨RJ0, "indexOf", "(II)I"⟩
abbrev cJ0_coder_7d493 : ByteArray := prog_17_method_152_code
def yJ0_coder_7d493 : MethodName := ⟨RJ0, "coder", "()B"⟩
abbrev cJ0_isLatin1_aae02 : ByteArray := prog_17_method_154_code
def yJ0_isLatin1_aae02 : MethodName := ⟨RJ0, "isLatin1", "()Z"⟩
abbrev cJ0_checkIndex_df160 : ByteArray := prog_17_method_155_code
def yJ0_checkIndex_df160 : MethodName := ⟨RJ0, "checkIndex", "(II)V"⟩
abbrev cJ0_checkBoundsBeginEnd_23922 : ByteArray := prog_17_method_158_code
def yJ0_checkBoundsBeginEnd_23922 : MethodName := ⟨RJ0, "checkBoundsBeginEnd", "(III)V"⟩
def RJ1 : String := "java/lang/StringLatin1"
def TJ1 : u_T := fun k => match k with
  | _ => ("", "", "", false)
def tyJ1 : Nat → FieldType := fun k => match k with
  | _ => .int
abbrev wsJ10 : List Cond := u_ws RJ1 TJ1 0
theorem nmJ1 : ∀ a, a < 0 → ∀ b, b < 0 → a ≠ b → (TJ1 a).2.1 ≠ (TJ1 b).2.1 := by decide +kernel
theorem tyJ1_ok : ∀ k, k < 0 → parseFieldDescriptor (TJ1 k).2.2.1 = some (tyJ1 k) := by decide +kernel
abbrev cJ1_charAt_3b067 : ByteArray := prog_18_method_2_code
def yJ1_charAt_3b067 : MethodName := ⟨RJ1, "charAt", "([BI)C"⟩
abbrev cJ1_canEncode_9a6ad : ByteArray := prog_18_method_4_code
def yJ1_canEncode_9a6ad : MethodName := ⟨RJ1, "canEncode", "(I)Z"⟩
abbrev cJ1_indexOf_4cfef : ByteArray := prog_18_method_22_code
def yJ1_indexOf_4cfef : MethodName := ⟨RJ1, "indexOf", "([BIII)I"⟩
abbrev cJ1_indexOfChar_4cfef : ByteArray := prog_18_method_23_code
def yJ1_indexOfChar_4cfef : MethodName := ⟨RJ1, "indexOfChar", "([BIII)I"⟩
def RJ2 : String := "java/lang/StringUTF16"
def TJ2 : u_T := fun k => match k with
  | _ => ("", "", "", false)
def tyJ2 : Nat → FieldType := fun k => match k with
  | _ => .int
abbrev wsJ20 : List Cond := u_ws RJ2 TJ2 0
theorem nmJ2 : ∀ a, a < 0 → ∀ b, b < 0 → a ≠ b → (TJ2 a).2.1 ≠ (TJ2 b).2.1 := by decide +kernel
theorem tyJ2_ok : ∀ k, k < 0 → parseFieldDescriptor (TJ2 k).2.2.1 = some (tyJ2 k) := by decide +kernel
abbrev cJ2_getChar_3b067 : ByteArray := prog_19_method_5_code
def yJ2_getChar_3b067 : MethodName := ⟨RJ2, "getChar", "([BI)C"⟩
abbrev cJ2_length_9d52b : ByteArray := prog_19_method_6_code
def yJ2_length_9d52b : MethodName := ⟨RJ2, "length", "([B)I"⟩
abbrev cJ2_indexOf_4cfef : ByteArray := prog_19_method_40_code
def yJ2_indexOf_4cfef : MethodName := ⟨RJ2, "indexOf", "([BIII)I"⟩
abbrev cJ2_indexOfChar_4cfef : ByteArray := prog_19_method_47_code
def yJ2_indexOfChar_4cfef : MethodName := ⟨RJ2, "indexOfChar", "([BIII)I"⟩
abbrev cJ2_indexOfCharUnsafe_4cfef : ByteArray := prog_19_method_48_code
def yJ2_indexOfCharUnsafe_4cfef : MethodName := ⟨RJ2, "indexOfCharUnsafe", "([BIII)I"⟩
abbrev cJ2_indexOfSupplementary_4cfef : ByteArray := prog_19_method_49_code
def yJ2_indexOfSupplementary_4cfef : MethodName := ⟨RJ2, "indexOfSupplementary", "([BIII)I"⟩
abbrev cJ2_charAt_3b067 : ByteArray := prog_19_method_83_code
def yJ2_charAt_3b067 : MethodName := ⟨RJ2, "charAt", "([BI)C"⟩
abbrev cJ2_checkIndex_2214a : ByteArray := prog_19_method_91_code
def yJ2_checkIndex_2214a : MethodName := ⟨RJ2, "checkIndex", "(I[B)V"⟩
abbrev cJ2_checkBoundsBeginEnd_d044e : ByteArray := prog_19_method_93_code
def yJ2_checkBoundsBeginEnd_d044e : MethodName := ⟨RJ2, "checkBoundsBeginEnd", "(II[B)V"⟩
def RJ10 : String := "java/lang/System"
def TJ10 : u_T := fun k => match k with
  | _ => ("", "", "", false)
def tyJ10 : Nat → FieldType := fun k => match k with
  | _ => .int
abbrev wsJ100 : List Cond := u_ws RJ10 TJ10 0
theorem nmJ10 : ∀ a, a < 0 → ∀ b, b < 0 → a ≠ b → (TJ10 a).2.1 ≠ (TJ10 b).2.1 := by decide +kernel
theorem tyJ10_ok : ∀ k, k < 0 → parseFieldDescriptor (TJ10 k).2.2.1 = some (tyJ10 k) := by decide +kernel
def RJ3 : String := "jdk/internal/util/Preconditions"
def TJ3 : u_T := fun k => match k with
  | _ => ("", "", "", false)
def tyJ3 : Nat → FieldType := fun k => match k with
  | _ => .int
abbrev wsJ30 : List Cond := u_ws RJ3 TJ3 0
theorem nmJ3 : ∀ a, a < 0 → ∀ b, b < 0 → a ≠ b → (TJ3 a).2.1 ≠ (TJ3 b).2.1 := by decide +kernel
theorem tyJ3_ok : ∀ k, k < 0 → parseFieldDescriptor (TJ3 k).2.2.1 = some (tyJ3 k) := by decide +kernel
abbrev cJ3_checkIndex_8e157 : ByteArray := prog_21_method_11_code
def yJ3_checkIndex_8e157 : MethodName := ⟨RJ3, "checkIndex", "(IILjava/util/function/BiFunction;)I"⟩
abbrev cJ3_checkFromToIndex_8c36e : ByteArray := prog_21_method_12_code
def yJ3_checkFromToIndex_8c36e : MethodName := ⟨RJ3, "checkFromToIndex", "(IIILjava/util/function/BiFunction;)I"⟩
def RL : String := "IceTunesLaw"
abbrev cL_law : ByteArray := code
def yL_law : MethodName := ⟨RL, "law", "([I)Z"⟩
end
section
/-! the words that every method may use: those of the tables that keep; nest mates' links, which a world carries -/
theorem wt_ex : ∃ ws : List Cond, ∀ w : Cond, w ∈ ws ↔ w ∈ lw_tbl ∧ goodWord w = true := ⟨lw_tbl.filter goodWord, fun _ => List.mem_filter⟩
noncomputable def wt : List Cond := Classical.choose wt_ex
theorem wt_iff (w : Cond) : w ∈ wt ↔ w ∈ lw_tbl ∧ goodWord w = true := Classical.choose_spec wt_ex w
theorem wt_of {w : Cond} (i : Nat) (h : lw_tbl[i]? = some w) (g : goodWord w = true) : w ∈ wt := (wt_iff w).mpr ⟨List.mem_of_getElem? h, g⟩
theorem wt_tbl {w : Cond} (h : w ∈ wt) : w ∈ lw_tbl := ((wt_iff w).mp h).1
theorem wt_good {w : Cond} (h : w ∈ wt) : goodWord w = true := ((wt_iff w).mp h).2
theorem wt_self : ∀ w ∈ wt, w ∈ wt ∧ ((w.onTables && w.keeps) = true ∨ ∃ ty, w = .arrayClass ty) := fun _ h => ⟨h, good_of_word (wt_good h)⟩
theorem wt_code {y : MethodName} {b : ByteArray} {n : Nat} {r : Option FieldType} (h : Cond.code y b n r ∈ wt) : GoodIn wt (Cond.code y b n r :: wt) := fun w hw => (List.mem_cons.mp hw).elim (fun e => by rw [e]; exact wt_self _ h) (fun h => wt_self w h)
theorem wt_V {own C : String} {idx : Nat} {y : MethodName} {b : ByteArray} {n : Nat} {r : Option FieldType} (h : Cond.code y b n r ∈ wt) (h1 : Cond.methodLink own idx y ∈ wt) (h2 : Cond.instanceMethod y ∈ wt) (h3 : Cond.selects C y y ∈ wt) (h4 : Cond.initialized C ∈ wt) : GoodIn wt (wsV own idx C y (Cond.code y b n r :: wt)) := by
  intro w hw
  unfold wsV at hw
  rcases List.mem_append.mp hw with hw | hw
  · simp only [List.mem_cons, List.not_mem_nil, or_false] at hw
    rcases hw with rfl | rfl | rfl | rfl
    · exact wt_self _ h1
    · exact wt_self _ h2
    · exact wt_self _ h3
    · exact wt_self _ h4
  · exact wt_code h w hw
theorem wt_S {own : String} {idx : Nat} {y : MethodName} {b : ByteArray} {n : Nat} {r : Option FieldType} (h : Cond.code y b n r ∈ wt) (h1 : Cond.methodLink own idx y ∈ wt) (h2 : Cond.static y ∈ wt) (h4 : Cond.initialized y.cls ∈ wt) : GoodIn wt (va_wsS own idx y (Cond.code y b n r :: wt)) := by
  intro w hw
  unfold va_wsS at hw
  rcases List.mem_append.mp hw with hw | hw
  · simp only [List.mem_cons, List.not_mem_nil, or_false] at hw
    rcases hw with rfl | rfl | rfl
    · exact wt_self _ h1
    · exact wt_self _ h2
    · exact wt_self _ h4
  · exact wt_code h w hw
def isNest : Cond → Bool
  | .fieldLinkNest .. => true
  | .methodLinkNest .. => true
  | _ => false
theorem nw_ex : ∃ ws : List Cond, ∀ w : Cond, w ∈ ws ↔ w ∈ lw_tbl ∧ isNest w = true := ⟨lw_tbl.filter isNest, fun _ => List.mem_filter⟩
noncomputable def nw : List Cond := Classical.choose nw_ex
theorem nw_iff (w : Cond) : w ∈ nw ↔ w ∈ lw_tbl ∧ isNest w = true := Classical.choose_spec nw_ex w
theorem nw_of {w : Cond} (i : Nat) (h : lw_tbl[i]? = some w) (g : isNest w = true) : w ∈ nw := (nw_iff w).mpr ⟨List.mem_of_getElem? h, g⟩
def nx (U : State) : Prop := ∀ w ∈ nw, va_Nw w U
theorem nx_warm {s U : State} (hW : s.WarmedH U.vm) (h : nx s) : nx U := by
  intro w hw
  have h1 := h w hw
  have h2 := ((nw_iff w).mp hw).2
  cases w <;> first | exact va_Nw.warmF hW h1 | exact va_Nw.warmM hW h1 | cases h2
theorem nx_same {s U : State} (hW : s.vm = U.vm) (h : nx s) : nx U := by
  intro w hw
  have h1 := h w hw
  have h2 := ((nw_iff w).mp hw).2
  cases w <;> first | exact va_Nw.same rfl hW h1 | cases h2
abbrev classes : List vw_C := [(RX0, TX0, 8), (RX1, TX1, 5), (RX2, TX2, 7), (RX3, TX3, 5), (RX4, TX4, 4), (RX5, TX5, 19), (RX6, TX6, 9), (RX7, TX7, 10), (RX8, TX8, 8), (RX9, TX9, 6), (RX10, TX10, 16), (RX11, TX11, 71)]
abbrev tyL (cI cZ cB cJ cE : ClassId) : List (ClassId × FieldType) := [(cI, .int), (cZ, .boolean), (cB, .byte), (cJ, .long), (cE, .object "IceTunes$Evening")]
def kx (G : va_G) (cI cZ cB cJ cE : ClassId) (U : State) : Prop := va_K G classes (tyL cI cZ cB cJ cE) U ∧ nx U ∧ va_AO "IceTunes$Evening" U
def PreW (G : va_G) (cI cZ cB cJ cE : ClassId) (ws : va_W) (sz : Nat) (U : State) : Prop := U.heap.size = sz ∧ va_P G classes ws U.heap ∧ kx G cI cZ cB cJ cE U ∧ va_D (fun _ => True) ws
theorem PreW.blind {G : va_G} {cI cZ cB cJ cE : ClassId} {ws : va_W} {sz : Nat} {av : List Value} : FrameBlind (va_Pc av (PreW G cI cZ cB cJ cE ws sz)) := fun a U g mk q => ⟨q.1, q.2.1, q.2.2.1, ⟨va_K.moved (u := U) (U := U.calling g mk a) (Vm.Alike.refl U.vm) q.2.2.2.1.1, nx_same (s := U) (U := U.calling g mk a) rfl q.2.2.2.1.2.1, va_AO.moved (u := U) (U := U.calling g mk a) (Vm.Alike.refl U.vm) q.2.2.2.1.2.2⟩, q.2.2.2.2⟩
theorem PreW.of {G : va_G} {cI cZ cB cJ cE : ClassId} {ws : va_W} {s : State} {H : Heap} {A : Nat → Prop} {av : List Value} (hK : kx G cI cZ cB cJ cE s) (hP : va_P G classes ws H) (hD : va_D A ws) : ∀ U : State, U.heap = H → s.WarmedH U.vm → va_Pc av (PreW G cI cZ cB cJ cE ws H.size) av.toArray U := fun _ hU hW => ⟨rfl, by rw [hU], by rw [hU]; exact hP, ⟨va_K.moved hW.alike hK.1, nx_warm hW hK.2.1, va_AO.moved hW.alike hK.2.2⟩, hD.weaken (fun _ _ _ _ => trivial)⟩
abbrev QV (P : Heap → Prop) (A : Nat → Prop) : Array Value → State → Outcome → State → Prop := va_Qv (fun _ : Unit => True) (fun _ t => P t.heap) A
abbrev QI (P : Int32 → Heap → Prop) (A : Nat → Prop) : Array Value → State → Outcome → State → Prop := va_Qi (fun (r u : Int32) => r = u) (fun u t => P u t.heap) A
abbrev QR (P : Nat → Heap → Prop) (A : Nat → Prop) : Array Value → State → Outcome → State → Prop := va_Qr (fun _ : Unit => True) (fun (_ : Unit) a t => P a t.heap) A
section MK
variable {l : Launch} {y : MethodName} {cc : ByteArray} {maxL : Nat} {rt : FieldType} {rm : Room} {G : va_G} {cI cZ cB cJ cE : ClassId} {ws : va_W} {sz : Nat} {av : List Value}
theorem mk_i {P : (Nat → Prop) → Int32 → Heap → Prop} (hy : plainName y.cls = true) (hlen : (lg_sl av).length ≤ maxL)
    (body : ∀ (p : Program) (e : Env) (s : State) (m : MethodId) (args : Array Value) (below : List Frame) (meth : Method) (c : Code) (R : Room) (Q : State → Prop) (A : Nat → Prop) (H : Heap) (locs : List Loc) (ls : Array Slot),
      p.tables.exec = Jvm.exec → c.code = cc → c.maxLocals = maxL → (∀ w ∈ wt, w.before args s = true) → s.vm.findClass y.cls = some m.cls → kx G cI cZ cB cJ cE s →
      (rm.frames ≤ R.frames ∧ rm.locals ≤ R.locals ∧ R.cells = rm.cells ∧ R.slots = rm.slots) → (∀ q : Nat, s.heap.size ≤ q → A q) →
      (∀ (v : Int32) (H1 : Heap) (locs : List Loc) (cells slots pc : Nat) (ls1 : Array Slot), decode cc pc = .ok (.ireturn, 1) → narrow rt (.int v) = .int v → cells ≤ rm.cells → slots ≤ rm.slots → P A v H1 → va_S A s.heap H1 locs → W p l e R s m args below meth c H1 locs cells slots Q (F0 m pc ls1 [.int v])) →
      va_P G classes ws H → va_D A ws → va_S A s.heap H locs → lv_has ls maxL (lv_args 0 av) → W p l e R s m args below meth c H locs 0 0 Q (F0 m 0 ls [])) :
    Met l y (.code y cc maxL (some rt) :: wt) rm (va_Pc av (PreW G cI cZ cB cJ cE ws sz)) (QI (P (va_A ws sz)) (va_A ws sz)) rm.cells rm.slots (va_A ws sz) := by
  refine Met.ofW (cc := cc) (maxL := maxL) (ret := some rt) hy rfl ?_
  intro p e s m args below meth c s₁ B hml hv
  obtain ⟨ha, hsz, hP, hK, hD0⟩ := hv
  subst hsz
  have hlocks := B.notSynchronized
  have hts := atoms_spec (ws := .code y cc maxL (some rt) :: wt) B.pre
  have hl := lv_entry av hlen
  have hfr : entryFrame m args maxL = F0 m 0 ((lg_sl av ++ List.replicate (maxL - (lg_sl av).length) Slot.unset).toArray) [] := by rw [ha]; exact lg_entry_eq m av maxL
  rw [hfr]
  refine body p e s m args below meth c _ _ (va_A ws s.heap.size) s.heap [] _ B.exec B.bytes hml (fun w hw => hts w (List.mem_cons_of_mem _ hw)) (findClass_of_methodNamed B.named) hK ⟨Nat.le_refl _, Nat.le_refl _, rfl, rfl⟩ (fun q h => Or.inr h) ?_ hP hD0.self va_S.rf hl
  intro v H1 locs cells slots pc ls1 hd hn h1 h2 hPv hS
  refine W.widen h1 h2 ?_
  exact W.zret B.exec B.bytes B.returns hn (fun t ht hW => ⟨⟨v, v, rfl, rfl, by show P _ v t.heap; rw [ht]; exact hPv⟩, hS.F ht⟩) hS.2.2 hd
theorem mk_v {P : (Nat → Prop) → Heap → Prop} (hy : plainName y.cls = true) (hlen : (lg_sl av).length ≤ maxL)
    (body : ∀ (p : Program) (e : Env) (s : State) (m : MethodId) (args : Array Value) (below : List Frame) (meth : Method) (c : Code) (R : Room) (Q : State → Prop) (A : Nat → Prop) (H : Heap) (locs : List Loc) (ls : Array Slot),
      p.tables.exec = Jvm.exec → c.code = cc → c.maxLocals = maxL → (∀ w ∈ wt, w.before args s = true) → s.vm.findClass y.cls = some m.cls → kx G cI cZ cB cJ cE s →
      (rm.frames ≤ R.frames ∧ rm.locals ≤ R.locals ∧ R.cells = rm.cells ∧ R.slots = rm.slots) → (∀ q : Nat, s.heap.size ≤ q → A q) → meth.name = y.name →
      (∀ (H1 : Heap) (locs : List Loc) (cells slots pc : Nat) (ls1 : Array Slot), decode cc pc = .ok (.return_, 1) → cells ≤ rm.cells → slots ≤ rm.slots → P A H1 → va_S A s.heap H1 locs → W p l e R s m args below meth c H1 locs cells slots Q (F0 m pc ls1 [])) →
      va_P G classes ws H → va_D A ws → va_S A s.heap H locs → lv_has ls maxL (lv_args 0 av) → W p l e R s m args below meth c H locs 0 0 Q (F0 m 0 ls [])) :
    Met l y (.code y cc maxL none :: wt) rm (va_Pc av (PreW G cI cZ cB cJ cE ws sz)) (QV (P (va_A ws sz)) (va_A ws sz)) rm.cells rm.slots (va_A ws sz) := by
  refine Met.ofW (cc := cc) (maxL := maxL) (ret := none) hy rfl ?_
  intro p e s m args below meth c s₁ B hml hv
  obtain ⟨ha, hsz, hP, hK, hD0⟩ := hv
  subst hsz
  have hlocks := B.notSynchronized
  have hts := atoms_spec (ws := .code y cc maxL none :: wt) B.pre
  have hl := lv_entry av hlen
  have hfr : entryFrame m args maxL = F0 m 0 ((lg_sl av ++ List.replicate (maxL - (lg_sl av).length) Slot.unset).toArray) [] := by rw [ha]; exact lg_entry_eq m av maxL
  rw [hfr]
  refine body p e s m args below meth c _ _ (va_A ws s.heap.size) s.heap [] _ B.exec B.bytes hml (fun w hw => hts w (List.mem_cons_of_mem _ hw)) (findClass_of_methodNamed B.named) hK ⟨Nat.le_refl _, Nat.le_refl _, rfl, rfl⟩ (fun q h => Or.inr h) (name_of_methodNamed B.named B.method).1 ?_ hP hD0.self va_S.rf hl
  intro H1 locs cells slots pc ls1 hd h1 h2 hPv hS
  refine W.widen h1 h2 ?_
  exact W.vret B.exec B.bytes B.returns (fun t ht hW => ⟨⟨(), rfl, trivial, by show P _ t.heap; rw [ht]; exact hPv⟩, hS.F ht⟩) hS.2.2 hd
theorem mk_r {P : (Nat → Prop) → Nat → Heap → Prop} {C : String} (hy : plainName y.cls = true) (hlen : (lg_sl av).length ≤ maxL)
    (body : ∀ (p : Program) (e : Env) (s : State) (m : MethodId) (args : Array Value) (below : List Frame) (meth : Method) (c : Code) (R : Room) (Q : State → Prop) (A : Nat → Prop) (H : Heap) (locs : List Loc) (ls : Array Slot),
      p.tables.exec = Jvm.exec → c.code = cc → c.maxLocals = maxL → (∀ w ∈ wt, w.before args s = true) → s.vm.findClass y.cls = some m.cls → kx G cI cZ cB cJ cE s →
      (rm.frames ≤ R.frames ∧ rm.locals ≤ R.locals ∧ R.cells = rm.cells ∧ R.slots = rm.slots) → (∀ q : Nat, s.heap.size ≤ q → A q) →
      (∀ (a : Nat) (H1 : Heap) (locs : List Loc) (cells slots pc : Nat) (ls1 : Array Slot), decode cc pc = .ok (.areturn, 1) → cells ≤ rm.cells → slots ≤ rm.slots → P A a H1 → va_S A s.heap H1 locs → W p l e R s m args below meth c H1 locs cells slots Q (F0 m pc ls1 [.ref a])) →
      va_P G classes ws H → va_D A ws → va_S A s.heap H locs → lv_has ls maxL (lv_args 0 av) → W p l e R s m args below meth c H locs 0 0 Q (F0 m 0 ls [])) :
    Met l y (.code y cc maxL (some (.object C)) :: wt) rm (va_Pc av (PreW G cI cZ cB cJ cE ws sz)) (QR (P (va_A ws sz)) (va_A ws sz)) rm.cells rm.slots (va_A ws sz) := by
  refine Met.ofW (cc := cc) (maxL := maxL) (ret := some (.object C)) hy rfl ?_
  intro p e s m args below meth c s₁ B hml hv
  obtain ⟨ha, hsz, hP, hK, hD0⟩ := hv
  subst hsz
  have hlocks := B.notSynchronized
  have hts := atoms_spec (ws := .code y cc maxL (some (.object C)) :: wt) B.pre
  have hl := lv_entry av hlen
  have hfr : entryFrame m args maxL = F0 m 0 ((lg_sl av ++ List.replicate (maxL - (lg_sl av).length) Slot.unset).toArray) [] := by rw [ha]; exact lg_entry_eq m av maxL
  rw [hfr]
  refine body p e s m args below meth c _ _ (va_A ws s.heap.size) s.heap [] _ B.exec B.bytes hml (fun w hw => hts w (List.mem_cons_of_mem _ hw)) (findClass_of_methodNamed B.named) hK ⟨Nat.le_refl _, Nat.le_refl _, rfl, rfl⟩ (fun q h => Or.inr h) ?_ hP hD0.self va_S.rf hl
  intro a H1 locs cells slots pc ls1 hd h1 h2 hPv hS
  refine W.widen h1 h2 ?_
  exact W.aret B.exec B.bytes B.returns (Or.inl ⟨C, rfl⟩) (Or.inr ⟨a, rfl⟩) (fun t ht hW => ⟨⟨(), a, rfl, trivial, by show P _ a t.heap; rw [ht]; exact hPv⟩, hS.F ht⟩) hS.2.2 hd
end MK
section CALLS
variable {p : Program} {l : Launch} {e : Env} {R : Room} {s : State} {m : MethodId} {args : Array Value} {below : List Frame} {meth : Method} {c : Code} {H H0 : Heap} {locs : List Loc} {cells slots : Nat} {Q : State → Prop} {cc bytes : ByteArray} {pc nL maxL idx n : Nat} {ls : Array Slot} {y : MethodName} {own host : String} {rm : Room} {G : va_G} {cI cZ cB cJ cE : ClassId} {A : Nat → Prop} {b : Nat} {ret : Option FieldType} {Qc : Array Value → State → Outcome → State → Prop}
/-- the world beside a call's own cells is what it was -/
def Jn (G : va_G) (A A1 : Nat → Prop) (wr : va_W) (H1 : Heap) : Prop := ∀ w1 : va_W, va_P G classes w1 H1 → va_D A1 w1 → va_P G classes (wr ++ w1) H1 ∧ va_D A (wr ++ w1)
theorem run_VN (ws wc wr : va_W) (As rest : List Value) (hM : Met l y (.code y bytes maxL ret :: wt) rm (va_Pc (.ref b :: As) (PreW G cI cZ cB cJ cE wc H.size)) Qc rm.cells rm.slots (va_A wc H.size))
    (hx : p.tables.exec = Jvm.exec) (hb : c.code = cc) (hml : c.maxLocals = nL) (htw : ∀ w ∈ wt, w.before args s = true) (hown : s.vm.findClass own = some m.cls) (hK : kx G cI cZ cB cJ cE s) (hsz : ls.size = nL)
    (hP : va_P G classes ws H) (hD : va_D A ws) (isC : List Nat) (hC : isC.map (fun i => ws[i]?) = wc.map some) (hCf : isC.filterMap (fun i => ws[i]?) = wc) (hnC : va_nd isC = true) (r0 ci : Nat) {fs : List Value} {q : vw_C} (hcl : classes[ci]? = some q) (hq : q.1 = y.cls) (hre : wc[r0]? = some (b, .inr (ci, fs)))
    (h1 : Cond.code y bytes maxL ret ∈ wt) (h2 : Cond.instanceMethod y ∈ wt) (h3 : Cond.selects y.cls y y ∈ wt) (h4 : Cond.initialized y.cls ∈ wt) (h5 : Cond.methodLinkNest own idx y host ∈ nw)
    (hd : y.cls ≠ "java/lang/invoke/MethodHandle" ∧ y.cls ≠ "java/lang/invoke/VarHandle" ∧ (parseMethodDescriptor y.desc).map (fun d => d.parameters.length) = some As.length) (hR : rm.frames + 1 ≤ R.frames ∧ 8 + (maxL + 11) + rm.locals ≤ R.locals) (hf : cells + rm.cells ≤ R.cells ∧ slots + rm.slots ≤ R.slots)
    (hW : (rest.map fun v => v.category).sum ≤ 8) (hdg : decode cc pc = .ok (.invokevirtual idx, 3)) :
    va_Run p l e R s m args below meth c H locs cells slots rm.cells rm.slots (F0 m pc ls (As.reverse ++ .ref b :: rest)) rest (Qc (Value.ref b :: As).toArray) (va_A wc H.size) := by
  have hPc := hP.sub (ws' := wc) isC hCf
  have hDc := hD.sub (ws' := wc) isC hnC hC
  refine va_runVN (C := y.cls) (As := As) (rest := rest) ⟨hx, hb, hml, hown, htw⟩ hM ⟨va_cnB As.length htw (wt_code h1) rfl rfl rfl (hK.2.1 _ h5) (htw _ h4) hd hR, htw _ h2, htw _ h3⟩ ⟨PreW.blind, ?_, PreW.of hK hPc hDc⟩ rfl rfl hsz rfl (lv_room hW) hdg hf
  rw [← hq]
  exact va_recv hK.1 hPc hcl hre
theorem run_V (ws wc wr : va_W) (As rest : List Value) (hM : Met l y (.code y bytes maxL ret :: wt) rm (va_Pc (.ref b :: As) (PreW G cI cZ cB cJ cE wc H.size)) Qc rm.cells rm.slots (va_A wc H.size))
    (hx : p.tables.exec = Jvm.exec) (hb : c.code = cc) (hml : c.maxLocals = nL) (htw : ∀ w ∈ wt, w.before args s = true) (hown : s.vm.findClass own = some m.cls) (hK : kx G cI cZ cB cJ cE s) (hsz : ls.size = nL)
    (hP : va_P G classes ws H) (hD : va_D A ws) (isC : List Nat) (hC : isC.map (fun i => ws[i]?) = wc.map some) (hCf : isC.filterMap (fun i => ws[i]?) = wc) (hnC : va_nd isC = true) (r0 ci : Nat) {fs : List Value} {q : vw_C} (hcl : classes[ci]? = some q) (hq : q.1 = y.cls) (hre : wc[r0]? = some (b, .inr (ci, fs)))
    (h1 : Cond.code y bytes maxL ret ∈ wt) (h2 : Cond.instanceMethod y ∈ wt) (h3 : Cond.selects y.cls y y ∈ wt) (h4 : Cond.initialized y.cls ∈ wt) (h5 : Cond.methodLink own idx y ∈ wt)
    (hd : y.cls ≠ "java/lang/invoke/MethodHandle" ∧ y.cls ≠ "java/lang/invoke/VarHandle" ∧ (parseMethodDescriptor y.desc).map (fun d => d.parameters.length) = some As.length) (hR : rm.frames + 1 ≤ R.frames ∧ 8 + (maxL + 11) + rm.locals ≤ R.locals) (hf : cells + rm.cells ≤ R.cells ∧ slots + rm.slots ≤ R.slots)
    (hW : (rest.map fun v => v.category).sum ≤ 8) (hdg : decode cc pc = .ok (.invokevirtual idx, 3)) :
    va_Run p l e R s m args below meth c H locs cells slots rm.cells rm.slots (F0 m pc ls (As.reverse ++ .ref b :: rest)) rest (Qc (Value.ref b :: As).toArray) (va_A wc H.size) := by
  have hPc := hP.sub (ws' := wc) isC hCf
  have hDc := hD.sub (ws' := wc) isC hnC hC
  refine va_runV (C := y.cls) (As := As) (rest := rest) ⟨hx, hb, hml, hown, htw⟩ hM (cwV As.length htw (wt_V h1 h5 h2 h3 h4) rfl rfl rfl ⟨rfl, hd⟩ hR) ⟨PreW.blind, ?_, PreW.of hK hPc hDc⟩ rfl rfl hsz rfl (lv_room hW) hdg hf
  rw [← hq]
  exact va_recv hK.1 hPc hcl hre
theorem run_IN (ws wc wr : va_W) (As rest : List Value) (hM : Met l y (.code y bytes maxL none :: wt) rm (va_Pc (.ref b :: As) (PreW G cI cZ cB cJ cE wc H.size)) Qc rm.cells rm.slots (va_A wc H.size))
    (hx : p.tables.exec = Jvm.exec) (hb : c.code = cc) (hml : c.maxLocals = nL) (htw : ∀ w ∈ wt, w.before args s = true) (hown : s.vm.findClass own = some m.cls) (hK : kx G cI cZ cB cJ cE s) (hsz : ls.size = nL)
    (hP : va_P G classes ws H) (hD : va_D A ws) (isC : List Nat) (hC : isC.map (fun i => ws[i]?) = wc.map some) (hCf : isC.filterMap (fun i => ws[i]?) = wc) (hnC : va_nd isC = true)
    (h1 : Cond.code y bytes maxL none ∈ wt) (h2 : Cond.instanceMethod y ∈ wt) (h4 : Cond.initialized y.cls ∈ wt) (h5 : Cond.methodLinkNest own idx y host ∈ nw) (hin : y.name = "<init>")
    (hd : y.cls ≠ "java/lang/invoke/MethodHandle" ∧ y.cls ≠ "java/lang/invoke/VarHandle" ∧ (parseMethodDescriptor y.desc).map (fun d => d.parameters.length) = some As.length) (hR : rm.frames + 1 ≤ R.frames ∧ 8 + (maxL + 11) + rm.locals ≤ R.locals) (hf : cells + rm.cells ≤ R.cells ∧ slots + rm.slots ≤ R.slots)
    (hW : (rest.map fun v => v.category).sum ≤ 8) (hdg : decode cc pc = .ok (.invokespecial idx, 3)) :
    va_Run p l e R s m args below meth c H locs cells slots rm.cells rm.slots (F0 m pc ls (As.reverse ++ .ref b :: rest)) rest (Qc (Value.ref b :: As).toArray) (va_A wc H.size) := by
  have hPc := hP.sub (ws' := wc) isC hCf
  have hDc := hD.sub (ws' := wc) isC hnC hC
  exact va_runIN (As := As) (rest := rest) ⟨hx, hb, hml, hown, htw⟩ hM ⟨va_cnB As.length htw (wt_code h1) rfl rfl rfl (hK.2.1 _ h5) (htw _ h4) hd hR, hin, htw _ h2⟩ ⟨PreW.blind, PreW.of hK hPc hDc⟩ rfl rfl hsz rfl (lv_room hW) hdg hf
theorem run_I (ws wc wr : va_W) (As rest : List Value) (hM : Met l y (.code y bytes maxL none :: wt) rm (va_Pc (.ref b :: As) (PreW G cI cZ cB cJ cE wc H.size)) Qc rm.cells rm.slots (va_A wc H.size))
    (hx : p.tables.exec = Jvm.exec) (hb : c.code = cc) (hml : c.maxLocals = nL) (htw : ∀ w ∈ wt, w.before args s = true) (hown : s.vm.findClass own = some m.cls) (hK : kx G cI cZ cB cJ cE s) (hsz : ls.size = nL)
    (hP : va_P G classes ws H) (hD : va_D A ws) (isC : List Nat) (hC : isC.map (fun i => ws[i]?) = wc.map some) (hCf : isC.filterMap (fun i => ws[i]?) = wc) (hnC : va_nd isC = true)
    (h1 : Cond.code y bytes maxL none ∈ wt) (h2 : Cond.instanceMethod y ∈ wt) (h4 : Cond.initialized y.cls ∈ wt) (h5 : Cond.methodLink own idx y ∈ wt) (hin : y.name = "<init>")
    (hd : y.cls ≠ "java/lang/invoke/MethodHandle" ∧ y.cls ≠ "java/lang/invoke/VarHandle" ∧ (parseMethodDescriptor y.desc).map (fun d => d.parameters.length) = some As.length) (hR : rm.frames + 1 ≤ R.frames ∧ 8 + (maxL + 11) + rm.locals ≤ R.locals) (hf : cells + rm.cells ≤ R.cells ∧ slots + rm.slots ≤ R.slots)
    (hW : (rest.map fun v => v.category).sum ≤ 8) (hdg : decode cc pc = .ok (.invokespecial idx, 3)) :
    va_Run p l e R s m args below meth c H locs cells slots rm.cells rm.slots (F0 m pc ls (As.reverse ++ .ref b :: rest)) rest (Qc (Value.ref b :: As).toArray) (va_A wc H.size) := by
  have hPc := hP.sub (ws' := wc) isC hCf
  have hDc := hD.sub (ws' := wc) isC hnC hC
  exact va_runI (As := As) (rest := rest) ⟨hx, hb, hml, hown, htw⟩ hM (cwI As.length htw (wt_code h1) rfl rfl rfl (htw _ h4) (htw _ h5) (htw _ h2) hin hd hR) ⟨PreW.blind, PreW.of hK hPc hDc⟩ rfl rfl hsz rfl (lv_room hW) hdg hf
theorem run_S (ws wc wr : va_W) (As rest : List Value) (hM : Met l y (.code y bytes maxL ret :: wt) rm (va_Pc As (PreW G cI cZ cB cJ cE wc H.size)) Qc rm.cells rm.slots (va_A wc H.size))
    (hx : p.tables.exec = Jvm.exec) (hb : c.code = cc) (hml : c.maxLocals = nL) (htw : ∀ w ∈ wt, w.before args s = true) (hown : s.vm.findClass own = some m.cls) (hK : kx G cI cZ cB cJ cE s) (hsz : ls.size = nL)
    (hP : va_P G classes ws H) (hD : va_D A ws) (isC : List Nat) (hC : isC.map (fun i => ws[i]?) = wc.map some) (hCf : isC.filterMap (fun i => ws[i]?) = wc) (hnC : va_nd isC = true)
    (h1 : Cond.code y bytes maxL ret ∈ wt) (h2 : Cond.static y ∈ wt) (h4 : Cond.initialized y.cls ∈ wt) (h5 : Cond.methodLink own idx y ∈ wt)
    (hd : y.cls ≠ "java/lang/invoke/MethodHandle" ∧ y.cls ≠ "java/lang/invoke/VarHandle" ∧ (parseMethodDescriptor y.desc).map (fun d => d.parameters.length) = some As.length) (hR : rm.frames + 1 ≤ R.frames ∧ 8 + (maxL + 11) + rm.locals ≤ R.locals) (hf : cells + rm.cells ≤ R.cells ∧ slots + rm.slots ≤ R.slots)
    (hW : (rest.map fun v => v.category).sum ≤ 8) (hdg : decode cc pc = .ok (.invokestatic idx, 3)) :
    va_Run p l e R s m args below meth c H locs cells slots rm.cells rm.slots (F0 m pc ls (As.reverse ++ rest)) rest (Qc As.toArray) (va_A wc H.size) := by
  have hPc := hP.sub (ws' := wc) isC hCf
  have hDc := hD.sub (ws' := wc) isC hnC hC
  exact va_runS (As := As) (rest := rest) ⟨hx, hb, hml, hown, htw⟩ hM (va_cwS As.length htw (wt_S h1 h5 h2 h4) rfl rfl rfl hd hR) ⟨PreW.blind, PreW.of hK hPc hDc⟩ rfl rfl hsz rfl (lv_room hW) hdg hf
variable {st0 rest : List Value} {a : Array Value}
theorem go_v {ws wc wr : va_W} {P : Heap → Prop} (hr : va_Run p l e R s m args below meth c H locs cells slots rm.cells rm.slots (F0 m pc ls st0) rest (QV P (va_A wc H.size) a) (va_A wc H.size)) (hP : va_P G classes ws H) (hD : va_D A ws) (hS : va_S A H0 H locs) (hA : ∀ q, H0.size ≤ q → A q) (isC isR : List Nat) (hC : isC.map (fun i => ws[i]?) = wc.map some) (hRr : isR.map (fun i => ws[i]?) = wr.map some) (hn : va_nd isR = true) (hdis : ∀ i ∈ isR, i ∉ isC)
    (kk : ∀ (H1 : Heap) (locs1 : List Loc), P H1 → Jn G A (va_A wc H.size) wr H1 → va_S A H0 H1 locs1 → W p l e R s m args below meth c H1 locs1 (cells + rm.cells) (slots + rm.slots) Q (F0 m (pc + 3) ls rest)) : W p l e R s m args below meth c H locs cells slots Q (F0 m pc ls st0) := by
  have hF := va_free (wc := wc) hD hS hA isC hC
  refine va_callv hr hS (fun q _ h => hF q h) hF (fun _ t H1 locs1 ht _ _ hB _ hk hS1 => kk H1 locs1 (by rw [← ht]; exact hB) (fun w1 h1 h2 => va_join hP hD isC isR hC hRr hn hdis hk hF h1 h2) hS1)
theorem go_i {ws wc wr : va_W} {P : Int32 → Heap → Prop} (hr : va_Run p l e R s m args below meth c H locs cells slots rm.cells rm.slots (F0 m pc ls st0) rest (QI P (va_A wc H.size) a) (va_A wc H.size)) (hP : va_P G classes ws H) (hD : va_D A ws) (hS : va_S A H0 H locs) (hA : ∀ q, H0.size ≤ q → A q) (isC isR : List Nat) (hC : isC.map (fun i => ws[i]?) = wc.map some) (hRr : isR.map (fun i => ws[i]?) = wr.map some) (hn : va_nd isR = true) (hdis : ∀ i ∈ isR, i ∉ isC)
    (kk : ∀ (r : Int32) (H1 : Heap) (locs1 : List Loc), P r H1 → Jn G A (va_A wc H.size) wr H1 → va_S A H0 H1 locs1 → W p l e R s m args below meth c H1 locs1 (cells + rm.cells) (slots + rm.slots) Q (F0 m (pc + 3) ls (.int r :: rest))) : W p l e R s m args below meth c H locs cells slots Q (F0 m pc ls st0) := by
  have hF := va_free (wc := wc) hD hS hA isC hC
  refine va_calli hr hS (fun q _ h => hF q h) hF (fun r u t H1 locs1 ht _ hw hB _ hk hS1 => kk r H1 locs1 (by rw [← ht, hw]; exact hB) (fun w1 h1 h2 => va_join hP hD isC isR hC hRr hn hdis hk hF h1 h2) hS1)
theorem go_r {ws wc wr : va_W} {P : Nat → Heap → Prop} (hr : va_Run p l e R s m args below meth c H locs cells slots rm.cells rm.slots (F0 m pc ls st0) rest (QR P (va_A wc H.size) a) (va_A wc H.size)) (hP : va_P G classes ws H) (hD : va_D A ws) (hS : va_S A H0 H locs) (hA : ∀ q, H0.size ≤ q → A q) (isC isR : List Nat) (hC : isC.map (fun i => ws[i]?) = wc.map some) (hRr : isR.map (fun i => ws[i]?) = wr.map some) (hn : va_nd isR = true) (hdis : ∀ i ∈ isR, i ∉ isC)
    (kk : ∀ (r : Nat) (H1 : Heap) (locs1 : List Loc), P r H1 → Jn G A (va_A wc H.size) wr H1 → va_S A H0 H1 locs1 → W p l e R s m args below meth c H1 locs1 (cells + rm.cells) (slots + rm.slots) Q (F0 m (pc + 3) ls (.ref r :: rest))) : W p l e R s m args below meth c H locs cells slots Q (F0 m pc ls st0) := by
  have hF := va_free (wc := wc) hD hS hA isC hC
  refine va_callr hr hS (fun q _ h => hF q h) hF (fun _ r t H1 locs1 ht _ _ hB _ hk hS1 => kk r H1 locs1 (by rw [← ht]; exact hB) (fun w1 h1 h2 => va_join hP hD isC isR hC hRr hn hdis hk hF h1 h2) hS1)
end CALLS
section NEWS
variable {p : Program} {l : Launch} {e : Env} {R : Room} {s : State} {m : MethodId} {args : Array Value} {below : List Frame} {meth : Method} {c : Code} {H H0 : Heap} {locs : List Loc} {cells slots : Nat} {Q : State → Prop} {cc : ByteArray} {pc : Nat} {ls : Array Slot} {rest : List Value} {G : va_G} {cI cZ cB cJ cE : ClassId} {A : Nat → Prop} {ws : va_W}
theorem new_a (hx : p.tables.exec = Jvm.exec) (hb : c.code = cc) {atype : ArrayType} (harr : (Cond.arrayClass (newarray.typeOf atype)).before args s = true) {ty : FieldType} (hty : newarray.typeOf atype = ty) (hK : kx G cI cZ cB cJ cE s) (t0 : Nat) {cA : ClassId} (ht : (tyL cI cZ cB cJ cE)[t0]? = some (cA, ty)) (hP : va_P G classes ws H) (hD : va_D A ws) (hS : va_S A H0 H locs) (hA : ∀ q, H0.size ≤ q → A q)
    {n : Int32} {N' : Nat} {a0 : vp_A} (ha : ∀ cA : ClassId, vp_cell cA a0 = arrV cA N' (fun _ => defaultValue ty)) (hn : ¬ n < 0) (hN : n.toNatClampNeg = N') (hbytes : N' * componentBytes ty ≤ 536870912) (hcells : cells + 1 ≤ R.cells) (hslots : slots + N' ≤ R.slots) (hdg : decode cc pc = .ok (.newarray atype, 2))
    (kk : ∀ (q : Nat) (H1 : Heap), va_P G classes (ws ++ [(q, .inl (cA, a0))]) H1 → va_D A (ws ++ [(q, .inl (cA, a0))]) → va_S A H0 H1 locs →
      W p l e R s m args below meth c H1 locs (cells + 1) (slots + N') Q (F0 m (pc + 2) ls (.ref q :: rest))) : W p l e R s m args below meth c H locs cells slots Q (F0 m pc ls (.int n :: rest)) := by
  refine va_newa hx hb harr hty hK.1 hP hD hS hA ha hn hN hbytes hcells hslots hdg fun q c1 H1 hK1 hP1 hD1 hS1 => ?_
  have e1 := (hK1.2 5 (c1, ty) rfl).2
  have e2 := (hK.1.2 t0 _ ht).2
  have e3 : c1 = cA := by
    subst hty
    cases atype <;> exact Option.some.inj ((show s.vm.findClass _ = some c1 from e1).symm.trans (show s.vm.findClass _ = some cA from e2))
  subst e3
  exact kk q H1 hP1 hD1 hS1
theorem new_q (hx : p.tables.exec = Jvm.exec) (hb : c.code = cc) {own : String} {index : Nat} (hown : s.vm.findClass own = some m.cls) (hclink : (Cond.classLink own index "IceTunes$Evening").before args s = true) (hK : kx G cI cZ cB cJ cE s) (hP : va_P G classes ws H) (hD : va_D A ws) (hS : va_S A H0 H locs) (hA : ∀ q, H0.size ≤ q → A q)
    {n : Int32} {N' : Nat} (hn : ¬ n < 0) (hN : n.toNatClampNeg = N') (hbytes : N' * 4 ≤ 536870912) (hcells : cells + 1 ≤ R.cells) (hslots : slots + N' ≤ R.slots) (hdg : decode cc pc = .ok (.anewarray index, 3))
    (kk : ∀ (q : Nat) (H1 : Heap), va_P G classes (ws ++ [(q, .inl (cE, N', .inr (.inr (.inr (.inr (fun _ => none))))))]) H1 → va_D A (ws ++ [(q, .inl (cE, N', .inr (.inr (.inr (.inr (fun _ => none))))))]) → va_S A H0 H1 locs →
      W p l e R s m args below meth c H1 locs (cells + 1) (slots + N') Q (F0 m (pc + 3) ls (.ref q :: rest))) : W p l e R s m args below meth c H locs cells slots Q (F0 m pc ls (.int n :: rest)) := by
  refine va_newq hx hb hown hclink hK.2.2 hK.1 hP hD hS hA hn hN hbytes hcells hslots hdg fun q c1 H1 hK1 hP1 hD1 hS1 => ?_
  have e1 := (hK1.2 5 (c1, .object "IceTunes$Evening") rfl).2
  have e2 := (hK.1.2 4 (cE, .object "IceTunes$Evening") rfl).2
  obtain ⟨k1, m1, -, -, -, f1⟩ := e1
  obtain ⟨k2, m2, -, -, -, f2⟩ := e2
  have e3 : c1 = cE := Option.some.inj (f1.symm.trans f2)
  subst e3
  exact kk q H1 hP1 hD1 hS1
end NEWS
end
section
theorem wm_0 : Cond.selects "IceTunes$Pond" ⟨"IceTunes$Pond", "clear", "()V"⟩ ⟨"IceTunes$Pond", "clear", "()V"⟩ ∈ wt := wt_of 0 (by decide +kernel) (by decide +kernel)
theorem wm_1 : Cond.selects "IceTunes$History" ⟨"IceTunes$History", "now", "()LIceTunes$Evening;"⟩ ⟨"IceTunes$History", "now", "()LIceTunes$Evening;"⟩ ∈ wt := wt_of 1 (by decide +kernel) (by decide +kernel)
theorem wm_2 : Cond.selects "IceTunes$Evening" ⟨"IceTunes$Evening", "begin", "(LIceTunes$Pond;)V"⟩ ⟨"IceTunes$Evening", "begin", "(LIceTunes$Pond;)V"⟩ ∈ wt := wt_of 2 (by decide +kernel) (by decide +kernel)
theorem wm_3 : Cond.selects "IceTunes$Pond" ⟨"IceTunes$Pond", "iceAtFirst", "(I)I"⟩ ⟨"IceTunes$Pond", "iceAtFirst", "(I)I"⟩ ∈ wt := wt_of 3 (by decide +kernel) (by decide +kernel)
theorem wm_4 : Cond.selects "IceTunes" ⟨"IceTunes", "tapeNumber", "(I)V"⟩ ⟨"IceTunes", "tapeNumber", "(I)V"⟩ ∈ wt := wt_of 4 (by decide +kernel) (by decide +kernel)
theorem wm_5 : Cond.selects "IceTunes$Reader" ⟨"IceTunes$Reader", "read", "([BILIceTunes$Pond;)Z"⟩ ⟨"IceTunes$Reader", "read", "([BILIceTunes$Pond;)Z"⟩ ∈ wt := wt_of 5 (by decide +kernel) (by decide +kernel)
theorem wm_6 : Cond.selects "IceTunes$Tokens" ⟨"IceTunes$Tokens", "begin", "([BI)V"⟩ ⟨"IceTunes$Tokens", "begin", "([BI)V"⟩ ∈ wt := wt_of 6 (by decide +kernel) (by decide +kernel)
theorem wm_7 : Cond.selects "IceTunes$Tokens" ⟨"IceTunes$Tokens", "next", "()V"⟩ ⟨"IceTunes$Tokens", "next", "()V"⟩ ∈ wt := wt_of 7 (by decide +kernel) (by decide +kernel)
theorem wm_8 : Cond.selects "IceTunes$Tokens" ⟨"IceTunes$Tokens", "isLetter", "(I)Z"⟩ ⟨"IceTunes$Tokens", "isLetter", "(I)Z"⟩ ∈ wt := wt_of 8 (by decide +kernel) (by decide +kernel)
theorem wm_9 : Cond.selects "IceTunes$Tokens" ⟨"IceTunes$Tokens", "takeWord", "()V"⟩ ⟨"IceTunes$Tokens", "takeWord", "()V"⟩ ∈ wt := wt_of 9 (by decide +kernel) (by decide +kernel)
theorem wm_10 : Cond.selects "IceTunes$Tokens" ⟨"IceTunes$Tokens", "kindOfWord", "()I"⟩ ⟨"IceTunes$Tokens", "kindOfWord", "()I"⟩ ∈ wt := wt_of 10 (by decide +kernel) (by decide +kernel)
theorem wm_11 : Cond.selects "IceTunes$Tokens" ⟨"IceTunes$Tokens", "isDigit", "(I)Z"⟩ ⟨"IceTunes$Tokens", "isDigit", "(I)Z"⟩ ∈ wt := wt_of 11 (by decide +kernel) (by decide +kernel)
theorem wm_12 : Cond.selects "IceTunes$Tokens" ⟨"IceTunes$Tokens", "takeNumber", "()V"⟩ ⟨"IceTunes$Tokens", "takeNumber", "()V"⟩ ∈ wt := wt_of 12 (by decide +kernel) (by decide +kernel)
theorem wm_13 : Cond.selects "IceTunes$Reader" ⟨"IceTunes$Reader", "mayStand", "(I)Z"⟩ ⟨"IceTunes$Reader", "mayStand", "(I)Z"⟩ ∈ wt := wt_of 13 (by decide +kernel) (by decide +kernel)
theorem wm_14 : Cond.selects "IceTunes$Reader" ⟨"IceTunes$Reader", "fail", "(I)Z"⟩ ⟨"IceTunes$Reader", "fail", "(I)Z"⟩ ∈ wt := wt_of 14 (by decide +kernel) (by decide +kernel)
theorem wm_15 : Cond.selects "IceTunes$Reader" ⟨"IceTunes$Reader", "readSize", "()Z"⟩ ⟨"IceTunes$Reader", "readSize", "()Z"⟩ ∈ wt := wt_of 15 (by decide +kernel) (by decide +kernel)
theorem wm_16 : Cond.selects "IceTunes$Reader" ⟨"IceTunes$Reader", "takeNumber", "(II)Z"⟩ ⟨"IceTunes$Reader", "takeNumber", "(II)Z"⟩ ∈ wt := wt_of 16 (by decide +kernel) (by decide +kernel)
theorem wm_17 : Cond.selects "IceTunes$Reader" ⟨"IceTunes$Reader", "take", "(I)Z"⟩ ⟨"IceTunes$Reader", "take", "(I)Z"⟩ ∈ wt := wt_of 17 (by decide +kernel) (by decide +kernel)
theorem wm_18 : Cond.selects "IceTunes$Reader" ⟨"IceTunes$Reader", "readAllIce", "()Z"⟩ ⟨"IceTunes$Reader", "readAllIce", "()Z"⟩ ∈ wt := wt_of 18 (by decide +kernel) (by decide +kernel)
theorem wm_19 : Cond.selects "IceTunes$Reader" ⟨"IceTunes$Reader", "readCell", "()Z"⟩ ⟨"IceTunes$Reader", "readCell", "()Z"⟩ ∈ wt := wt_of 19 (by decide +kernel) (by decide +kernel)
theorem wm_20 : Cond.selects "IceTunes$Reader" ⟨"IceTunes$Reader", "takePlace", "(I)Z"⟩ ⟨"IceTunes$Reader", "takePlace", "(I)Z"⟩ ∈ wt := wt_of 20 (by decide +kernel) (by decide +kernel)
theorem wm_21 : Cond.selects "IceTunes$Pond" ⟨"IceTunes$Pond", "hasCell", "(II)Z"⟩ ⟨"IceTunes$Pond", "hasCell", "(II)Z"⟩ ∈ wt := wt_of 21 (by decide +kernel) (by decide +kernel)
theorem wm_22 : Cond.selects "IceTunes$Reader" ⟨"IceTunes$Reader", "isToldAlready", "(II)Z"⟩ ⟨"IceTunes$Reader", "isToldAlready", "(II)Z"⟩ ∈ wt := wt_of 22 (by decide +kernel) (by decide +kernel)
theorem wm_23 : Cond.selects "IceTunes$Reader" ⟨"IceTunes$Reader", "readPlank", "()Z"⟩ ⟨"IceTunes$Reader", "readPlank", "()Z"⟩ ∈ wt := wt_of 23 (by decide +kernel) (by decide +kernel)
theorem wm_24 : Cond.selects "IceTunes$Reader" ⟨"IceTunes$Reader", "readTune", "()Z"⟩ ⟨"IceTunes$Reader", "readTune", "()Z"⟩ ∈ wt := wt_of 24 (by decide +kernel) (by decide +kernel)
theorem wm_25 : Cond.selects "IceTunes$Reader" ⟨"IceTunes$Reader", "takeName", "(II)Z"⟩ ⟨"IceTunes$Reader", "takeName", "(II)Z"⟩ ∈ wt := wt_of 25 (by decide +kernel) (by decide +kernel)
theorem wm_26 : Cond.selects "IceTunes$Tokens" ⟨"IceTunes$Tokens", "isSameWord", "(II)Z"⟩ ⟨"IceTunes$Tokens", "isSameWord", "(II)Z"⟩ ∈ wt := wt_of 26 (by decide +kernel) (by decide +kernel)
theorem wm_27 : Cond.selects "IceTunes$Reader" ⟨"IceTunes$Reader", "readFormula", "(I)Z"⟩ ⟨"IceTunes$Reader", "readFormula", "(I)Z"⟩ ∈ wt := wt_of 27 (by decide +kernel) (by decide +kernel)
theorem wm_28 : Cond.selects "IceTunes$Reader" ⟨"IceTunes$Reader", "readBoth", "(I)Z"⟩ ⟨"IceTunes$Reader", "readBoth", "(I)Z"⟩ ∈ wt := wt_of 28 (by decide +kernel) (by decide +kernel)
theorem wm_29 : Cond.selects "IceTunes$Reader" ⟨"IceTunes$Reader", "readOne", "(I)Z"⟩ ⟨"IceTunes$Reader", "readOne", "(I)Z"⟩ ∈ wt := wt_of 29 (by decide +kernel) (by decide +kernel)
theorem wm_30 : Cond.selects "IceTunes$Reader" ⟨"IceTunes$Reader", "putCode", "(I)V"⟩ ⟨"IceTunes$Reader", "putCode", "(I)V"⟩ ∈ wt := wt_of 30 (by decide +kernel) (by decide +kernel)
theorem wm_31 : Cond.selects "IceTunes$Reader" ⟨"IceTunes$Reader", "readSum", "(I)Z"⟩ ⟨"IceTunes$Reader", "readSum", "(I)Z"⟩ ∈ wt := wt_of 31 (by decide +kernel) (by decide +kernel)
theorem wm_32 : Cond.selects "IceTunes$Reader" ⟨"IceTunes$Reader", "readTerm", "(I)Z"⟩ ⟨"IceTunes$Reader", "readTerm", "(I)Z"⟩ ∈ wt := wt_of 32 (by decide +kernel) (by decide +kernel)
theorem wm_33 : Cond.selects "IceTunes$Reader" ⟨"IceTunes$Reader", "readUnit", "(I)Z"⟩ ⟨"IceTunes$Reader", "readUnit", "(I)Z"⟩ ∈ wt := wt_of 33 (by decide +kernel) (by decide +kernel)
theorem wm_34 : Cond.selects "IceTunes$Reader" ⟨"IceTunes$Reader", "readSilence", "()Z"⟩ ⟨"IceTunes$Reader", "readSilence", "()Z"⟩ ∈ wt := wt_of 34 (by decide +kernel) (by decide +kernel)
theorem wm_35 : Cond.selects "IceTunes$Reader" ⟨"IceTunes$Reader", "readSkater", "()Z"⟩ ⟨"IceTunes$Reader", "readSkater", "()Z"⟩ ∈ wt := wt_of 35 (by decide +kernel) (by decide +kernel)
theorem wm_36 : Cond.selects "IceTunes$History" ⟨"IceTunes$History", "forget", "()V"⟩ ⟨"IceTunes$History", "forget", "()V"⟩ ∈ wt := wt_of 36 (by decide +kernel) (by decide +kernel)
theorem wm_37 : Cond.selects "IceTunes$Sights" ⟨"IceTunes$Sights", "clear", "()V"⟩ ⟨"IceTunes$Sights", "clear", "()V"⟩ ∈ wt := wt_of 37 (by decide +kernel) (by decide +kernel)
theorem wm_38 : Cond.selects "IceTunes$Evening" ⟨"IceTunes$Evening", "loadOf", "(ILIceTunes$Pond;)I"⟩ ⟨"IceTunes$Evening", "loadOf", "(ILIceTunes$Pond;)I"⟩ ∈ wt := wt_of 38 (by decide +kernel) (by decide +kernel)
theorem wm_39 : Cond.selects "IceTunes$Evening" ⟨"IceTunes$Evening", "isUp", "(I)Z"⟩ ⟨"IceTunes$Evening", "isUp", "(I)Z"⟩ ∈ wt := wt_of 39 (by decide +kernel) (by decide +kernel)
theorem wm_40 : Cond.selects "IceTunes$Pond" ⟨"IceTunes$Pond", "hasSkater", "(I)Z"⟩ ⟨"IceTunes$Pond", "hasSkater", "(I)Z"⟩ ∈ wt := wt_of 40 (by decide +kernel) (by decide +kernel)
theorem wm_41 : Cond.selects "IceTunes$Pond" ⟨"IceTunes$Pond", "hasTune", "(I)Z"⟩ ⟨"IceTunes$Pond", "hasTune", "(I)Z"⟩ ∈ wt := wt_of 41 (by decide +kernel) (by decide +kernel)
theorem wm_42 : Cond.selects "IceTunes$History" ⟨"IceTunes$History", "goOn", "()LIceTunes$Evening;"⟩ ⟨"IceTunes$History", "goOn", "()LIceTunes$Evening;"⟩ ∈ wt := wt_of 42 (by decide +kernel) (by decide +kernel)
theorem wm_43 : Cond.selects "IceTunes$Evening" ⟨"IceTunes$Evening", "copy", "(LIceTunes$Evening;)V"⟩ ⟨"IceTunes$Evening", "copy", "(LIceTunes$Evening;)V"⟩ ∈ wt := wt_of 43 (by decide +kernel) (by decide +kernel)
theorem wm_44 : Cond.selects "IceTunes$Band" ⟨"IceTunes$Band", "playTune", "(LIceTunes$Evening;I)V"⟩ ⟨"IceTunes$Band", "playTune", "(LIceTunes$Evening;I)V"⟩ ∈ wt := wt_of 44 (by decide +kernel) (by decide +kernel)
theorem wm_45 : Cond.selects "IceTunes$Band" ⟨"IceTunes$Band", "playBar", "(LIceTunes$Evening;II)Z"⟩ ⟨"IceTunes$Band", "playBar", "(LIceTunes$Evening;II)Z"⟩ ∈ wt := wt_of 45 (by decide +kernel) (by decide +kernel)
theorem wm_46 : Cond.selects "IceTunes$Band" ⟨"IceTunes$Band", "stepAll", "(LIceTunes$Evening;)V"⟩ ⟨"IceTunes$Band", "stepAll", "(LIceTunes$Evening;)V"⟩ ∈ wt := wt_of 46 (by decide +kernel) (by decide +kernel)
theorem wm_47 : Cond.selects "IceTunes$Pond" ⟨"IceTunes$Pond", "stepOf", "(II)I"⟩ ⟨"IceTunes$Pond", "stepOf", "(II)I"⟩ ∈ wt := wt_of 47 (by decide +kernel) (by decide +kernel)
theorem wm_48 : Cond.selects "IceTunes$Pond" ⟨"IceTunes$Pond", "beside", "(II)I"⟩ ⟨"IceTunes$Pond", "beside", "(II)I"⟩ ∈ wt := wt_of 48 (by decide +kernel) (by decide +kernel)
theorem wm_49 : Cond.selects "IceTunes$Band" ⟨"IceTunes$Band", "freeze", "(LIceTunes$Evening;II)V"⟩ ⟨"IceTunes$Band", "freeze", "(LIceTunes$Evening;II)V"⟩ ∈ wt := wt_of 49 (by decide +kernel) (by decide +kernel)
theorem wm_50 : Cond.selects "IceTunes$Band" ⟨"IceTunes$Band", "iceAround", "(LIceTunes$Evening;II)I"⟩ ⟨"IceTunes$Band", "iceAround", "(LIceTunes$Evening;II)I"⟩ ∈ wt := wt_of 50 (by decide +kernel) (by decide +kernel)
theorem wm_51 : Cond.selects "IceTunes$Band" ⟨"IceTunes$Band", "workOut", "(II)I"⟩ ⟨"IceTunes$Band", "workOut", "(II)I"⟩ ∈ wt := wt_of 51 (by decide +kernel) (by decide +kernel)
theorem wm_52 : Cond.selects "IceTunes$Band" ⟨"IceTunes$Band", "look", "(I)I"⟩ ⟨"IceTunes$Band", "look", "(I)I"⟩ ∈ wt := wt_of 52 (by decide +kernel) (by decide +kernel)
theorem wm_53 : Cond.selects "IceTunes$Band" ⟨"IceTunes$Band", "breakCells", "(LIceTunes$Evening;II)Z"⟩ ⟨"IceTunes$Band", "breakCells", "(LIceTunes$Evening;II)Z"⟩ ∈ wt := wt_of 53 (by decide +kernel) (by decide +kernel)
theorem wm_54 : Cond.selects "IceTunes$Band" ⟨"IceTunes$Band", "isTooHeavy", "(LIceTunes$Evening;I)Z"⟩ ⟨"IceTunes$Band", "isTooHeavy", "(LIceTunes$Evening;I)Z"⟩ ∈ wt := wt_of 54 (by decide +kernel) (by decide +kernel)
theorem wm_55 : Cond.selects "IceTunes$Band" ⟨"IceTunes$Band", "sink", "(LIceTunes$Evening;III)V"⟩ ⟨"IceTunes$Band", "sink", "(LIceTunes$Evening;III)V"⟩ ∈ wt := wt_of 55 (by decide +kernel) (by decide +kernel)
theorem wm_56 : Cond.selects "IceTunes$Evening" ⟨"IceTunes$Evening", "countUp", "(LIceTunes$Pond;)I"⟩ ⟨"IceTunes$Evening", "countUp", "(LIceTunes$Pond;)I"⟩ ∈ wt := wt_of 56 (by decide +kernel) (by decide +kernel)
theorem wm_57 : Cond.selects "IceTunes$Band" ⟨"IceTunes$Band", "keepSilence", "(LIceTunes$Evening;I)V"⟩ ⟨"IceTunes$Band", "keepSilence", "(LIceTunes$Evening;I)V"⟩ ∈ wt := wt_of 57 (by decide +kernel) (by decide +kernel)
theorem wm_58 : Cond.selects "IceTunes$History" ⟨"IceTunes$History", "takeBack", "()Z"⟩ ⟨"IceTunes$History", "takeBack", "()Z"⟩ ∈ wt := wt_of 58 (by decide +kernel) (by decide +kernel)
theorem wm_59 : Cond.selects "IceTunes$History" ⟨"IceTunes$History", "doAgain", "()Z"⟩ ⟨"IceTunes$History", "doAgain", "()Z"⟩ ∈ wt := wt_of 59 (by decide +kernel) (by decide +kernel)
theorem wm_60 : Cond.selects "IceTunes$Pond" ⟨"IceTunes$Pond", "hasTunes", "(I)Z"⟩ ⟨"IceTunes$Pond", "hasTunes", "(I)Z"⟩ ∈ wt := wt_of 60 (by decide +kernel) (by decide +kernel)
theorem wm_61 : Cond.selects "IceTunes$Forecast" ⟨"IceTunes$Forecast", "fewestIn", "(LIceTunes$Evening;I)I"⟩ ⟨"IceTunes$Forecast", "fewestIn", "(LIceTunes$Evening;I)I"⟩ ∈ wt := wt_of 61 (by decide +kernel) (by decide +kernel)
theorem wm_62 : Cond.selects "IceTunes$Forecast" ⟨"IceTunes$Forecast", "arrange", "(II)V"⟩ ⟨"IceTunes$Forecast", "arrange", "(II)V"⟩ ∈ wt := wt_of 62 (by decide +kernel) (by decide +kernel)
theorem wm_63 : Cond.selects "IceTunes" ⟨"IceTunes", "layDown", "([II)V"⟩ ⟨"IceTunes", "layDown", "([II)V"⟩ ∈ wt := wt_of 63 (by decide +kernel) (by decide +kernel)
theorem wm_64 : Cond.selects "IceTunes$Duel" ⟨"IceTunes$Duel", "mostUp", "(LIceTunes$Evening;II)I"⟩ ⟨"IceTunes$Duel", "mostUp", "(LIceTunes$Evening;II)I"⟩ ∈ wt := wt_of 64 (by decide +kernel) (by decide +kernel)
theorem wm_65 : Cond.selects "IceTunes$Duel" ⟨"IceTunes$Duel", "chooseMost", "(III)I"⟩ ⟨"IceTunes$Duel", "chooseMost", "(III)I"⟩ ∈ wt := wt_of 65 (by decide +kernel) (by decide +kernel)
theorem wm_66 : Cond.selects "IceTunes$Duel" ⟨"IceTunes$Duel", "tryTune", "(IIII)I"⟩ ⟨"IceTunes$Duel", "tryTune", "(IIII)I"⟩ ∈ wt := wt_of 66 (by decide +kernel) (by decide +kernel)
theorem wm_67 : Cond.selects "IceTunes$Duel" ⟨"IceTunes$Duel", "chooseLeast", "(III)I"⟩ ⟨"IceTunes$Duel", "chooseLeast", "(III)I"⟩ ∈ wt := wt_of 67 (by decide +kernel) (by decide +kernel)
theorem wm_68 : Cond.selects "IceTunes$Forecast" ⟨"IceTunes$Forecast", "fewestPlanks", "(LIceTunes$Evening;I)I"⟩ ⟨"IceTunes$Forecast", "fewestPlanks", "(LIceTunes$Evening;I)I"⟩ ∈ wt := wt_of 68 (by decide +kernel) (by decide +kernel)
theorem wm_69 : Cond.selects "IceTunes$Forecast" ⟨"IceTunes$Forecast", "listCells", "(I)V"⟩ ⟨"IceTunes$Forecast", "listCells", "(I)V"⟩ ∈ wt := wt_of 69 (by decide +kernel) (by decide +kernel)
theorem wm_70 : Cond.selects "IceTunes$Forecast" ⟨"IceTunes$Forecast", "bestSilence", "(LIceTunes$Evening;I)I"⟩ ⟨"IceTunes$Forecast", "bestSilence", "(LIceTunes$Evening;I)I"⟩ ∈ wt := wt_of 70 (by decide +kernel) (by decide +kernel)
theorem wm_71 : Cond.selects "IceTunes$Forecast" ⟨"IceTunes$Forecast", "firstBreak", "(LIceTunes$Evening;II)I"⟩ ⟨"IceTunes$Forecast", "firstBreak", "(LIceTunes$Evening;II)I"⟩ ∈ wt := wt_of 71 (by decide +kernel) (by decide +kernel)
theorem wm_72 : Cond.selects "IceTunes$Evening" ⟨"IceTunes$Evening", "thicken", "(I)V"⟩ ⟨"IceTunes$Evening", "thicken", "(I)V"⟩ ∈ wt := wt_of 72 (by decide +kernel) (by decide +kernel)
theorem wm_73 : Cond.selects "IceTunes$Sights" ⟨"IceTunes$Sights", "tellIce", "(IIIII)I"⟩ ⟨"IceTunes$Sights", "tellIce", "(IIIII)I"⟩ ∈ wt := wt_of 73 (by decide +kernel) (by decide +kernel)
theorem wm_74 : Cond.selects "IceTunes$Sights" ⟨"IceTunes$Sights", "tell", "(IIII)I"⟩ ⟨"IceTunes$Sights", "tell", "(IIII)I"⟩ ∈ wt := wt_of 74 (by decide +kernel) (by decide +kernel)
theorem wm_75 : Cond.selects "IceTunes$Sights" ⟨"IceTunes$Sights", "tellSkater", "(IIZI)I"⟩ ⟨"IceTunes$Sights", "tellSkater", "(IIZI)I"⟩ ∈ wt := wt_of 75 (by decide +kernel) (by decide +kernel)
theorem wm_76 : Cond.selects "IceTunes$Sights" ⟨"IceTunes$Sights", "takeAway", "(II)Z"⟩ ⟨"IceTunes$Sights", "takeAway", "(II)Z"⟩ ∈ wt := wt_of 76 (by decide +kernel) (by decide +kernel)
theorem wm_77 : Cond.selects "IceTunes$Rows" ⟨"IceTunes$Rows", "count", "(II)I"⟩ ⟨"IceTunes$Rows", "count", "(II)I"⟩ ∈ wt := wt_of 77 (by decide +kernel) (by decide +kernel)
theorem wm_78 : Cond.selects "IceTunes$Sights" ⟨"IceTunes$Sights", "lastBar", "(I)I"⟩ ⟨"IceTunes$Sights", "lastBar", "(I)I"⟩ ∈ wt := wt_of 78 (by decide +kernel) (by decide +kernel)
theorem wm_79 : Cond.selects "IceTunes$Sights" ⟨"IceTunes$Sights", "isKnown", "(II)Z"⟩ ⟨"IceTunes$Sights", "isKnown", "(II)Z"⟩ ∈ wt := wt_of 79 (by decide +kernel) (by decide +kernel)
theorem wm_80 : Cond.selects "IceTunes$Rows" ⟨"IceTunes$Rows", "extend", "(I)V"⟩ ⟨"IceTunes$Rows", "extend", "(I)V"⟩ ∈ wt := wt_of 80 (by decide +kernel) (by decide +kernel)
theorem wm_81 : Cond.selects "IceTunes$Rows" ⟨"IceTunes$Rows", "takeRow", "()V"⟩ ⟨"IceTunes$Rows", "takeRow", "()V"⟩ ∈ wt := wt_of 81 (by decide +kernel) (by decide +kernel)
theorem wm_82 : Cond.selects "IceTunes$Rows" ⟨"IceTunes$Rows", "playsAsSeen", "(LIceTunes$Evening;I)Z"⟩ ⟨"IceTunes$Rows", "playsAsSeen", "(LIceTunes$Evening;I)Z"⟩ ∈ wt := wt_of 82 (by decide +kernel) (by decide +kernel)
theorem wm_83 : Cond.selects "IceTunes$Sights" ⟨"IceTunes$Sights", "areSo", "(LIceTunes$Evening;I)Z"⟩ ⟨"IceTunes$Sights", "areSo", "(LIceTunes$Evening;I)Z"⟩ ∈ wt := wt_of 83 (by decide +kernel) (by decide +kernel)
theorem wm_84 : Cond.selects "IceTunes$Sights" ⟨"IceTunes$Sights", "isSo", "(ILIceTunes$Evening;)Z"⟩ ⟨"IceTunes$Sights", "isSo", "(ILIceTunes$Evening;)Z"⟩ ∈ wt := wt_of 84 (by decide +kernel) (by decide +kernel)
theorem wm_85 : Cond.selects "IceTunesModel" ⟨"IceTunesModel", "clearBank", "()V"⟩ ⟨"IceTunesModel", "clearBank", "()V"⟩ ∈ wt := wt_of 85 (by decide +kernel) (by decide +kernel)
theorem wm_86 : Cond.selects "IceTunesModel" ⟨"IceTunesModel", "begin", "()V"⟩ ⟨"IceTunesModel", "begin", "()V"⟩ ∈ wt := wt_of 86 (by decide +kernel) (by decide +kernel)
theorem wm_87 : Cond.selects "IceTunesModel" ⟨"IceTunesModel", "layFirst", "()V"⟩ ⟨"IceTunesModel", "layFirst", "()V"⟩ ∈ wt := wt_of 87 (by decide +kernel) (by decide +kernel)
theorem wm_88 : Cond.selects "IceTunesModel" ⟨"IceTunesModel", "put", "(III)V"⟩ ⟨"IceTunesModel", "put", "(III)V"⟩ ∈ wt := wt_of 88 (by decide +kernel) (by decide +kernel)
theorem wm_89 : Cond.selects "IceTunesModel" ⟨"IceTunesModel", "goOn", "()V"⟩ ⟨"IceTunesModel", "goOn", "()V"⟩ ∈ wt := wt_of 89 (by decide +kernel) (by decide +kernel)
theorem wm_90 : Cond.selects "IceTunesModel" ⟨"IceTunesModel", "sign", "(I)I"⟩ ⟨"IceTunesModel", "sign", "(I)I"⟩ ∈ wt := wt_of 90 (by decide +kernel) (by decide +kernel)
theorem wm_91 : Cond.selects "IceTunesModel" ⟨"IceTunesModel", "isGood", "()Z"⟩ ⟨"IceTunesModel", "isGood", "()Z"⟩ ∈ wt := wt_of 91 (by decide +kernel) (by decide +kernel)
theorem wm_92 : Cond.selects "IceTunesModel" ⟨"IceTunesModel", "readLine", "()V"⟩ ⟨"IceTunesModel", "readLine", "()V"⟩ ∈ wt := wt_of 92 (by decide +kernel) (by decide +kernel)
theorem wm_93 : Cond.selects "IceTunesModel" ⟨"IceTunesModel", "isFull", "()Z"⟩ ⟨"IceTunesModel", "isFull", "()Z"⟩ ∈ wt := wt_of 93 (by decide +kernel) (by decide +kernel)
theorem wm_94 : Cond.selects "IceTunesModel" ⟨"IceTunesModel", "isWord", "(J)Z"⟩ ⟨"IceTunesModel", "isWord", "(J)Z"⟩ ∈ wt := wt_of 94 (by decide +kernel) (by decide +kernel)
theorem wm_95 : Cond.selects "IceTunesModel" ⟨"IceTunesModel", "misplaced", "()V"⟩ ⟨"IceTunesModel", "misplaced", "()V"⟩ ∈ wt := wt_of 95 (by decide +kernel) (by decide +kernel)
theorem wm_96 : Cond.selects "IceTunesModel" ⟨"IceTunesModel", "fails", "(II)V"⟩ ⟨"IceTunesModel", "fails", "(II)V"⟩ ∈ wt := wt_of 96 (by decide +kernel) (by decide +kernel)
theorem wm_97 : Cond.selects "IceTunesModel" ⟨"IceTunesModel", "numeral", "(II)I"⟩ ⟨"IceTunesModel", "numeral", "(II)I"⟩ ∈ wt := wt_of 97 (by decide +kernel) (by decide +kernel)
theorem wm_98 : Cond.selects "IceTunesModel" ⟨"IceTunesModel", "after", "(JII)I"⟩ ⟨"IceTunesModel", "after", "(JII)I"⟩ ∈ wt := wt_of 98 (by decide +kernel) (by decide +kernel)
theorem wm_99 : Cond.selects "IceTunesModel" ⟨"IceTunesModel", "must", "(Z)V"⟩ ⟨"IceTunesModel", "must", "(Z)V"⟩ ∈ wt := wt_of 99 (by decide +kernel) (by decide +kernel)
theorem wm_100 : Cond.selects "IceTunesModel" ⟨"IceTunesModel", "readCell", "()V"⟩ ⟨"IceTunesModel", "readCell", "()V"⟩ ∈ wt := wt_of 100 (by decide +kernel) (by decide +kernel)
theorem wm_101 : Cond.selects "IceTunesModel" ⟨"IceTunesModel", "readPlank", "()V"⟩ ⟨"IceTunesModel", "readPlank", "()V"⟩ ∈ wt := wt_of 101 (by decide +kernel) (by decide +kernel)
theorem wm_102 : Cond.selects "IceTunesModel" ⟨"IceTunesModel", "readTune", "()V"⟩ ⟨"IceTunesModel", "readTune", "()V"⟩ ∈ wt := wt_of 102 (by decide +kernel) (by decide +kernel)
theorem wm_103 : Cond.selects "IceTunesModel" ⟨"IceTunesModel", "here", "([JII)I"⟩ ⟨"IceTunesModel", "here", "([JII)I"⟩ ∈ wt := wt_of 103 (by decide +kernel) (by decide +kernel)
theorem wm_104 : Cond.selects "IceTunesModel" ⟨"IceTunesModel", "fresh", "(Z)J"⟩ ⟨"IceTunesModel", "fresh", "(Z)J"⟩ ∈ wt := wt_of 104 (by decide +kernel) (by decide +kernel)
theorem wm_105 : Cond.selects "IceTunesModel" ⟨"IceTunesModel", "readRule", "(I)V"⟩ ⟨"IceTunesModel", "readRule", "(I)V"⟩ ∈ wt := wt_of 105 (by decide +kernel) (by decide +kernel)
theorem wm_106 : Cond.selects "IceTunesModel" ⟨"IceTunesModel", "e", "()V"⟩ ⟨"IceTunesModel", "e", "()V"⟩ ∈ wt := wt_of 106 (by decide +kernel) (by decide +kernel)
theorem wm_107 : Cond.selects "IceTunesModel" ⟨"IceTunesModel", "pushE", "(II)V"⟩ ⟨"IceTunesModel", "pushE", "(II)V"⟩ ∈ wt := wt_of 107 (by decide +kernel) (by decide +kernel)
theorem wm_108 : Cond.selects "IceTunesModel" ⟨"IceTunesModel", "unit", "()Z"⟩ ⟨"IceTunesModel", "unit", "()Z"⟩ ∈ wt := wt_of 108 (by decide +kernel) (by decide +kernel)
theorem wm_109 : Cond.selects "IceTunesModel" ⟨"IceTunesModel", "isSignHere", "(I)Z"⟩ ⟨"IceTunesModel", "isSignHere", "(I)Z"⟩ ∈ wt := wt_of 109 (by decide +kernel) (by decide +kernel)
theorem wm_110 : Cond.selects "IceTunesModel" ⟨"IceTunesModel", "wordHere", "()I"⟩ ⟨"IceTunesModel", "wordHere", "()I"⟩ ∈ wt := wt_of 110 (by decide +kernel) (by decide +kernel)
theorem wm_111 : Cond.selects "IceTunesModel" ⟨"IceTunesModel", "emit", "(II)V"⟩ ⟨"IceTunesModel", "emit", "(II)V"⟩ ∈ wt := wt_of 111 (by decide +kernel) (by decide +kernel)
theorem wm_112 : Cond.selects "IceTunesModel" ⟨"IceTunesModel", "behindUnit", "()Z"⟩ ⟨"IceTunesModel", "behindUnit", "()Z"⟩ ∈ wt := wt_of 112 (by decide +kernel) (by decide +kernel)
theorem wm_113 : Cond.selects "IceTunesModel" ⟨"IceTunesModel", "rankHere", "()I"⟩ ⟨"IceTunesModel", "rankHere", "()I"⟩ ∈ wt := wt_of 113 (by decide +kernel) (by decide +kernel)
theorem wm_114 : Cond.selects "IceTunesModel" ⟨"IceTunesModel", "isCompared", "()Z"⟩ ⟨"IceTunesModel", "isCompared", "()Z"⟩ ∈ wt := wt_of 114 (by decide +kernel) (by decide +kernel)
theorem wm_115 : Cond.selects "IceTunesModel" ⟨"IceTunesModel", "readSkater", "()V"⟩ ⟨"IceTunesModel", "readSkater", "()V"⟩ ∈ wt := wt_of 115 (by decide +kernel) (by decide +kernel)
theorem wm_116 : Cond.selects "IceTunesModel" ⟨"IceTunesModel", "stepHere", "()I"⟩ ⟨"IceTunesModel", "stepHere", "()I"⟩ ∈ wt := wt_of 116 (by decide +kernel) (by decide +kernel)
theorem wm_117 : Cond.selects "IceTunesModel" ⟨"IceTunesModel", "isCell", "(II)Z"⟩ ⟨"IceTunesModel", "isCell", "(II)Z"⟩ ∈ wt := wt_of 117 (by decide +kernel) (by decide +kernel)
theorem wm_118 : Cond.selects "IceTunesModel" ⟨"IceTunesModel", "layLoads", "()V"⟩ ⟨"IceTunesModel", "layLoads", "()V"⟩ ∈ wt := wt_of 118 (by decide +kernel) (by decide +kernel)
theorem wm_119 : Cond.selects "IceTunesModel" ⟨"IceTunesModel", "of", "(II)I"⟩ ⟨"IceTunesModel", "of", "(II)I"⟩ ∈ wt := wt_of 119 (by decide +kernel) (by decide +kernel)
theorem wm_120 : Cond.selects "IceTunesModel" ⟨"IceTunesModel", "isSkater", "(I)Z"⟩ ⟨"IceTunesModel", "isSkater", "(I)Z"⟩ ∈ wt := wt_of 120 (by decide +kernel) (by decide +kernel)
theorem wm_121 : Cond.selects "IceTunesModel" ⟨"IceTunesModel", "isTune", "(I)Z"⟩ ⟨"IceTunesModel", "isTune", "(I)Z"⟩ ∈ wt := wt_of 121 (by decide +kernel) (by decide +kernel)
theorem wm_122 : Cond.selects "IceTunesModel" ⟨"IceTunesModel", "keepAct", "()V"⟩ ⟨"IceTunesModel", "keepAct", "()V"⟩ ∈ wt := wt_of 122 (by decide +kernel) (by decide +kernel)
theorem wm_123 : Cond.selects "IceTunesModel" ⟨"IceTunesModel", "tune", "(I)V"⟩ ⟨"IceTunesModel", "tune", "(I)V"⟩ ∈ wt := wt_of 123 (by decide +kernel) (by decide +kernel)
theorem wm_124 : Cond.selects "IceTunesModel" ⟨"IceTunesModel", "bar", "(II)V"⟩ ⟨"IceTunesModel", "bar", "(II)V"⟩ ∈ wt := wt_of 124 (by decide +kernel) (by decide +kernel)
theorem wm_125 : Cond.selects "IceTunesModel" ⟨"IceTunesModel", "goes", "(I)V"⟩ ⟨"IceTunesModel", "goes", "(I)V"⟩ ∈ wt := wt_of 125 (by decide +kernel) (by decide +kernel)
theorem wm_126 : Cond.selects "IceTunesModel" ⟨"IceTunesModel", "iceAt", "(II)I"⟩ ⟨"IceTunesModel", "iceAt", "(II)I"⟩ ∈ wt := wt_of 126 (by decide +kernel) (by decide +kernel)
theorem wm_127 : Cond.selects "IceTunesModel" ⟨"IceTunesModel", "comes", "(IIIII)I"⟩ ⟨"IceTunesModel", "comes", "(IIIII)I"⟩ ∈ wt := wt_of 127 (by decide +kernel) (by decide +kernel)
theorem wm_128 : Cond.selects "IceTunesModel" ⟨"IceTunesModel", "breaksAt", "(III)V"⟩ ⟨"IceTunesModel", "breaksAt", "(III)V"⟩ ∈ wt := wt_of 128 (by decide +kernel) (by decide +kernel)
theorem wm_129 : Cond.selects "IceTunesModel" ⟨"IceTunesModel", "upMany", "()I"⟩ ⟨"IceTunesModel", "upMany", "()I"⟩ ∈ wt := wt_of 129 (by decide +kernel) (by decide +kernel)
theorem wm_130 : Cond.selects "IceTunesModel" ⟨"IceTunesModel", "silence", "(I)V"⟩ ⟨"IceTunesModel", "silence", "(I)V"⟩ ∈ wt := wt_of 130 (by decide +kernel) (by decide +kernel)
theorem wm_131 : Cond.selects "IceTunesModel" ⟨"IceTunesModel", "exchange", "()V"⟩ ⟨"IceTunesModel", "exchange", "()V"⟩ ∈ wt := wt_of 131 (by decide +kernel) (by decide +kernel)
theorem wm_132 : Cond.selects "IceTunesModel" ⟨"IceTunesModel", "isSet", "(I)Z"⟩ ⟨"IceTunesModel", "isSet", "(I)Z"⟩ ∈ wt := wt_of 132 (by decide +kernel) (by decide +kernel)
theorem wm_133 : Cond.selects "IceTunesModel" ⟨"IceTunesModel", "layTunes", "(I)I"⟩ ⟨"IceTunesModel", "layTunes", "(I)I"⟩ ∈ wt := wt_of 133 (by decide +kernel) (by decide +kernel)
theorem wm_134 : Cond.selects "IceTunesModel" ⟨"IceTunesModel", "keep", "(I)V"⟩ ⟨"IceTunesModel", "keep", "(I)V"⟩ ∈ wt := wt_of 134 (by decide +kernel) (by decide +kernel)
theorem wm_135 : Cond.selects "IceTunesModel" ⟨"IceTunesModel", "inMany", "()I"⟩ ⟨"IceTunesModel", "inMany", "()I"⟩ ∈ wt := wt_of 135 (by decide +kernel) (by decide +kernel)
theorem wm_136 : Cond.selects "IceTunesModel" ⟨"IceTunesModel", "bring", "(I)V"⟩ ⟨"IceTunesModel", "bring", "(I)V"⟩ ∈ wt := wt_of 136 (by decide +kernel) (by decide +kernel)
theorem wm_137 : Cond.selects "IceTunesModel" ⟨"IceTunesModel", "nextOrder", "(I)Z"⟩ ⟨"IceTunesModel", "nextOrder", "(I)Z"⟩ ∈ wt := wt_of 137 (by decide +kernel) (by decide +kernel)
theorem wm_138 : Cond.selects "IceTunesModel" ⟨"IceTunesModel", "swap", "(II)V"⟩ ⟨"IceTunesModel", "swap", "(II)V"⟩ ∈ wt := wt_of 138 (by decide +kernel) (by decide +kernel)
theorem wm_139 : Cond.selects "IceTunesModel" ⟨"IceTunesModel", "lay", "([II)V"⟩ ⟨"IceTunesModel", "lay", "([II)V"⟩ ∈ wt := wt_of 139 (by decide +kernel) (by decide +kernel)
theorem wm_140 : Cond.selects "IceTunesModel" ⟨"IceTunesModel", "duels", "(II)I"⟩ ⟨"IceTunesModel", "duels", "(II)I"⟩ ∈ wt := wt_of 140 (by decide +kernel) (by decide +kernel)
theorem wm_141 : Cond.selects "IceTunesModel" ⟨"IceTunesModel", "takes", "(II)V"⟩ ⟨"IceTunesModel", "takes", "(II)V"⟩ ∈ wt := wt_of 141 (by decide +kernel) (by decide +kernel)
theorem wm_142 : Cond.selects "IceTunesModel" ⟨"IceTunesModel", "isDry", "(I)Z"⟩ ⟨"IceTunesModel", "isDry", "(I)Z"⟩ ∈ wt := wt_of 142 (by decide +kernel) (by decide +kernel)
theorem wm_143 : Cond.selects "IceTunesModel" ⟨"IceTunesModel", "isDryBy", "(III)Z"⟩ ⟨"IceTunesModel", "isDryBy", "(III)Z"⟩ ∈ wt := wt_of 143 (by decide +kernel) (by decide +kernel)
theorem wm_144 : Cond.selects "IceTunesModel" ⟨"IceTunesModel", "addSight", "(IIII)I"⟩ ⟨"IceTunesModel", "addSight", "(IIII)I"⟩ ∈ wt := wt_of 144 (by decide +kernel) (by decide +kernel)
theorem wm_145 : Cond.selects "IceTunesModel" ⟨"IceTunesModel", "layAsked", "(II)V"⟩ ⟨"IceTunesModel", "layAsked", "(II)V"⟩ ∈ wt := wt_of 145 (by decide +kernel) (by decide +kernel)
theorem wm_146 : Cond.selects "IceTunesModel" ⟨"IceTunesModel", "areSoBy", "(II)Z"⟩ ⟨"IceTunesModel", "areSoBy", "(II)Z"⟩ ∈ wt := wt_of 146 (by decide +kernel) (by decide +kernel)
theorem wm_147 : Cond.selects "IceTunesModel" ⟨"IceTunesModel", "areSoNow", "(I)Z"⟩ ⟨"IceTunesModel", "areSoNow", "(I)Z"⟩ ∈ wt := wt_of 147 (by decide +kernel) (by decide +kernel)
theorem wm_148 : Cond.selects "IceTunesModel" ⟨"IceTunesModel", "counts", "(II)Z"⟩ ⟨"IceTunesModel", "counts", "(II)Z"⟩ ∈ wt := wt_of 148 (by decide +kernel) (by decide +kernel)
theorem wm_149 : Cond.initialized "IceTunesLaw" ∈ wt := wt_of 149 (by decide +kernel) (by decide +kernel)
theorem wm_150 : Cond.initialized "IceTunes" ∈ wt := wt_of 150 (by decide +kernel) (by decide +kernel)
theorem wm_151 : Cond.initialized "IceTunes$Pond" ∈ wt := wt_of 151 (by decide +kernel) (by decide +kernel)
theorem wm_152 : Cond.initialized "IceTunes$Reader" ∈ wt := wt_of 152 (by decide +kernel) (by decide +kernel)
theorem wm_153 : Cond.initialized "IceTunes$Tokens" ∈ wt := wt_of 153 (by decide +kernel) (by decide +kernel)
theorem wm_154 : Cond.initialized "IceTunes$Band" ∈ wt := wt_of 154 (by decide +kernel) (by decide +kernel)
theorem wm_155 : Cond.initialized "IceTunes$History" ∈ wt := wt_of 155 (by decide +kernel) (by decide +kernel)
theorem wm_156 : Cond.initialized "IceTunes$Evening" ∈ wt := wt_of 156 (by decide +kernel) (by decide +kernel)
theorem wm_157 : Cond.initialized "IceTunes$Sights" ∈ wt := wt_of 157 (by decide +kernel) (by decide +kernel)
theorem wm_158 : Cond.initialized "IceTunes$Forecast" ∈ wt := wt_of 158 (by decide +kernel) (by decide +kernel)
theorem wm_159 : Cond.initialized "IceTunes$Duel" ∈ wt := wt_of 159 (by decide +kernel) (by decide +kernel)
theorem wm_160 : Cond.initialized "IceTunes$Rows" ∈ wt := wt_of 160 (by decide +kernel) (by decide +kernel)
theorem wm_161 : Cond.initialized "IceTunesModel" ∈ wt := wt_of 161 (by decide +kernel) (by decide +kernel)
theorem wm_162 : Cond.initialized "java/lang/Math" ∈ wt := wt_of 162 (by decide +kernel) (by decide +kernel)
theorem wm_163 : Cond.initialized "java/lang/String" ∈ wt := wt_of 163 (by decide +kernel) (by decide +kernel)
theorem wm_164 : Cond.initialized "java/lang/StringLatin1" ∈ wt := wt_of 164 (by decide +kernel) (by decide +kernel)
theorem wm_165 : Cond.initialized "jdk/internal/util/Preconditions" ∈ wt := wt_of 165 (by decide +kernel) (by decide +kernel)
theorem wm_166 : Cond.initialized "java/lang/StringUTF16" ∈ wt := wt_of 166 (by decide +kernel) (by decide +kernel)
theorem wm_167 : Cond.initialized "java/lang/Character" ∈ wt := wt_of 167 (by decide +kernel) (by decide +kernel)
theorem wm_168 : Cond.initialized "java/lang/System" ∈ wt := wt_of 168 (by decide +kernel) (by decide +kernel)
theorem wm_169 : Cond.initialized "java/lang/Integer" ∈ wt := wt_of 169 (by decide +kernel) (by decide +kernel)
theorem wm_170 : Cond.classLink "IceTunesLaw" (7 : Nat) "IceTunes" ∈ wt := wt_of 170 (by decide +kernel) (by decide +kernel)
theorem wm_171 : Cond.instantiable "IceTunes" (16 : Nat) ∈ wt := wt_of 171 (by decide +kernel) (by decide +kernel)
theorem wm_172 : Cond.methodLink "IceTunesLaw" (9 : Nat) ({ cls := "IceTunes", name := "<init>", desc := "()V" } : Jvm.MethodName) ∈ wt := wt_of 172 (by decide +kernel) (by decide +kernel)
theorem wm_173 : Cond.instanceMethod ({ cls := "IceTunes", name := "<init>", desc := "()V" } : Jvm.MethodName) ∈ wt := wt_of 173 (by decide +kernel) (by decide +kernel)
theorem wm_174 : Cond.code ({ cls := "IceTunes", name := "<init>", desc := "()V" } : Jvm.MethodName) prog_1_method_1_code (3 : Nat) (Option.none : Option Jvm.ClassFile.FieldType) ∈ wt := wt_of 174 (by decide +kernel) (by decide +kernel)
theorem wm_175 : Cond.methodLink "IceTunes" (3 : Nat) ({ cls := "java/lang/Object", name := "<init>", desc := "()V" } : Jvm.MethodName) ∈ wt := wt_of 175 (by decide +kernel) (by decide +kernel)
theorem wm_176 : Cond.instanceMethod ({ cls := "java/lang/Object", name := "<init>", desc := "()V" } : Jvm.MethodName) ∈ wt := wt_of 176 (by decide +kernel) (by decide +kernel)
theorem wm_177 : Cond.code ({ cls := "java/lang/Object", name := "<init>", desc := "()V" } : Jvm.MethodName) object_method_1_code (1 : Nat) (Option.none : Option Jvm.ClassFile.FieldType) ∈ wt := wt_of 177 (by decide +kernel) (by decide +kernel)
theorem wm_178 : Cond.classLink "IceTunes" (13 : Nat) "IceTunes$Pond" ∈ wt := wt_of 178 (by decide +kernel) (by decide +kernel)
theorem wm_179 : Cond.instantiable "IceTunes$Pond" (19 : Nat) ∈ wt := wt_of 179 (by decide +kernel) (by decide +kernel)
theorem nm_180 : Cond.methodLinkNest "IceTunes" (15 : Nat) ({ cls := "IceTunes$Pond", name := "<init>", desc := "()V" } : Jvm.MethodName) "IceTunes" ∈ nw := nw_of 180 (by decide +kernel) rfl
theorem wm_181 : Cond.instanceMethod ({ cls := "IceTunes$Pond", name := "<init>", desc := "()V" } : Jvm.MethodName) ∈ wt := wt_of 181 (by decide +kernel) (by decide +kernel)
theorem wm_182 : Cond.code ({ cls := "IceTunes$Pond", name := "<init>", desc := "()V" } : Jvm.MethodName) prog_7_method_1_code (1 : Nat) (Option.none : Option Jvm.ClassFile.FieldType) ∈ wt := wt_of 182 (by decide +kernel) (by decide +kernel)
theorem wm_183 : Cond.methodLink "IceTunes$Pond" (3 : Nat) ({ cls := "java/lang/Object", name := "<init>", desc := "()V" } : Jvm.MethodName) ∈ wt := wt_of 183 (by decide +kernel) (by decide +kernel)
theorem wm_184 : Cond.methodLink "IceTunes$Pond" (44 : Nat) ({ cls := "IceTunes$Pond", name := "clear", desc := "()V" } : Jvm.MethodName) ∈ wt := wt_of 184 (by decide +kernel) (by decide +kernel)
theorem wm_186 : Cond.instanceMethod ({ cls := "IceTunes$Pond", name := "clear", desc := "()V" } : Jvm.MethodName) ∈ wt := wt_of 186 (by decide +kernel) (by decide +kernel)
theorem wm_187 : Cond.code ({ cls := "IceTunes$Pond", name := "clear", desc := "()V" } : Jvm.MethodName) prog_7_method_2_code (2 : Nat) (Option.none : Option Jvm.ClassFile.FieldType) ∈ wt := wt_of 187 (by decide +kernel) (by decide +kernel)
theorem wm_188 : Cond.fieldLink "IceTunes$Pond" (47 : Nat) "IceTunes$Pond" "across" "I" ∈ wt := wt_of 188 (by decide +kernel) (by decide +kernel)
theorem nm_189 : Cond.fieldLinkNest "IceTunes" (124 : Nat) "IceTunes$Pond" "across" "I" "IceTunes" ∈ nw := nw_of 189 (by decide +kernel) rfl
theorem nm_190 : Cond.fieldLinkNest "IceTunes$Reader" (92 : Nat) "IceTunes$Pond" "across" "I" "IceTunes" ∈ nw := nw_of 190 (by decide +kernel) rfl
theorem nm_191 : Cond.fieldLinkNest "IceTunes$Band" (82 : Nat) "IceTunes$Pond" "across" "I" "IceTunes" ∈ nw := nw_of 191 (by decide +kernel) rfl
theorem wm_192 : Cond.fieldLink "IceTunes$Pond" (51 : Nat) "IceTunes$Pond" "down" "I" ∈ wt := wt_of 192 (by decide +kernel) (by decide +kernel)
theorem nm_193 : Cond.fieldLinkNest "IceTunes" (127 : Nat) "IceTunes$Pond" "down" "I" "IceTunes" ∈ nw := nw_of 193 (by decide +kernel) rfl
theorem nm_194 : Cond.fieldLinkNest "IceTunes$Band" (79 : Nat) "IceTunes$Pond" "down" "I" "IceTunes" ∈ nw := nw_of 194 (by decide +kernel) rfl
theorem nm_195 : Cond.fieldLinkNest "IceTunes$Reader" (112 : Nat) "IceTunes$Pond" "down" "I" "IceTunes" ∈ nw := nw_of 195 (by decide +kernel) rfl
theorem wm_196 : Cond.fieldLink "IceTunes$Pond" (54 : Nat) "IceTunes$Pond" "allIce" "I" ∈ wt := wt_of 196 (by decide +kernel) (by decide +kernel)
theorem nm_197 : Cond.fieldLinkNest "IceTunes$Reader" (95 : Nat) "IceTunes$Pond" "allIce" "I" "IceTunes" ∈ nw := nw_of 197 (by decide +kernel) rfl
theorem wm_198 : Cond.fieldLink "IceTunes$Pond" (9 : Nat) "IceTunes$Pond" "cellIce" "[I" ∈ wt := wt_of 198 (by decide +kernel) (by decide +kernel)
theorem nm_199 : Cond.fieldLinkNest "IceTunes$Reader" (118 : Nat) "IceTunes$Pond" "cellIce" "[I" "IceTunes" ∈ nw := nw_of 199 (by decide +kernel) rfl
theorem wm_200 : Cond.fieldLink "IceTunes$Pond" (15 : Nat) "IceTunes$Pond" "planked" "[Z" ∈ wt := wt_of 200 (by decide +kernel) (by decide +kernel)
theorem nm_201 : Cond.fieldLinkNest "IceTunes$Reader" (124 : Nat) "IceTunes$Pond" "planked" "[Z" "IceTunes" ∈ nw := nw_of 201 (by decide +kernel) rfl
theorem nm_202 : Cond.fieldLinkNest "IceTunes$Band" (130 : Nat) "IceTunes$Pond" "planked" "[Z" "IceTunes" ∈ nw := nw_of 202 (by decide +kernel) rfl
theorem wm_203 : Cond.fieldLink "IceTunes$Pond" (57 : Nat) "IceTunes$Pond" "planks" "I" ∈ wt := wt_of 203 (by decide +kernel) (by decide +kernel)
theorem nm_204 : Cond.fieldLinkNest "IceTunes$Reader" (128 : Nat) "IceTunes$Pond" "planks" "I" "IceTunes" ∈ nw := nw_of 204 (by decide +kernel) rfl
theorem nm_205 : Cond.fieldLinkNest "IceTunes" (272 : Nat) "IceTunes$Pond" "planks" "I" "IceTunes" ∈ nw := nw_of 205 (by decide +kernel) rfl
theorem wm_206 : Cond.fieldLink "IceTunes$Pond" (60 : Nat) "IceTunes$Pond" "tunes" "I" ∈ wt := wt_of 206 (by decide +kernel) (by decide +kernel)
theorem nm_207 : Cond.fieldLinkNest "IceTunes$Rows" (73 : Nat) "IceTunes$Pond" "tunes" "I" "IceTunes" ∈ nw := nw_of 207 (by decide +kernel) rfl
theorem nm_208 : Cond.fieldLinkNest "IceTunes$Reader" (98 : Nat) "IceTunes$Pond" "tunes" "I" "IceTunes" ∈ nw := nw_of 208 (by decide +kernel) rfl
theorem nm_209 : Cond.fieldLinkNest "IceTunes" (266 : Nat) "IceTunes$Pond" "tunes" "I" "IceTunes" ∈ nw := nw_of 209 (by decide +kernel) rfl
theorem wm_210 : Cond.fieldLink "IceTunes$Pond" (19 : Nat) "IceTunes$Pond" "bars" "[I" ∈ wt := wt_of 210 (by decide +kernel) (by decide +kernel)
theorem nm_211 : Cond.fieldLinkNest "IceTunes$Band" (25 : Nat) "IceTunes$Pond" "bars" "[I" "IceTunes" ∈ nw := nw_of 211 (by decide +kernel) rfl
theorem nm_212 : Cond.fieldLinkNest "IceTunes$Rows" (84 : Nat) "IceTunes$Pond" "bars" "[I" "IceTunes" ∈ nw := nw_of 212 (by decide +kernel) rfl
theorem nm_213 : Cond.fieldLinkNest "IceTunes$Forecast" (59 : Nat) "IceTunes$Pond" "bars" "[I" "IceTunes" ∈ nw := nw_of 213 (by decide +kernel) rfl
theorem nm_214 : Cond.fieldLinkNest "IceTunes" (172 : Nat) "IceTunes$Pond" "bars" "[I" "IceTunes" ∈ nw := nw_of 214 (by decide +kernel) rfl
theorem nm_215 : Cond.fieldLinkNest "IceTunes$Reader" (146 : Nat) "IceTunes$Pond" "bars" "[I" "IceTunes" ∈ nw := nw_of 215 (by decide +kernel) rfl
theorem wm_216 : Cond.fieldLink "IceTunes$Pond" (63 : Nat) "IceTunes$Pond" "hasSilence" "Z" ∈ wt := wt_of 216 (by decide +kernel) (by decide +kernel)
theorem nm_217 : Cond.fieldLinkNest "IceTunes$Reader" (101 : Nat) "IceTunes$Pond" "hasSilence" "Z" "IceTunes" ∈ nw := nw_of 217 (by decide +kernel) rfl
theorem nm_218 : Cond.fieldLinkNest "IceTunes$Evening" (40 : Nat) "IceTunes$Pond" "skaters" "I" "IceTunes" ∈ nw := nw_of 218 (by decide +kernel) rfl
theorem wm_219 : Cond.fieldLink "IceTunes$Pond" (67 : Nat) "IceTunes$Pond" "skaters" "I" ∈ wt := wt_of 219 (by decide +kernel) (by decide +kernel)
theorem nm_220 : Cond.fieldLinkNest "IceTunes$Band" (50 : Nat) "IceTunes$Pond" "skaters" "I" "IceTunes" ∈ nw := nw_of 220 (by decide +kernel) rfl
theorem nm_221 : Cond.fieldLinkNest "IceTunes$Reader" (105 : Nat) "IceTunes$Pond" "skaters" "I" "IceTunes" ∈ nw := nw_of 221 (by decide +kernel) rfl
theorem nm_222 : Cond.fieldLinkNest "IceTunes" (269 : Nat) "IceTunes$Pond" "skaters" "I" "IceTunes" ∈ nw := nw_of 222 (by decide +kernel) rfl
theorem wm_223 : Cond.fieldLink "IceTunes$Pond" (22 : Nat) "IceTunes$Pond" "weight" "[I" ∈ wt := wt_of 223 (by decide +kernel) (by decide +kernel)
theorem nm_224 : Cond.fieldLinkNest "IceTunes$Band" (67 : Nat) "IceTunes$Pond" "weight" "[I" "IceTunes" ∈ nw := nw_of 224 (by decide +kernel) rfl
theorem nm_225 : Cond.fieldLinkNest "IceTunes$Evening" (56 : Nat) "IceTunes$Pond" "weight" "[I" "IceTunes" ∈ nw := nw_of 225 (by decide +kernel) rfl
theorem nm_226 : Cond.fieldLinkNest "IceTunes$Reader" (164 : Nat) "IceTunes$Pond" "weight" "[I" "IceTunes" ∈ nw := nw_of 226 (by decide +kernel) rfl
theorem wm_227 : Cond.fieldLink "IceTunes$Pond" (25 : Nat) "IceTunes$Pond" "home" "[I" ∈ wt := wt_of 227 (by decide +kernel) (by decide +kernel)
theorem nm_228 : Cond.fieldLinkNest "IceTunes$Evening" (43 : Nat) "IceTunes$Pond" "home" "[I" "IceTunes" ∈ nw := nw_of 228 (by decide +kernel) rfl
theorem nm_229 : Cond.fieldLinkNest "IceTunes$Reader" (167 : Nat) "IceTunes$Pond" "home" "[I" "IceTunes" ∈ nw := nw_of 229 (by decide +kernel) rfl
theorem wm_230 : Cond.fieldLink "IceTunes$Pond" (28 : Nat) "IceTunes$Pond" "steps" "[B" ∈ wt := wt_of 230 (by decide +kernel) (by decide +kernel)
theorem nm_231 : Cond.fieldLinkNest "IceTunes$Reader" (170 : Nat) "IceTunes$Pond" "steps" "[B" "IceTunes" ∈ nw := nw_of 231 (by decide +kernel) rfl
theorem wm_232 : Cond.fieldLink "IceTunes$Pond" (32 : Nat) "IceTunes$Pond" "stepCount" "[I" ∈ wt := wt_of 232 (by decide +kernel) (by decide +kernel)
theorem nm_233 : Cond.fieldLinkNest "IceTunes$Reader" (174 : Nat) "IceTunes$Pond" "stepCount" "[I" "IceTunes" ∈ nw := nw_of 233 (by decide +kernel) rfl
theorem wm_234 : Cond.fieldLink "IceTunes$Pond" (70 : Nat) "IceTunes$Pond" "units" "I" ∈ wt := wt_of 234 (by decide +kernel) (by decide +kernel)
theorem nm_235 : Cond.fieldLinkNest "IceTunes$Reader" (202 : Nat) "IceTunes$Pond" "units" "I" "IceTunes" ∈ nw := nw_of 235 (by decide +kernel) rfl
theorem nm_236 : Cond.fieldLinkNest "IceTunes" (283 : Nat) "IceTunes$Pond" "units" "I" "IceTunes" ∈ nw := nw_of 236 (by decide +kernel) rfl
theorem wm_237 : Cond.fieldLink "IceTunes$Pond" (35 : Nat) "IceTunes$Pond" "code" "[I" ∈ wt := wt_of 237 (by decide +kernel) (by decide +kernel)
theorem nm_238 : Cond.fieldLinkNest "IceTunes$Band" (117 : Nat) "IceTunes$Pond" "code" "[I" "IceTunes" ∈ nw := nw_of 238 (by decide +kernel) rfl
theorem nm_239 : Cond.fieldLinkNest "IceTunes$Reader" (177 : Nat) "IceTunes$Pond" "code" "[I" "IceTunes" ∈ nw := nw_of 239 (by decide +kernel) rfl
theorem wm_240 : Cond.fieldLink "IceTunes$Pond" (73 : Nat) "IceTunes$Pond" "codes" "I" ∈ wt := wt_of 240 (by decide +kernel) (by decide +kernel)
theorem nm_241 : Cond.fieldLinkNest "IceTunes$Reader" (152 : Nat) "IceTunes$Pond" "codes" "I" "IceTunes" ∈ nw := nw_of 241 (by decide +kernel) rfl
theorem wm_242 : Cond.fieldLink "IceTunes$Pond" (38 : Nat) "IceTunes$Pond" "codeFrom" "[I" ∈ wt := wt_of 242 (by decide +kernel) (by decide +kernel)
theorem nm_243 : Cond.fieldLinkNest "IceTunes$Band" (70 : Nat) "IceTunes$Pond" "codeFrom" "[I" "IceTunes" ∈ nw := nw_of 243 (by decide +kernel) rfl
theorem nm_244 : Cond.fieldLinkNest "IceTunes$Reader" (149 : Nat) "IceTunes$Pond" "codeFrom" "[I" "IceTunes" ∈ nw := nw_of 244 (by decide +kernel) rfl
theorem wm_245 : Cond.fieldLink "IceTunes$Pond" (41 : Nat) "IceTunes$Pond" "codeTo" "[I" ∈ wt := wt_of 245 (by decide +kernel) (by decide +kernel)
theorem nm_246 : Cond.fieldLinkNest "IceTunes$Band" (73 : Nat) "IceTunes$Pond" "codeTo" "[I" "IceTunes" ∈ nw := nw_of 246 (by decide +kernel) rfl
theorem nm_247 : Cond.fieldLinkNest "IceTunes$Reader" (161 : Nat) "IceTunes$Pond" "codeTo" "[I" "IceTunes" ∈ nw := nw_of 247 (by decide +kernel) rfl
theorem wm_287 : Cond.arrayClass Jvm.ClassFile.FieldType.byte ∈ wt := wt_of 287 (by decide +kernel) (by decide +kernel)
theorem wm_288 : Cond.arrayClass Jvm.ClassFile.FieldType.int ∈ wt := wt_of 288 (by decide +kernel) (by decide +kernel)
theorem wm_289 : Cond.arrayClass Jvm.ClassFile.FieldType.boolean ∈ wt := wt_of 289 (by decide +kernel) (by decide +kernel)
theorem wm_290 : Cond.classLink "IceTunes" (23 : Nat) "IceTunes$Reader" ∈ wt := wt_of 290 (by decide +kernel) (by decide +kernel)
theorem wm_291 : Cond.instantiable "IceTunes$Reader" (9 : Nat) ∈ wt := wt_of 291 (by decide +kernel) (by decide +kernel)
theorem nm_292 : Cond.methodLinkNest "IceTunes" (25 : Nat) ({ cls := "IceTunes$Reader", name := "<init>", desc := "()V" } : Jvm.MethodName) "IceTunes" ∈ nw := nw_of 292 (by decide +kernel) rfl
theorem wm_293 : Cond.instanceMethod ({ cls := "IceTunes$Reader", name := "<init>", desc := "()V" } : Jvm.MethodName) ∈ wt := wt_of 293 (by decide +kernel) (by decide +kernel)
theorem wm_294 : Cond.code ({ cls := "IceTunes$Reader", name := "<init>", desc := "()V" } : Jvm.MethodName) prog_8_method_1_code (1 : Nat) (Option.none : Option Jvm.ClassFile.FieldType) ∈ wt := wt_of 294 (by decide +kernel) (by decide +kernel)
theorem wm_295 : Cond.methodLink "IceTunes$Reader" (3 : Nat) ({ cls := "java/lang/Object", name := "<init>", desc := "()V" } : Jvm.MethodName) ∈ wt := wt_of 295 (by decide +kernel) (by decide +kernel)
theorem wm_296 : Cond.classLink "IceTunes$Reader" (9 : Nat) "IceTunes$Tokens" ∈ wt := wt_of 296 (by decide +kernel) (by decide +kernel)
theorem wm_297 : Cond.instantiable "IceTunes$Tokens" (6 : Nat) ∈ wt := wt_of 297 (by decide +kernel) (by decide +kernel)
theorem nm_298 : Cond.methodLinkNest "IceTunes$Reader" (11 : Nat) ({ cls := "IceTunes$Tokens", name := "<init>", desc := "()V" } : Jvm.MethodName) "IceTunes" ∈ nw := nw_of 298 (by decide +kernel) rfl
theorem wm_299 : Cond.instanceMethod ({ cls := "IceTunes$Tokens", name := "<init>", desc := "()V" } : Jvm.MethodName) ∈ wt := wt_of 299 (by decide +kernel) (by decide +kernel)
theorem wm_300 : Cond.code ({ cls := "IceTunes$Tokens", name := "<init>", desc := "()V" } : Jvm.MethodName) prog_11_method_1_code (1 : Nat) (Option.none : Option Jvm.ClassFile.FieldType) ∈ wt := wt_of 300 (by decide +kernel) (by decide +kernel)
theorem wm_301 : Cond.methodLink "IceTunes$Tokens" (1 : Nat) ({ cls := "java/lang/Object", name := "<init>", desc := "()V" } : Jvm.MethodName) ∈ wt := wt_of 301 (by decide +kernel) (by decide +kernel)
theorem wm_302 : Cond.fieldLink "IceTunes$Tokens" (7 : Nat) "IceTunes$Tokens" "text" "[B" ∈ wt := wt_of 302 (by decide +kernel) (by decide +kernel)
theorem wm_303 : Cond.fieldLink "IceTunes$Tokens" (19 : Nat) "IceTunes$Tokens" "length" "I" ∈ wt := wt_of 303 (by decide +kernel) (by decide +kernel)
theorem nm_304 : Cond.fieldLinkNest "IceTunes$Reader" (45 : Nat) "IceTunes$Tokens" "kind" "I" "IceTunes" ∈ nw := nw_of 304 (by decide +kernel) rfl
theorem wm_305 : Cond.fieldLink "IceTunes$Tokens" (32 : Nat) "IceTunes$Tokens" "kind" "I" ∈ wt := wt_of 305 (by decide +kernel) (by decide +kernel)
theorem nm_306 : Cond.fieldLinkNest "IceTunes$Reader" (83 : Nat) "IceTunes$Tokens" "start" "I" "IceTunes" ∈ nw := nw_of 306 (by decide +kernel) rfl
theorem wm_307 : Cond.fieldLink "IceTunes$Tokens" (29 : Nat) "IceTunes$Tokens" "start" "I" ∈ wt := wt_of 307 (by decide +kernel) (by decide +kernel)
theorem wm_308 : Cond.fieldLink "IceTunes$Tokens" (23 : Nat) "IceTunes$Tokens" "stop" "I" ∈ wt := wt_of 308 (by decide +kernel) (by decide +kernel)
theorem nm_309 : Cond.fieldLinkNest "IceTunes$Reader" (140 : Nat) "IceTunes$Tokens" "stop" "I" "IceTunes" ∈ nw := nw_of 309 (by decide +kernel) rfl
theorem nm_310 : Cond.fieldLinkNest "IceTunes$Reader" (86 : Nat) "IceTunes$Tokens" "value" "I" "IceTunes" ∈ nw := nw_of 310 (by decide +kernel) rfl
theorem wm_311 : Cond.fieldLink "IceTunes$Tokens" (68 : Nat) "IceTunes$Tokens" "value" "I" ∈ wt := wt_of 311 (by decide +kernel) (by decide +kernel)
theorem wm_325 : Cond.fieldLink "IceTunes$Reader" (12 : Nat) "IceTunes$Reader" "tokens" "LIceTunes$Tokens;" ∈ wt := wt_of 325 (by decide +kernel) (by decide +kernel)
theorem wm_326 : Cond.fieldLink "IceTunes$Reader" (32 : Nat) "IceTunes$Reader" "pond" "LIceTunes$Pond;" ∈ wt := wt_of 326 (by decide +kernel) (by decide +kernel)
theorem wm_327 : Cond.fieldLink "IceTunes$Reader" (29 : Nat) "IceTunes$Reader" "fault" "I" ∈ wt := wt_of 327 (by decide +kernel) (by decide +kernel)
theorem nm_328 : Cond.fieldLinkNest "IceTunes" (130 : Nat) "IceTunes$Reader" "fault" "I" "IceTunes" ∈ nw := nw_of 328 (by decide +kernel) rfl
theorem wm_329 : Cond.fieldLink "IceTunes$Reader" (18 : Nat) "IceTunes$Reader" "place" "I" ∈ wt := wt_of 329 (by decide +kernel) (by decide +kernel)
theorem nm_330 : Cond.fieldLinkNest "IceTunes" (133 : Nat) "IceTunes$Reader" "place" "I" "IceTunes" ∈ nw := nw_of 330 (by decide +kernel) rfl
theorem wm_331 : Cond.fieldLink "IceTunes$Reader" (89 : Nat) "IceTunes$Reader" "number" "I" ∈ wt := wt_of 331 (by decide +kernel) (by decide +kernel)
theorem wm_332 : Cond.fieldLink "IceTunes$Reader" (121 : Nat) "IceTunes$Reader" "cell" "I" ∈ wt := wt_of 332 (by decide +kernel) (by decide +kernel)
theorem wm_333 : Cond.fieldLink "IceTunes$Reader" (155 : Nat) "IceTunes$Reader" "formulaUnits" "I" ∈ wt := wt_of 333 (by decide +kernel) (by decide +kernel)
theorem wm_334 : Cond.fieldLink "IceTunes$Reader" (22 : Nat) "IceTunes$Reader" "nameFrom" "[I" ∈ wt := wt_of 334 (by decide +kernel) (by decide +kernel)
theorem wm_335 : Cond.fieldLink "IceTunes$Reader" (26 : Nat) "IceTunes$Reader" "nameLetters" "[I" ∈ wt := wt_of 335 (by decide +kernel) (by decide +kernel)
theorem wm_355 : Cond.classLink "IceTunes" (30 : Nat) "IceTunes$Band" ∈ wt := wt_of 355 (by decide +kernel) (by decide +kernel)
theorem wm_356 : Cond.instantiable "IceTunes$Band" (8 : Nat) ∈ wt := wt_of 356 (by decide +kernel) (by decide +kernel)
theorem nm_357 : Cond.methodLinkNest "IceTunes" (32 : Nat) ({ cls := "IceTunes$Band", name := "<init>", desc := "(LIceTunes$Pond;)V" } : Jvm.MethodName) "IceTunes" ∈ nw := nw_of 357 (by decide +kernel) rfl
theorem wm_358 : Cond.instanceMethod ({ cls := "IceTunes$Band", name := "<init>", desc := "(LIceTunes$Pond;)V" } : Jvm.MethodName) ∈ wt := wt_of 358 (by decide +kernel) (by decide +kernel)
theorem wm_359 : Cond.code ({ cls := "IceTunes$Band", name := "<init>", desc := "(LIceTunes$Pond;)V" } : Jvm.MethodName) prog_2_method_1_code (2 : Nat) (Option.none : Option Jvm.ClassFile.FieldType) ∈ wt := wt_of 359 (by decide +kernel) (by decide +kernel)
theorem wm_360 : Cond.methodLink "IceTunes$Band" (3 : Nat) ({ cls := "java/lang/Object", name := "<init>", desc := "()V" } : Jvm.MethodName) ∈ wt := wt_of 360 (by decide +kernel) (by decide +kernel)
theorem wm_361 : Cond.fieldLink "IceTunes$Band" (21 : Nat) "IceTunes$Band" "pond" "LIceTunes$Pond;" ∈ wt := wt_of 361 (by decide +kernel) (by decide +kernel)
theorem nm_362 : Cond.fieldLinkNest "IceTunes$Duel" (35 : Nat) "IceTunes$Band" "pond" "LIceTunes$Pond;" "IceTunes" ∈ nw := nw_of 362 (by decide +kernel) rfl
theorem nm_363 : Cond.fieldLinkNest "IceTunes$Rows" (51 : Nat) "IceTunes$Band" "pond" "LIceTunes$Pond;" "IceTunes" ∈ nw := nw_of 363 (by decide +kernel) rfl
theorem nm_364 : Cond.fieldLinkNest "IceTunes$Forecast" (55 : Nat) "IceTunes$Band" "pond" "LIceTunes$Pond;" "IceTunes" ∈ nw := nw_of 364 (by decide +kernel) rfl
theorem nm_365 : Cond.fieldLinkNest "IceTunes" (112 : Nat) "IceTunes$Band" "pond" "LIceTunes$Pond;" "IceTunes" ∈ nw := nw_of 365 (by decide +kernel) rfl
theorem wm_366 : Cond.fieldLink "IceTunes$Band" (9 : Nat) "IceTunes$Band" "loads" "[I" ∈ wt := wt_of 366 (by decide +kernel) (by decide +kernel)
theorem wm_367 : Cond.fieldLink "IceTunes$Band" (15 : Nat) "IceTunes$Band" "nextIce" "[I" ∈ wt := wt_of 367 (by decide +kernel) (by decide +kernel)
theorem wm_368 : Cond.fieldLink "IceTunes$Band" (18 : Nat) "IceTunes$Band" "stack" "[I" ∈ wt := wt_of 368 (by decide +kernel) (by decide +kernel)
theorem wm_369 : Cond.fieldLink "IceTunes$Band" (88 : Nat) "IceTunes$Band" "ice" "I" ∈ wt := wt_of 369 (by decide +kernel) (by decide +kernel)
theorem wm_370 : Cond.fieldLink "IceTunes$Band" (76 : Nat) "IceTunes$Band" "beat" "I" ∈ wt := wt_of 370 (by decide +kernel) (by decide +kernel)
theorem wm_371 : Cond.fieldLink "IceTunes$Band" (90 : Nat) "IceTunes$Band" "load" "I" ∈ wt := wt_of 371 (by decide +kernel) (by decide +kernel)
theorem wm_372 : Cond.fieldLink "IceTunes$Band" (97 : Nat) "IceTunes$Band" "around" "I" ∈ wt := wt_of 372 (by decide +kernel) (by decide +kernel)
theorem wm_390 : Cond.classLink "IceTunes" (39 : Nat) "IceTunes$History" ∈ wt := wt_of 390 (by decide +kernel) (by decide +kernel)
theorem wm_391 : Cond.instantiable "IceTunes$History" (4 : Nat) ∈ wt := wt_of 391 (by decide +kernel) (by decide +kernel)
theorem nm_392 : Cond.methodLinkNest "IceTunes" (41 : Nat) ({ cls := "IceTunes$History", name := "<init>", desc := "()V" } : Jvm.MethodName) "IceTunes" ∈ nw := nw_of 392 (by decide +kernel) rfl
theorem wm_393 : Cond.instanceMethod ({ cls := "IceTunes$History", name := "<init>", desc := "()V" } : Jvm.MethodName) ∈ wt := wt_of 393 (by decide +kernel) (by decide +kernel)
theorem wm_394 : Cond.code ({ cls := "IceTunes$History", name := "<init>", desc := "()V" } : Jvm.MethodName) prog_6_method_1_code (2 : Nat) (Option.none : Option Jvm.ClassFile.FieldType) ∈ wt := wt_of 394 (by decide +kernel) (by decide +kernel)
theorem wm_395 : Cond.methodLink "IceTunes$History" (3 : Nat) ({ cls := "java/lang/Object", name := "<init>", desc := "()V" } : Jvm.MethodName) ∈ wt := wt_of 395 (by decide +kernel) (by decide +kernel)
theorem wm_396 : Cond.classLink "IceTunes$History" (9 : Nat) "IceTunes$Evening" ∈ wt := wt_of 396 (by decide +kernel) (by decide +kernel)
theorem wm_398 : Cond.instantiable "IceTunes$Evening" (7 : Nat) ∈ wt := wt_of 398 (by decide +kernel) (by decide +kernel)
theorem nm_399 : Cond.methodLinkNest "IceTunes$History" (15 : Nat) ({ cls := "IceTunes$Evening", name := "<init>", desc := "()V" } : Jvm.MethodName) "IceTunes" ∈ nw := nw_of 399 (by decide +kernel) rfl
theorem wm_400 : Cond.instanceMethod ({ cls := "IceTunes$Evening", name := "<init>", desc := "()V" } : Jvm.MethodName) ∈ wt := wt_of 400 (by decide +kernel) (by decide +kernel)
theorem wm_401 : Cond.code ({ cls := "IceTunes$Evening", name := "<init>", desc := "()V" } : Jvm.MethodName) prog_4_method_1_code (1 : Nat) (Option.none : Option Jvm.ClassFile.FieldType) ∈ wt := wt_of 401 (by decide +kernel) (by decide +kernel)
theorem wm_402 : Cond.methodLink "IceTunes$Evening" (3 : Nat) ({ cls := "java/lang/Object", name := "<init>", desc := "()V" } : Jvm.MethodName) ∈ wt := wt_of 402 (by decide +kernel) (by decide +kernel)
theorem wm_403 : Cond.fieldLink "IceTunes$Evening" (27 : Nat) "IceTunes$Evening" "bars" "I" ∈ wt := wt_of 403 (by decide +kernel) (by decide +kernel)
theorem nm_404 : Cond.fieldLinkNest "IceTunes$Rows" (67 : Nat) "IceTunes$Evening" "bars" "I" "IceTunes" ∈ nw := nw_of 404 (by decide +kernel) rfl
theorem nm_405 : Cond.fieldLinkNest "IceTunes$Band" (45 : Nat) "IceTunes$Evening" "bars" "I" "IceTunes" ∈ nw := nw_of 405 (by decide +kernel) rfl
theorem nm_406 : Cond.fieldLinkNest "IceTunes$Forecast" (71 : Nat) "IceTunes$Evening" "bars" "I" "IceTunes" ∈ nw := nw_of 406 (by decide +kernel) rfl
theorem nm_407 : Cond.fieldLinkNest "IceTunes$Sights" (51 : Nat) "IceTunes$Evening" "bars" "I" "IceTunes" ∈ nw := nw_of 407 (by decide +kernel) rfl
theorem nm_408 : Cond.fieldLinkNest "IceTunes" (169 : Nat) "IceTunes$Evening" "bars" "I" "IceTunes" ∈ nw := nw_of 408 (by decide +kernel) rfl
theorem wm_409 : Cond.fieldLink "IceTunes$Evening" (31 : Nat) "IceTunes$Evening" "in" "I" ∈ wt := wt_of 409 (by decide +kernel) (by decide +kernel)
theorem nm_410 : Cond.fieldLinkNest "IceTunes$Forecast" (40 : Nat) "IceTunes$Evening" "in" "I" "IceTunes" ∈ nw := nw_of 410 (by decide +kernel) rfl
theorem nm_411 : Cond.fieldLinkNest "IceTunes$Band" (151 : Nat) "IceTunes$Evening" "in" "I" "IceTunes" ∈ nw := nw_of 411 (by decide +kernel) rfl
theorem wm_412 : Cond.fieldLink "IceTunes$Evening" (9 : Nat) "IceTunes$Evening" "ice" "[I" ∈ wt := wt_of 412 (by decide +kernel) (by decide +kernel)
theorem nm_413 : Cond.fieldLinkNest "IceTunes$Band" (85 : Nat) "IceTunes$Evening" "ice" "[I" "IceTunes" ∈ nw := nw_of 413 (by decide +kernel) rfl
theorem nm_414 : Cond.fieldLinkNest "IceTunes" (140 : Nat) "IceTunes$Evening" "ice" "[I" "IceTunes" ∈ nw := nw_of 414 (by decide +kernel) rfl
theorem nm_415 : Cond.fieldLinkNest "IceTunes$Sights" (64 : Nat) "IceTunes$Evening" "ice" "[I" "IceTunes" ∈ nw := nw_of 415 (by decide +kernel) rfl
theorem wm_416 : Cond.fieldLink "IceTunes$Evening" (15 : Nat) "IceTunes$Evening" "spot" "[I" ∈ wt := wt_of 416 (by decide +kernel) (by decide +kernel)
theorem nm_417 : Cond.fieldLinkNest "IceTunes$Band" (57 : Nat) "IceTunes$Evening" "spot" "[I" "IceTunes" ∈ nw := nw_of 417 (by decide +kernel) rfl
theorem nm_418 : Cond.fieldLinkNest "IceTunes" (151 : Nat) "IceTunes$Evening" "spot" "[I" "IceTunes" ∈ nw := nw_of 418 (by decide +kernel) rfl
theorem wm_419 : Cond.fieldLink "IceTunes$Evening" (18 : Nat) "IceTunes$Evening" "inBar" "[I" ∈ wt := wt_of 419 (by decide +kernel) (by decide +kernel)
theorem nm_420 : Cond.fieldLinkNest "IceTunes" (157 : Nat) "IceTunes$Evening" "inBar" "[I" "IceTunes" ∈ nw := nw_of 420 (by decide +kernel) rfl
theorem nm_421 : Cond.fieldLinkNest "IceTunes$Band" (142 : Nat) "IceTunes$Evening" "inBar" "[I" "IceTunes" ∈ nw := nw_of 421 (by decide +kernel) rfl
theorem wm_422 : Cond.fieldLink "IceTunes$Evening" (21 : Nat) "IceTunes$Evening" "inTune" "[I" ∈ wt := wt_of 422 (by decide +kernel) (by decide +kernel)
theorem nm_423 : Cond.fieldLinkNest "IceTunes" (160 : Nat) "IceTunes$Evening" "inTune" "[I" "IceTunes" ∈ nw := nw_of 423 (by decide +kernel) rfl
theorem nm_424 : Cond.fieldLinkNest "IceTunes$Band" (145 : Nat) "IceTunes$Evening" "inTune" "[I" "IceTunes" ∈ nw := nw_of 424 (by decide +kernel) rfl
theorem wm_425 : Cond.fieldLink "IceTunes$Evening" (24 : Nat) "IceTunes$Evening" "inBeat" "[I" ∈ wt := wt_of 425 (by decide +kernel) (by decide +kernel)
theorem nm_426 : Cond.fieldLinkNest "IceTunes" (163 : Nat) "IceTunes$Evening" "inBeat" "[I" "IceTunes" ∈ nw := nw_of 426 (by decide +kernel) rfl
theorem nm_427 : Cond.fieldLinkNest "IceTunes$Band" (148 : Nat) "IceTunes$Evening" "inBeat" "[I" "IceTunes" ∈ nw := nw_of 427 (by decide +kernel) rfl
theorem wm_443 : Cond.fieldLink "IceTunes$History" (11 : Nat) "IceTunes$History" "slots" "[LIceTunes$Evening;" ∈ wt := wt_of 443 (by decide +kernel) (by decide +kernel)
theorem wm_444 : Cond.fieldLink "IceTunes$History" (16 : Nat) "IceTunes$History" "first" "I" ∈ wt := wt_of 444 (by decide +kernel) (by decide +kernel)
theorem wm_445 : Cond.fieldLink "IceTunes$History" (20 : Nat) "IceTunes$History" "done" "I" ∈ wt := wt_of 445 (by decide +kernel) (by decide +kernel)
theorem nm_446 : Cond.fieldLinkNest "IceTunes" (275 : Nat) "IceTunes$History" "done" "I" "IceTunes" ∈ nw := nw_of 446 (by decide +kernel) rfl
theorem wm_447 : Cond.fieldLink "IceTunes$History" (27 : Nat) "IceTunes$History" "undone" "I" ∈ wt := wt_of 447 (by decide +kernel) (by decide +kernel)
theorem nm_448 : Cond.fieldLinkNest "IceTunes" (278 : Nat) "IceTunes$History" "undone" "I" "IceTunes" ∈ nw := nw_of 448 (by decide +kernel) rfl
theorem wm_458 : Cond.classLink "IceTunes" (46 : Nat) "IceTunes$Evening" ∈ wt := wt_of 458 (by decide +kernel) (by decide +kernel)
theorem wm_459 : Cond.classLink "IceTunes" (56 : Nat) "IceTunes$Sights" ∈ wt := wt_of 459 (by decide +kernel) (by decide +kernel)
theorem wm_460 : Cond.instantiable "IceTunes$Sights" (8 : Nat) ∈ wt := wt_of 460 (by decide +kernel) (by decide +kernel)
theorem nm_461 : Cond.methodLinkNest "IceTunes" (58 : Nat) ({ cls := "IceTunes$Sights", name := "<init>", desc := "()V" } : Jvm.MethodName) "IceTunes" ∈ nw := nw_of 461 (by decide +kernel) rfl
theorem wm_462 : Cond.instanceMethod ({ cls := "IceTunes$Sights", name := "<init>", desc := "()V" } : Jvm.MethodName) ∈ wt := wt_of 462 (by decide +kernel) (by decide +kernel)
theorem wm_463 : Cond.code ({ cls := "IceTunes$Sights", name := "<init>", desc := "()V" } : Jvm.MethodName) prog_10_method_1_code (1 : Nat) (Option.none : Option Jvm.ClassFile.FieldType) ∈ wt := wt_of 463 (by decide +kernel) (by decide +kernel)
theorem wm_464 : Cond.methodLink "IceTunes$Sights" (3 : Nat) ({ cls := "java/lang/Object", name := "<init>", desc := "()V" } : Jvm.MethodName) ∈ wt := wt_of 464 (by decide +kernel) (by decide +kernel)
theorem wm_465 : Cond.fieldLink "IceTunes$Sights" (33 : Nat) "IceTunes$Sights" "count" "I" ∈ wt := wt_of 465 (by decide +kernel) (by decide +kernel)
theorem nm_466 : Cond.fieldLinkNest "IceTunes" (281 : Nat) "IceTunes$Sights" "count" "I" "IceTunes" ∈ nw := nw_of 466 (by decide +kernel) rfl
theorem wm_467 : Cond.fieldLink "IceTunes$Sights" (11 : Nat) "IceTunes$Sights" "bar" "[I" ∈ wt := wt_of 467 (by decide +kernel) (by decide +kernel)
theorem wm_468 : Cond.fieldLink "IceTunes$Sights" (15 : Nat) "IceTunes$Sights" "cell" "[I" ∈ wt := wt_of 468 (by decide +kernel) (by decide +kernel)
theorem wm_469 : Cond.fieldLink "IceTunes$Sights" (18 : Nat) "IceTunes$Sights" "skater" "[I" ∈ wt := wt_of 469 (by decide +kernel) (by decide +kernel)
theorem wm_470 : Cond.fieldLink "IceTunes$Sights" (21 : Nat) "IceTunes$Sights" "least" "[I" ∈ wt := wt_of 470 (by decide +kernel) (by decide +kernel)
theorem wm_471 : Cond.fieldLink "IceTunes$Sights" (24 : Nat) "IceTunes$Sights" "most" "[I" ∈ wt := wt_of 471 (by decide +kernel) (by decide +kernel)
theorem wm_472 : Cond.fieldLink "IceTunes$Sights" (27 : Nat) "IceTunes$Sights" "toldAt" "[I" ∈ wt := wt_of 472 (by decide +kernel) (by decide +kernel)
theorem wm_473 : Cond.fieldLink "IceTunes$Sights" (30 : Nat) "IceTunes$Sights" "untoldAt" "[I" ∈ wt := wt_of 473 (by decide +kernel) (by decide +kernel)
theorem nm_491 : Cond.methodLinkNest "IceTunes" (67 : Nat) ({ cls := "IceTunes$Evening", name := "<init>", desc := "()V" } : Jvm.MethodName) "IceTunes" ∈ nw := nw_of 491 (by decide +kernel) rfl
theorem wm_492 : Cond.classLink "IceTunes" (68 : Nat) "IceTunes$Forecast" ∈ wt := wt_of 492 (by decide +kernel) (by decide +kernel)
theorem wm_493 : Cond.instantiable "IceTunes$Forecast" (5 : Nat) ∈ wt := wt_of 493 (by decide +kernel) (by decide +kernel)
theorem nm_494 : Cond.methodLinkNest "IceTunes" (70 : Nat) ({ cls := "IceTunes$Forecast", name := "<init>", desc := "(LIceTunes$Band;[LIceTunes$Evening;)V" } : Jvm.MethodName) "IceTunes" ∈ nw := nw_of 494 (by decide +kernel) rfl
theorem wm_495 : Cond.instanceMethod ({ cls := "IceTunes$Forecast", name := "<init>", desc := "(LIceTunes$Band;[LIceTunes$Evening;)V" } : Jvm.MethodName) ∈ wt := wt_of 495 (by decide +kernel) (by decide +kernel)
theorem wm_496 : Cond.code ({ cls := "IceTunes$Forecast", name := "<init>", desc := "(LIceTunes$Band;[LIceTunes$Evening;)V" } : Jvm.MethodName) prog_5_method_1_code (3 : Nat) (Option.none : Option Jvm.ClassFile.FieldType) ∈ wt := wt_of 496 (by decide +kernel) (by decide +kernel)
theorem wm_497 : Cond.methodLink "IceTunes$Forecast" (3 : Nat) ({ cls := "java/lang/Object", name := "<init>", desc := "()V" } : Jvm.MethodName) ∈ wt := wt_of 497 (by decide +kernel) (by decide +kernel)
theorem wm_498 : Cond.fieldLink "IceTunes$Forecast" (18 : Nat) "IceTunes$Forecast" "band" "LIceTunes$Band;" ∈ wt := wt_of 498 (by decide +kernel) (by decide +kernel)
theorem wm_499 : Cond.fieldLink "IceTunes$Forecast" (22 : Nat) "IceTunes$Forecast" "desk" "[LIceTunes$Evening;" ∈ wt := wt_of 499 (by decide +kernel) (by decide +kernel)
theorem wm_500 : Cond.fieldLink "IceTunes$Forecast" (9 : Nat) "IceTunes$Forecast" "row" "[I" ∈ wt := wt_of 500 (by decide +kernel) (by decide +kernel)
theorem wm_501 : Cond.fieldLink "IceTunes$Forecast" (15 : Nat) "IceTunes$Forecast" "best" "[I" ∈ wt := wt_of 501 (by decide +kernel) (by decide +kernel)
theorem nm_502 : Cond.fieldLinkNest "IceTunes" (202 : Nat) "IceTunes$Forecast" "best" "[I" "IceTunes" ∈ nw := nw_of 502 (by decide +kernel) rfl
theorem wm_503 : Cond.fieldLink "IceTunes$Forecast" (26 : Nat) "IceTunes$Forecast" "fewest" "I" ∈ wt := wt_of 503 (by decide +kernel) (by decide +kernel)
theorem nm_504 : Cond.fieldLinkNest "IceTunes" (228 : Nat) "IceTunes$Forecast" "fewest" "I" "IceTunes" ∈ nw := nw_of 504 (by decide +kernel) rfl
theorem wm_516 : Cond.classLink "IceTunes" (77 : Nat) "IceTunes$Duel" ∈ wt := wt_of 516 (by decide +kernel) (by decide +kernel)
theorem wm_517 : Cond.instantiable "IceTunes$Duel" (5 : Nat) ∈ wt := wt_of 517 (by decide +kernel) (by decide +kernel)
theorem nm_518 : Cond.methodLinkNest "IceTunes" (79 : Nat) ({ cls := "IceTunes$Duel", name := "<init>", desc := "(LIceTunes$Band;[LIceTunes$Evening;)V" } : Jvm.MethodName) "IceTunes" ∈ nw := nw_of 518 (by decide +kernel) rfl
theorem wm_519 : Cond.instanceMethod ({ cls := "IceTunes$Duel", name := "<init>", desc := "(LIceTunes$Band;[LIceTunes$Evening;)V" } : Jvm.MethodName) ∈ wt := wt_of 519 (by decide +kernel) (by decide +kernel)
theorem wm_520 : Cond.code ({ cls := "IceTunes$Duel", name := "<init>", desc := "(LIceTunes$Band;[LIceTunes$Evening;)V" } : Jvm.MethodName) prog_3_method_1_code (3 : Nat) (Option.none : Option Jvm.ClassFile.FieldType) ∈ wt := wt_of 520 (by decide +kernel) (by decide +kernel)
theorem wm_521 : Cond.methodLink "IceTunes$Duel" (3 : Nat) ({ cls := "java/lang/Object", name := "<init>", desc := "()V" } : Jvm.MethodName) ∈ wt := wt_of 521 (by decide +kernel) (by decide +kernel)
theorem wm_522 : Cond.fieldLink "IceTunes$Duel" (9 : Nat) "IceTunes$Duel" "band" "LIceTunes$Band;" ∈ wt := wt_of 522 (by decide +kernel) (by decide +kernel)
theorem wm_523 : Cond.fieldLink "IceTunes$Duel" (15 : Nat) "IceTunes$Duel" "desk" "[LIceTunes$Evening;" ∈ wt := wt_of 523 (by decide +kernel) (by decide +kernel)
theorem wm_524 : Cond.fieldLink "IceTunes$Duel" (19 : Nat) "IceTunes$Duel" "set" "I" ∈ wt := wt_of 524 (by decide +kernel) (by decide +kernel)
theorem wm_525 : Cond.fieldLink "IceTunes$Duel" (23 : Nat) "IceTunes$Duel" "turns" "I" ∈ wt := wt_of 525 (by decide +kernel) (by decide +kernel)
theorem wm_526 : Cond.fieldLink "IceTunes$Duel" (26 : Nat) "IceTunes$Duel" "choice" "I" ∈ wt := wt_of 526 (by decide +kernel) (by decide +kernel)
theorem nm_527 : Cond.fieldLinkNest "IceTunes" (219 : Nat) "IceTunes$Duel" "choice" "I" "IceTunes" ∈ nw := nw_of 527 (by decide +kernel) rfl
theorem wm_539 : Cond.classLink "IceTunes" (84 : Nat) "IceTunes$Rows" ∈ wt := wt_of 539 (by decide +kernel) (by decide +kernel)
theorem wm_540 : Cond.instantiable "IceTunes$Rows" (10 : Nat) ∈ wt := wt_of 540 (by decide +kernel) (by decide +kernel)
theorem nm_541 : Cond.methodLinkNest "IceTunes" (86 : Nat) ({ cls := "IceTunes$Rows", name := "<init>", desc := "(LIceTunes$Band;[LIceTunes$Evening;LIceTunes$Sights;)V" } : Jvm.MethodName) "IceTunes" ∈ nw := nw_of 541 (by decide +kernel) rfl
theorem wm_542 : Cond.instanceMethod ({ cls := "IceTunes$Rows", name := "<init>", desc := "(LIceTunes$Band;[LIceTunes$Evening;LIceTunes$Sights;)V" } : Jvm.MethodName) ∈ wt := wt_of 542 (by decide +kernel) (by decide +kernel)
theorem wm_543 : Cond.code ({ cls := "IceTunes$Rows", name := "<init>", desc := "(LIceTunes$Band;[LIceTunes$Evening;LIceTunes$Sights;)V" } : Jvm.MethodName) prog_9_method_1_code (4 : Nat) (Option.none : Option Jvm.ClassFile.FieldType) ∈ wt := wt_of 543 (by decide +kernel) (by decide +kernel)
theorem wm_544 : Cond.methodLink "IceTunes$Rows" (3 : Nat) ({ cls := "java/lang/Object", name := "<init>", desc := "()V" } : Jvm.MethodName) ∈ wt := wt_of 544 (by decide +kernel) (by decide +kernel)
theorem wm_545 : Cond.fieldLink "IceTunes$Rows" (21 : Nat) "IceTunes$Rows" "band" "LIceTunes$Band;" ∈ wt := wt_of 545 (by decide +kernel) (by decide +kernel)
theorem wm_546 : Cond.fieldLink "IceTunes$Rows" (25 : Nat) "IceTunes$Rows" "desk" "[LIceTunes$Evening;" ∈ wt := wt_of 546 (by decide +kernel) (by decide +kernel)
theorem wm_547 : Cond.fieldLink "IceTunes$Rows" (29 : Nat) "IceTunes$Rows" "sights" "LIceTunes$Sights;" ∈ wt := wt_of 547 (by decide +kernel) (by decide +kernel)
theorem wm_548 : Cond.fieldLink "IceTunes$Rows" (9 : Nat) "IceTunes$Rows" "row" "[I" ∈ wt := wt_of 548 (by decide +kernel) (by decide +kernel)
theorem wm_549 : Cond.fieldLink "IceTunes$Rows" (15 : Nat) "IceTunes$Rows" "first" "[I" ∈ wt := wt_of 549 (by decide +kernel) (by decide +kernel)
theorem nm_550 : Cond.fieldLinkNest "IceTunes" (256 : Nat) "IceTunes$Rows" "first" "[I" "IceTunes" ∈ nw := nw_of 550 (by decide +kernel) rfl
theorem wm_551 : Cond.fieldLink "IceTunes$Rows" (18 : Nat) "IceTunes$Rows" "only" "[I" ∈ wt := wt_of 551 (by decide +kernel) (by decide +kernel)
theorem nm_552 : Cond.fieldLinkNest "IceTunes" (259 : Nat) "IceTunes$Rows" "only" "[I" "IceTunes" ∈ nw := nw_of 552 (by decide +kernel) rfl
theorem wm_553 : Cond.fieldLink "IceTunes$Rows" (33 : Nat) "IceTunes$Rows" "found" "I" ∈ wt := wt_of 553 (by decide +kernel) (by decide +kernel)
theorem wm_554 : Cond.fieldLink "IceTunes$Rows" (37 : Nat) "IceTunes$Rows" "tunes" "I" ∈ wt := wt_of 554 (by decide +kernel) (by decide +kernel)
theorem wm_555 : Cond.fieldLink "IceTunes$Rows" (40 : Nat) "IceTunes$Rows" "known" "I" ∈ wt := wt_of 555 (by decide +kernel) (by decide +kernel)
theorem wm_556 : Cond.fieldLink "IceTunes$Rows" (49 : Nat) "IceTunes$Rows" "lastBar" "I" ∈ wt := wt_of 556 (by decide +kernel) (by decide +kernel)
theorem nm_578 : Cond.methodLinkNest "IceTunes" (93 : Nat) ({ cls := "IceTunes$History", name := "now", desc := "()LIceTunes$Evening;" } : Jvm.MethodName) "IceTunes" ∈ nw := nw_of 578 (by decide +kernel) rfl
theorem wm_580 : Cond.instanceMethod ({ cls := "IceTunes$History", name := "now", desc := "()LIceTunes$Evening;" } : Jvm.MethodName) ∈ wt := wt_of 580 (by decide +kernel) (by decide +kernel)
theorem wm_581 : Cond.code ({ cls := "IceTunes$History", name := "now", desc := "()LIceTunes$Evening;" } : Jvm.MethodName) prog_6_method_2_code (1 : Nat) (Option.some (Jvm.ClassFile.FieldType.object "IceTunes$Evening")) ∈ wt := wt_of 581 (by decide +kernel) (by decide +kernel)
theorem nm_582 : Cond.methodLinkNest "IceTunes" (97 : Nat) ({ cls := "IceTunes$Evening", name := "begin", desc := "(LIceTunes$Pond;)V" } : Jvm.MethodName) "IceTunes" ∈ nw := nw_of 582 (by decide +kernel) rfl
theorem wm_584 : Cond.instanceMethod ({ cls := "IceTunes$Evening", name := "begin", desc := "(LIceTunes$Pond;)V" } : Jvm.MethodName) ∈ wt := wt_of 584 (by decide +kernel) (by decide +kernel)
theorem wm_585 : Cond.code ({ cls := "IceTunes$Evening", name := "begin", desc := "(LIceTunes$Pond;)V" } : Jvm.MethodName) prog_4_method_2_code (3 : Nat) (Option.none : Option Jvm.ClassFile.FieldType) ∈ wt := wt_of 585 (by decide +kernel) (by decide +kernel)
end
section
theorem nm_586 : Cond.methodLinkNest "IceTunes$Evening" (34 : Nat) ({ cls := "IceTunes$Pond", name := "iceAtFirst", desc := "(I)I" } : Jvm.MethodName) "IceTunes" ∈ nw := nw_of 586 (by decide +kernel) rfl
theorem wm_588 : Cond.instanceMethod ({ cls := "IceTunes$Pond", name := "iceAtFirst", desc := "(I)I" } : Jvm.MethodName) ∈ wt := wt_of 588 (by decide +kernel) (by decide +kernel)
theorem wm_589 : Cond.code ({ cls := "IceTunes$Pond", name := "iceAtFirst", desc := "(I)I" } : Jvm.MethodName) prog_7_method_7_code (2 : Nat) (Option.some Jvm.ClassFile.FieldType.int) ∈ wt := wt_of 589 (by decide +kernel) (by decide +kernel)
theorem wm_590 : Cond.fieldLink "IceTunes" (9 : Nat) "IceTunes" "tape" "[B" ∈ wt := wt_of 590 (by decide +kernel) (by decide +kernel)
theorem wm_591 : Cond.fieldLink "IceTunes" (100 : Nat) "IceTunes" "taped" "I" ∈ wt := wt_of 591 (by decide +kernel) (by decide +kernel)
theorem wm_592 : Cond.fieldLink "IceTunes" (16 : Nat) "IceTunes" "told" "LIceTunes$Pond;" ∈ wt := wt_of 592 (by decide +kernel) (by decide +kernel)
theorem wm_593 : Cond.fieldLink "IceTunes" (20 : Nat) "IceTunes" "draft" "LIceTunes$Pond;" ∈ wt := wt_of 593 (by decide +kernel) (by decide +kernel)
theorem wm_594 : Cond.fieldLink "IceTunes" (26 : Nat) "IceTunes" "reader" "LIceTunes$Reader;" ∈ wt := wt_of 594 (by decide +kernel) (by decide +kernel)
theorem wm_595 : Cond.fieldLink "IceTunes" (35 : Nat) "IceTunes" "band" "LIceTunes$Band;" ∈ wt := wt_of 595 (by decide +kernel) (by decide +kernel)
theorem wm_596 : Cond.fieldLink "IceTunes" (42 : Nat) "IceTunes" "history" "LIceTunes$History;" ∈ wt := wt_of 596 (by decide +kernel) (by decide +kernel)
theorem wm_597 : Cond.fieldLink "IceTunes" (48 : Nat) "IceTunes" "boxes" "[LIceTunes$Evening;" ∈ wt := wt_of 597 (by decide +kernel) (by decide +kernel)
theorem wm_598 : Cond.fieldLink "IceTunes" (52 : Nat) "IceTunes" "kept" "[Z" ∈ wt := wt_of 598 (by decide +kernel) (by decide +kernel)
theorem wm_599 : Cond.fieldLink "IceTunes" (59 : Nat) "IceTunes" "sights" "LIceTunes$Sights;" ∈ wt := wt_of 599 (by decide +kernel) (by decide +kernel)
theorem wm_600 : Cond.fieldLink "IceTunes" (73 : Nat) "IceTunes" "forecast" "LIceTunes$Forecast;" ∈ wt := wt_of 600 (by decide +kernel) (by decide +kernel)
theorem wm_601 : Cond.fieldLink "IceTunes" (80 : Nat) "IceTunes" "duels" "LIceTunes$Duel;" ∈ wt := wt_of 601 (by decide +kernel) (by decide +kernel)
theorem wm_602 : Cond.fieldLink "IceTunes" (89 : Nat) "IceTunes" "rows" "LIceTunes$Rows;" ∈ wt := wt_of 602 (by decide +kernel) (by decide +kernel)
theorem wm_603 : Cond.fieldLink "IceTunes" (63 : Nat) "IceTunes" "lying" "[I" ∈ wt := wt_of 603 (by decide +kernel) (by decide +kernel)
theorem wm_604 : Cond.fieldLink "IceTunes" (121 : Nat) "IceTunes" "lyingCount" "I" ∈ wt := wt_of 604 (by decide +kernel) (by decide +kernel)
theorem wm_605 : Cond.fieldLink "IceTunes" (237 : Nat) "IceTunes" "time" "I" ∈ wt := wt_of 605 (by decide +kernel) (by decide +kernel)
theorem wm_639 : Cond.methodLink "IceTunesLaw" (13 : Nat) ({ cls := "IceTunes", name := "feed", desc := "(IIIII)I" } : Jvm.MethodName) ∈ wt := wt_of 639 (by decide +kernel) (by decide +kernel)
theorem wm_640 : Cond.instanceMethod ({ cls := "IceTunes", name := "feed", desc := "(IIIII)I" } : Jvm.MethodName) ∈ wt := wt_of 640 (by decide +kernel) (by decide +kernel)
theorem wm_641 : Cond.selects "IceTunes" ({ cls := "IceTunes", name := "feed", desc := "(IIIII)I" } : Jvm.MethodName) ({ cls := "IceTunes", name := "feed", desc := "(IIIII)I" } : Jvm.MethodName) ∈ wt := wt_of 641 (by decide +kernel) (by decide +kernel)
theorem wm_642 : Cond.code ({ cls := "IceTunes", name := "feed", desc := "(IIIII)I" } : Jvm.MethodName) prog_1_method_2_code (6 : Nat) (Option.some Jvm.ClassFile.FieldType.int) ∈ wt := wt_of 642 (by decide +kernel) (by decide +kernel)
theorem wm_643 : Cond.methodLink "IceTunes" (104 : Nat) ({ cls := "IceTunes", name := "tapeNumber", desc := "(I)V" } : Jvm.MethodName) ∈ wt := wt_of 643 (by decide +kernel) (by decide +kernel)
theorem wm_645 : Cond.instanceMethod ({ cls := "IceTunes", name := "tapeNumber", desc := "(I)V" } : Jvm.MethodName) ∈ wt := wt_of 645 (by decide +kernel) (by decide +kernel)
theorem wm_646 : Cond.code ({ cls := "IceTunes", name := "tapeNumber", desc := "(I)V" } : Jvm.MethodName) prog_1_method_3_code (3 : Nat) (Option.none : Option Jvm.ClassFile.FieldType) ∈ wt := wt_of 646 (by decide +kernel) (by decide +kernel)
theorem wm_647 : Cond.methodLink "IceTunesLaw" (18 : Nat) ({ cls := "IceTunes", name := "end", desc := "(I)I" } : Jvm.MethodName) ∈ wt := wt_of 647 (by decide +kernel) (by decide +kernel)
theorem wm_648 : Cond.instanceMethod ({ cls := "IceTunes", name := "end", desc := "(I)I" } : Jvm.MethodName) ∈ wt := wt_of 648 (by decide +kernel) (by decide +kernel)
theorem wm_649 : Cond.selects "IceTunes" ({ cls := "IceTunes", name := "end", desc := "(I)I" } : Jvm.MethodName) ({ cls := "IceTunes", name := "end", desc := "(I)I" } : Jvm.MethodName) ∈ wt := wt_of 649 (by decide +kernel) (by decide +kernel)
theorem wm_650 : Cond.code ({ cls := "IceTunes", name := "end", desc := "(I)I" } : Jvm.MethodName) prog_1_method_4_code (2 : Nat) (Option.some Jvm.ClassFile.FieldType.int) ∈ wt := wt_of 650 (by decide +kernel) (by decide +kernel)
theorem wm_651 : Cond.methodLink "IceTunesLaw" (23 : Nat) ({ cls := "IceTunes", name := "pond", desc := "()I" } : Jvm.MethodName) ∈ wt := wt_of 651 (by decide +kernel) (by decide +kernel)
theorem wm_652 : Cond.instanceMethod ({ cls := "IceTunes", name := "pond", desc := "()I" } : Jvm.MethodName) ∈ wt := wt_of 652 (by decide +kernel) (by decide +kernel)
theorem wm_653 : Cond.selects "IceTunes" ({ cls := "IceTunes", name := "pond", desc := "()I" } : Jvm.MethodName) ({ cls := "IceTunes", name := "pond", desc := "()I" } : Jvm.MethodName) ∈ wt := wt_of 653 (by decide +kernel) (by decide +kernel)
theorem wm_654 : Cond.code ({ cls := "IceTunes", name := "pond", desc := "()I" } : Jvm.MethodName) prog_1_method_5_code (3 : Nat) (Option.some Jvm.ClassFile.FieldType.int) ∈ wt := wt_of 654 (by decide +kernel) (by decide +kernel)
theorem nm_655 : Cond.methodLinkNest "IceTunes" (108 : Nat) ({ cls := "IceTunes$Reader", name := "read", desc := "([BILIceTunes$Pond;)Z" } : Jvm.MethodName) "IceTunes" ∈ nw := nw_of 655 (by decide +kernel) rfl
theorem wm_657 : Cond.instanceMethod ({ cls := "IceTunes$Reader", name := "read", desc := "([BILIceTunes$Pond;)Z" } : Jvm.MethodName) ∈ wt := wt_of 657 (by decide +kernel) (by decide +kernel)
theorem wm_658 : Cond.code ({ cls := "IceTunes$Reader", name := "read", desc := "([BILIceTunes$Pond;)Z" } : Jvm.MethodName) prog_8_method_2_code (7 : Nat) (Option.some Jvm.ClassFile.FieldType.boolean) ∈ wt := wt_of 658 (by decide +kernel) (by decide +kernel)
theorem nm_659 : Cond.methodLinkNest "IceTunes$Reader" (36 : Nat) ({ cls := "IceTunes$Pond", name := "clear", desc := "()V" } : Jvm.MethodName) "IceTunes" ∈ nw := nw_of 659 (by decide +kernel) rfl
theorem nm_660 : Cond.methodLinkNest "IceTunes$Reader" (41 : Nat) ({ cls := "IceTunes$Tokens", name := "begin", desc := "([BI)V" } : Jvm.MethodName) "IceTunes" ∈ nw := nw_of 660 (by decide +kernel) rfl
theorem wm_662 : Cond.instanceMethod ({ cls := "IceTunes$Tokens", name := "begin", desc := "([BI)V" } : Jvm.MethodName) ∈ wt := wt_of 662 (by decide +kernel) (by decide +kernel)
theorem wm_663 : Cond.code ({ cls := "IceTunes$Tokens", name := "begin", desc := "([BI)V" } : Jvm.MethodName) prog_11_method_2_code (3 : Nat) (Option.none : Option Jvm.ClassFile.FieldType) ∈ wt := wt_of 663 (by decide +kernel) (by decide +kernel)
theorem wm_664 : Cond.methodLink "IceTunes$Tokens" (13 : Nat) ({ cls := "java/lang/Math", name := "min", desc := "(II)I" } : Jvm.MethodName) ∈ wt := wt_of 664 (by decide +kernel) (by decide +kernel)
theorem wm_665 : Cond.static ({ cls := "java/lang/Math", name := "min", desc := "(II)I" } : Jvm.MethodName) ∈ wt := wt_of 665 (by decide +kernel) (by decide +kernel)
theorem wm_666 : Cond.code ({ cls := "java/lang/Math", name := "min", desc := "(II)I" } : Jvm.MethodName) prog_16_method_69_code (2 : Nat) (Option.some Jvm.ClassFile.FieldType.int) ∈ wt := wt_of 666 (by decide +kernel) (by decide +kernel)
theorem wm_667 : Cond.methodLink "IceTunes$Tokens" (26 : Nat) ({ cls := "IceTunes$Tokens", name := "next", desc := "()V" } : Jvm.MethodName) ∈ wt := wt_of 667 (by decide +kernel) (by decide +kernel)
theorem wm_669 : Cond.instanceMethod ({ cls := "IceTunes$Tokens", name := "next", desc := "()V" } : Jvm.MethodName) ∈ wt := wt_of 669 (by decide +kernel) (by decide +kernel)
theorem wm_670 : Cond.code ({ cls := "IceTunes$Tokens", name := "next", desc := "()V" } : Jvm.MethodName) prog_11_method_3_code (1 : Nat) (Option.none : Option Jvm.ClassFile.FieldType) ∈ wt := wt_of 670 (by decide +kernel) (by decide +kernel)
theorem wm_671 : Cond.methodLink "IceTunes$Tokens" (35 : Nat) ({ cls := "IceTunes$Tokens", name := "isLetter", desc := "(I)Z" } : Jvm.MethodName) ∈ wt := wt_of 671 (by decide +kernel) (by decide +kernel)
theorem wm_673 : Cond.instanceMethod ({ cls := "IceTunes$Tokens", name := "isLetter", desc := "(I)Z" } : Jvm.MethodName) ∈ wt := wt_of 673 (by decide +kernel) (by decide +kernel)
theorem wm_674 : Cond.code ({ cls := "IceTunes$Tokens", name := "isLetter", desc := "(I)Z" } : Jvm.MethodName) prog_11_method_4_code (2 : Nat) (Option.some Jvm.ClassFile.FieldType.boolean) ∈ wt := wt_of 674 (by decide +kernel) (by decide +kernel)
theorem wm_675 : Cond.methodLink "IceTunes$Tokens" (39 : Nat) ({ cls := "IceTunes$Tokens", name := "takeWord", desc := "()V" } : Jvm.MethodName) ∈ wt := wt_of 675 (by decide +kernel) (by decide +kernel)
theorem wm_677 : Cond.instanceMethod ({ cls := "IceTunes$Tokens", name := "takeWord", desc := "()V" } : Jvm.MethodName) ∈ wt := wt_of 677 (by decide +kernel) (by decide +kernel)
theorem wm_678 : Cond.code ({ cls := "IceTunes$Tokens", name := "takeWord", desc := "()V" } : Jvm.MethodName) prog_11_method_6_code (1 : Nat) (Option.none : Option Jvm.ClassFile.FieldType) ∈ wt := wt_of 678 (by decide +kernel) (by decide +kernel)
theorem wm_679 : Cond.methodLink "IceTunes$Tokens" (56 : Nat) ({ cls := "IceTunes$Tokens", name := "kindOfWord", desc := "()I" } : Jvm.MethodName) ∈ wt := wt_of 679 (by decide +kernel) (by decide +kernel)
theorem wm_681 : Cond.instanceMethod ({ cls := "IceTunes$Tokens", name := "kindOfWord", desc := "()I" } : Jvm.MethodName) ∈ wt := wt_of 681 (by decide +kernel) (by decide +kernel)
theorem wm_682 : Cond.code ({ cls := "IceTunes$Tokens", name := "kindOfWord", desc := "()I" } : Jvm.MethodName) prog_11_method_7_code (3 : Nat) (Option.some Jvm.ClassFile.FieldType.int) ∈ wt := wt_of 682 (by decide +kernel) (by decide +kernel)
theorem wm_684 : Cond.methodLink "IceTunes$Tokens" (62 : Nat) ({ cls := "java/lang/String", name := "length", desc := "()I" } : Jvm.MethodName) ∈ wt := wt_of 684 (by decide +kernel) (by decide +kernel)
theorem wm_694 : Cond.methodLink "IceTunes$Tokens" (64 : Nat) ({ cls := "java/lang/String", name := "charAt", desc := "(I)C" } : Jvm.MethodName) ∈ wt := wt_of 694 (by decide +kernel) (by decide +kernel)
theorem wm_732 : Cond.methodLink "IceTunes$Tokens" (42 : Nat) ({ cls := "IceTunes$Tokens", name := "isDigit", desc := "(I)Z" } : Jvm.MethodName) ∈ wt := wt_of 732 (by decide +kernel) (by decide +kernel)
theorem wm_734 : Cond.instanceMethod ({ cls := "IceTunes$Tokens", name := "isDigit", desc := "(I)Z" } : Jvm.MethodName) ∈ wt := wt_of 734 (by decide +kernel) (by decide +kernel)
theorem wm_735 : Cond.code ({ cls := "IceTunes$Tokens", name := "isDigit", desc := "(I)Z" } : Jvm.MethodName) prog_11_method_5_code (2 : Nat) (Option.some Jvm.ClassFile.FieldType.boolean) ∈ wt := wt_of 735 (by decide +kernel) (by decide +kernel)
theorem wm_736 : Cond.methodLink "IceTunes$Tokens" (45 : Nat) ({ cls := "IceTunes$Tokens", name := "takeNumber", desc := "()V" } : Jvm.MethodName) ∈ wt := wt_of 736 (by decide +kernel) (by decide +kernel)
theorem wm_738 : Cond.instanceMethod ({ cls := "IceTunes$Tokens", name := "takeNumber", desc := "()V" } : Jvm.MethodName) ∈ wt := wt_of 738 (by decide +kernel) (by decide +kernel)
theorem wm_739 : Cond.code ({ cls := "IceTunes$Tokens", name := "takeNumber", desc := "()V" } : Jvm.MethodName) prog_11_method_8_code (1 : Nat) (Option.none : Option Jvm.ClassFile.FieldType) ∈ wt := wt_of 739 (by decide +kernel) (by decide +kernel)
theorem wm_741 : Cond.methodLink "IceTunes$Tokens" (50 : Nat) ({ cls := "java/lang/String", name := "indexOf", desc := "(I)I" } : Jvm.MethodName) ∈ wt := wt_of 741 (by decide +kernel) (by decide +kernel)
theorem wm_757 : Cond.static ({ cls := "java/lang/Math", name := "max", desc := "(II)I" } : Jvm.MethodName) ∈ wt := wt_of 757 (by decide +kernel) (by decide +kernel)
theorem wm_758 : Cond.code ({ cls := "java/lang/Math", name := "max", desc := "(II)I" } : Jvm.MethodName) prog_16_method_65_code (2 : Nat) (Option.some Jvm.ClassFile.FieldType.int) ∈ wt := wt_of 758 (by decide +kernel) (by decide +kernel)
theorem wm_798 : Cond.methodLink "IceTunes$Reader" (48 : Nat) ({ cls := "IceTunes$Reader", name := "mayStand", desc := "(I)Z" } : Jvm.MethodName) ∈ wt := wt_of 798 (by decide +kernel) (by decide +kernel)
theorem wm_800 : Cond.instanceMethod ({ cls := "IceTunes$Reader", name := "mayStand", desc := "(I)Z" } : Jvm.MethodName) ∈ wt := wt_of 800 (by decide +kernel) (by decide +kernel)
theorem wm_801 : Cond.code ({ cls := "IceTunes$Reader", name := "mayStand", desc := "(I)Z" } : Jvm.MethodName) prog_8_method_6_code (3 : Nat) (Option.some Jvm.ClassFile.FieldType.boolean) ∈ wt := wt_of 801 (by decide +kernel) (by decide +kernel)
theorem wm_802 : Cond.methodLink "IceTunes$Reader" (52 : Nat) ({ cls := "IceTunes$Reader", name := "fail", desc := "(I)Z" } : Jvm.MethodName) ∈ wt := wt_of 802 (by decide +kernel) (by decide +kernel)
theorem wm_804 : Cond.instanceMethod ({ cls := "IceTunes$Reader", name := "fail", desc := "(I)Z" } : Jvm.MethodName) ∈ wt := wt_of 804 (by decide +kernel) (by decide +kernel)
theorem wm_805 : Cond.code ({ cls := "IceTunes$Reader", name := "fail", desc := "(I)Z" } : Jvm.MethodName) prog_8_method_3_code (2 : Nat) (Option.some Jvm.ClassFile.FieldType.boolean) ∈ wt := wt_of 805 (by decide +kernel) (by decide +kernel)
theorem nm_806 : Cond.methodLinkNest "IceTunes$Reader" (55 : Nat) ({ cls := "IceTunes$Tokens", name := "next", desc := "()V" } : Jvm.MethodName) "IceTunes" ∈ nw := nw_of 806 (by decide +kernel) rfl
theorem wm_807 : Cond.methodLink "IceTunes$Reader" (58 : Nat) ({ cls := "IceTunes$Reader", name := "readSize", desc := "()Z" } : Jvm.MethodName) ∈ wt := wt_of 807 (by decide +kernel) (by decide +kernel)
theorem wm_809 : Cond.instanceMethod ({ cls := "IceTunes$Reader", name := "readSize", desc := "()Z" } : Jvm.MethodName) ∈ wt := wt_of 809 (by decide +kernel) (by decide +kernel)
theorem wm_810 : Cond.code ({ cls := "IceTunes$Reader", name := "readSize", desc := "()Z" } : Jvm.MethodName) prog_8_method_7_code (1 : Nat) (Option.some Jvm.ClassFile.FieldType.boolean) ∈ wt := wt_of 810 (by decide +kernel) (by decide +kernel)
theorem wm_811 : Cond.methodLink "IceTunes$Reader" (108 : Nat) ({ cls := "IceTunes$Reader", name := "takeNumber", desc := "(II)Z" } : Jvm.MethodName) ∈ wt := wt_of 811 (by decide +kernel) (by decide +kernel)
theorem wm_813 : Cond.instanceMethod ({ cls := "IceTunes$Reader", name := "takeNumber", desc := "(II)Z" } : Jvm.MethodName) ∈ wt := wt_of 813 (by decide +kernel) (by decide +kernel)
theorem wm_814 : Cond.code ({ cls := "IceTunes$Reader", name := "takeNumber", desc := "(II)Z" } : Jvm.MethodName) prog_8_method_5_code (3 : Nat) (Option.some Jvm.ClassFile.FieldType.boolean) ∈ wt := wt_of 814 (by decide +kernel) (by decide +kernel)
theorem wm_815 : Cond.methodLink "IceTunes$Reader" (80 : Nat) ({ cls := "IceTunes$Reader", name := "take", desc := "(I)Z" } : Jvm.MethodName) ∈ wt := wt_of 815 (by decide +kernel) (by decide +kernel)
theorem wm_817 : Cond.instanceMethod ({ cls := "IceTunes$Reader", name := "take", desc := "(I)Z" } : Jvm.MethodName) ∈ wt := wt_of 817 (by decide +kernel) (by decide +kernel)
theorem wm_818 : Cond.code ({ cls := "IceTunes$Reader", name := "take", desc := "(I)Z" } : Jvm.MethodName) prog_8_method_4_code (2 : Nat) (Option.some Jvm.ClassFile.FieldType.boolean) ∈ wt := wt_of 818 (by decide +kernel) (by decide +kernel)
theorem wm_819 : Cond.methodLink "IceTunes$Reader" (62 : Nat) ({ cls := "IceTunes$Reader", name := "readAllIce", desc := "()Z" } : Jvm.MethodName) ∈ wt := wt_of 819 (by decide +kernel) (by decide +kernel)
theorem wm_821 : Cond.instanceMethod ({ cls := "IceTunes$Reader", name := "readAllIce", desc := "()Z" } : Jvm.MethodName) ∈ wt := wt_of 821 (by decide +kernel) (by decide +kernel)
theorem wm_822 : Cond.code ({ cls := "IceTunes$Reader", name := "readAllIce", desc := "()Z" } : Jvm.MethodName) prog_8_method_8_code (1 : Nat) (Option.some Jvm.ClassFile.FieldType.boolean) ∈ wt := wt_of 822 (by decide +kernel) (by decide +kernel)
theorem wm_823 : Cond.methodLink "IceTunes$Reader" (65 : Nat) ({ cls := "IceTunes$Reader", name := "readCell", desc := "()Z" } : Jvm.MethodName) ∈ wt := wt_of 823 (by decide +kernel) (by decide +kernel)
theorem wm_825 : Cond.instanceMethod ({ cls := "IceTunes$Reader", name := "readCell", desc := "()Z" } : Jvm.MethodName) ∈ wt := wt_of 825 (by decide +kernel) (by decide +kernel)
theorem wm_826 : Cond.code ({ cls := "IceTunes$Reader", name := "readCell", desc := "()Z" } : Jvm.MethodName) prog_8_method_9_code (1 : Nat) (Option.some Jvm.ClassFile.FieldType.boolean) ∈ wt := wt_of 826 (by decide +kernel) (by decide +kernel)
theorem wm_827 : Cond.methodLink "IceTunes$Reader" (115 : Nat) ({ cls := "IceTunes$Reader", name := "takePlace", desc := "(I)Z" } : Jvm.MethodName) ∈ wt := wt_of 827 (by decide +kernel) (by decide +kernel)
theorem wm_829 : Cond.instanceMethod ({ cls := "IceTunes$Reader", name := "takePlace", desc := "(I)Z" } : Jvm.MethodName) ∈ wt := wt_of 829 (by decide +kernel) (by decide +kernel)
theorem wm_830 : Cond.code ({ cls := "IceTunes$Reader", name := "takePlace", desc := "(I)Z" } : Jvm.MethodName) prog_8_method_11_code (3 : Nat) (Option.some Jvm.ClassFile.FieldType.boolean) ∈ wt := wt_of 830 (by decide +kernel) (by decide +kernel)
theorem nm_831 : Cond.methodLinkNest "IceTunes$Reader" (131 : Nat) ({ cls := "IceTunes$Pond", name := "hasCell", desc := "(II)Z" } : Jvm.MethodName) "IceTunes" ∈ nw := nw_of 831 (by decide +kernel) rfl
theorem wm_833 : Cond.instanceMethod ({ cls := "IceTunes$Pond", name := "hasCell", desc := "(II)Z" } : Jvm.MethodName) ∈ wt := wt_of 833 (by decide +kernel) (by decide +kernel)
theorem wm_834 : Cond.code ({ cls := "IceTunes$Pond", name := "hasCell", desc := "(II)Z" } : Jvm.MethodName) prog_7_method_3_code (3 : Nat) (Option.some Jvm.ClassFile.FieldType.boolean) ∈ wt := wt_of 834 (by decide +kernel) (by decide +kernel)
theorem wm_835 : Cond.methodLink "IceTunes$Reader" (134 : Nat) ({ cls := "IceTunes$Reader", name := "isToldAlready", desc := "(II)Z" } : Jvm.MethodName) ∈ wt := wt_of 835 (by decide +kernel) (by decide +kernel)
theorem wm_837 : Cond.instanceMethod ({ cls := "IceTunes$Reader", name := "isToldAlready", desc := "(II)Z" } : Jvm.MethodName) ∈ wt := wt_of 837 (by decide +kernel) (by decide +kernel)
theorem wm_838 : Cond.code ({ cls := "IceTunes$Reader", name := "isToldAlready", desc := "(II)Z" } : Jvm.MethodName) prog_8_method_12_code (3 : Nat) (Option.some Jvm.ClassFile.FieldType.boolean) ∈ wt := wt_of 838 (by decide +kernel) (by decide +kernel)
theorem wm_839 : Cond.methodLink "IceTunes$Reader" (68 : Nat) ({ cls := "IceTunes$Reader", name := "readPlank", desc := "()Z" } : Jvm.MethodName) ∈ wt := wt_of 839 (by decide +kernel) (by decide +kernel)
theorem wm_841 : Cond.instanceMethod ({ cls := "IceTunes$Reader", name := "readPlank", desc := "()Z" } : Jvm.MethodName) ∈ wt := wt_of 841 (by decide +kernel) (by decide +kernel)
theorem wm_842 : Cond.code ({ cls := "IceTunes$Reader", name := "readPlank", desc := "()Z" } : Jvm.MethodName) prog_8_method_10_code (1 : Nat) (Option.some Jvm.ClassFile.FieldType.boolean) ∈ wt := wt_of 842 (by decide +kernel) (by decide +kernel)
theorem wm_843 : Cond.methodLink "IceTunes$Reader" (71 : Nat) ({ cls := "IceTunes$Reader", name := "readTune", desc := "()Z" } : Jvm.MethodName) ∈ wt := wt_of 843 (by decide +kernel) (by decide +kernel)
theorem wm_845 : Cond.instanceMethod ({ cls := "IceTunes$Reader", name := "readTune", desc := "()Z" } : Jvm.MethodName) ∈ wt := wt_of 845 (by decide +kernel) (by decide +kernel)
theorem wm_846 : Cond.code ({ cls := "IceTunes$Reader", name := "readTune", desc := "()Z" } : Jvm.MethodName) prog_8_method_14_code (3 : Nat) (Option.some Jvm.ClassFile.FieldType.boolean) ∈ wt := wt_of 846 (by decide +kernel) (by decide +kernel)
theorem wm_847 : Cond.methodLink "IceTunes$Reader" (143 : Nat) ({ cls := "IceTunes$Reader", name := "takeName", desc := "(II)Z" } : Jvm.MethodName) ∈ wt := wt_of 847 (by decide +kernel) (by decide +kernel)
theorem wm_849 : Cond.instanceMethod ({ cls := "IceTunes$Reader", name := "takeName", desc := "(II)Z" } : Jvm.MethodName) ∈ wt := wt_of 849 (by decide +kernel) (by decide +kernel)
theorem wm_850 : Cond.code ({ cls := "IceTunes$Reader", name := "takeName", desc := "(II)Z" } : Jvm.MethodName) prog_8_method_13_code (4 : Nat) (Option.some Jvm.ClassFile.FieldType.boolean) ∈ wt := wt_of 850 (by decide +kernel) (by decide +kernel)
theorem nm_851 : Cond.methodLinkNest "IceTunes$Reader" (137 : Nat) ({ cls := "IceTunes$Tokens", name := "isSameWord", desc := "(II)Z" } : Jvm.MethodName) "IceTunes" ∈ nw := nw_of 851 (by decide +kernel) rfl
theorem wm_853 : Cond.instanceMethod ({ cls := "IceTunes$Tokens", name := "isSameWord", desc := "(II)Z" } : Jvm.MethodName) ∈ wt := wt_of 853 (by decide +kernel) (by decide +kernel)
theorem wm_854 : Cond.code ({ cls := "IceTunes$Tokens", name := "isSameWord", desc := "(II)Z" } : Jvm.MethodName) prog_11_method_9_code (4 : Nat) (Option.some Jvm.ClassFile.FieldType.boolean) ∈ wt := wt_of 854 (by decide +kernel) (by decide +kernel)
theorem wm_855 : Cond.methodLink "IceTunes$Reader" (158 : Nat) ({ cls := "IceTunes$Reader", name := "readFormula", desc := "(I)Z" } : Jvm.MethodName) ∈ wt := wt_of 855 (by decide +kernel) (by decide +kernel)
theorem wm_857 : Cond.instanceMethod ({ cls := "IceTunes$Reader", name := "readFormula", desc := "(I)Z" } : Jvm.MethodName) ∈ wt := wt_of 857 (by decide +kernel) (by decide +kernel)
theorem wm_858 : Cond.code ({ cls := "IceTunes$Reader", name := "readFormula", desc := "(I)Z" } : Jvm.MethodName) prog_8_method_18_code (4 : Nat) (Option.some Jvm.ClassFile.FieldType.boolean) ∈ wt := wt_of 858 (by decide +kernel) (by decide +kernel)
theorem wm_859 : Cond.methodLink "IceTunes$Reader" (180 : Nat) ({ cls := "IceTunes$Reader", name := "readBoth", desc := "(I)Z" } : Jvm.MethodName) ∈ wt := wt_of 859 (by decide +kernel) (by decide +kernel)
theorem wm_861 : Cond.instanceMethod ({ cls := "IceTunes$Reader", name := "readBoth", desc := "(I)Z" } : Jvm.MethodName) ∈ wt := wt_of 861 (by decide +kernel) (by decide +kernel)
theorem wm_862 : Cond.code ({ cls := "IceTunes$Reader", name := "readBoth", desc := "(I)Z" } : Jvm.MethodName) prog_8_method_19_code (4 : Nat) (Option.some Jvm.ClassFile.FieldType.boolean) ∈ wt := wt_of 862 (by decide +kernel) (by decide +kernel)
theorem wm_863 : Cond.methodLink "IceTunes$Reader" (187 : Nat) ({ cls := "IceTunes$Reader", name := "readOne", desc := "(I)Z" } : Jvm.MethodName) ∈ wt := wt_of 863 (by decide +kernel) (by decide +kernel)
theorem wm_865 : Cond.instanceMethod ({ cls := "IceTunes$Reader", name := "readOne", desc := "(I)Z" } : Jvm.MethodName) ∈ wt := wt_of 865 (by decide +kernel) (by decide +kernel)
theorem wm_866 : Cond.code ({ cls := "IceTunes$Reader", name := "readOne", desc := "(I)Z" } : Jvm.MethodName) prog_8_method_20_code (4 : Nat) (Option.some Jvm.ClassFile.FieldType.boolean) ∈ wt := wt_of 866 (by decide +kernel) (by decide +kernel)
theorem wm_867 : Cond.methodLink "IceTunes$Reader" (183 : Nat) ({ cls := "IceTunes$Reader", name := "putCode", desc := "(I)V" } : Jvm.MethodName) ∈ wt := wt_of 867 (by decide +kernel) (by decide +kernel)
theorem wm_869 : Cond.instanceMethod ({ cls := "IceTunes$Reader", name := "putCode", desc := "(I)V" } : Jvm.MethodName) ∈ wt := wt_of 869 (by decide +kernel) (by decide +kernel)
theorem wm_870 : Cond.code ({ cls := "IceTunes$Reader", name := "putCode", desc := "(I)V" } : Jvm.MethodName) prog_8_method_17_code (2 : Nat) (Option.none : Option Jvm.ClassFile.FieldType) ∈ wt := wt_of 870 (by decide +kernel) (by decide +kernel)
theorem wm_871 : Cond.methodLink "IceTunes$Reader" (190 : Nat) ({ cls := "IceTunes$Reader", name := "readSum", desc := "(I)Z" } : Jvm.MethodName) ∈ wt := wt_of 871 (by decide +kernel) (by decide +kernel)
theorem wm_873 : Cond.instanceMethod ({ cls := "IceTunes$Reader", name := "readSum", desc := "(I)Z" } : Jvm.MethodName) ∈ wt := wt_of 873 (by decide +kernel) (by decide +kernel)
theorem wm_874 : Cond.code ({ cls := "IceTunes$Reader", name := "readSum", desc := "(I)Z" } : Jvm.MethodName) prog_8_method_21_code (5 : Nat) (Option.some Jvm.ClassFile.FieldType.boolean) ∈ wt := wt_of 874 (by decide +kernel) (by decide +kernel)
theorem wm_875 : Cond.methodLink "IceTunes$Reader" (193 : Nat) ({ cls := "IceTunes$Reader", name := "readTerm", desc := "(I)Z" } : Jvm.MethodName) ∈ wt := wt_of 875 (by decide +kernel) (by decide +kernel)
theorem wm_877 : Cond.instanceMethod ({ cls := "IceTunes$Reader", name := "readTerm", desc := "(I)Z" } : Jvm.MethodName) ∈ wt := wt_of 877 (by decide +kernel) (by decide +kernel)
theorem wm_878 : Cond.code ({ cls := "IceTunes$Reader", name := "readTerm", desc := "(I)Z" } : Jvm.MethodName) prog_8_method_22_code (5 : Nat) (Option.some Jvm.ClassFile.FieldType.boolean) ∈ wt := wt_of 878 (by decide +kernel) (by decide +kernel)
theorem wm_879 : Cond.methodLink "IceTunes$Reader" (196 : Nat) ({ cls := "IceTunes$Reader", name := "readUnit", desc := "(I)Z" } : Jvm.MethodName) ∈ wt := wt_of 879 (by decide +kernel) (by decide +kernel)
theorem wm_881 : Cond.instanceMethod ({ cls := "IceTunes$Reader", name := "readUnit", desc := "(I)Z" } : Jvm.MethodName) ∈ wt := wt_of 881 (by decide +kernel) (by decide +kernel)
theorem wm_882 : Cond.code ({ cls := "IceTunes$Reader", name := "readUnit", desc := "(I)Z" } : Jvm.MethodName) prog_8_method_24_code (2 : Nat) (Option.some Jvm.ClassFile.FieldType.boolean) ∈ wt := wt_of 882 (by decide +kernel) (by decide +kernel)
theorem wm_883 : Cond.methodLink "IceTunes$Reader" (199 : Nat) ({ cls := "IceTunes$Reader", name := "isTermSign", desc := "(I)Z" } : Jvm.MethodName) ∈ wt := wt_of 883 (by decide +kernel) (by decide +kernel)
theorem wm_884 : Cond.static ({ cls := "IceTunes$Reader", name := "isTermSign", desc := "(I)Z" } : Jvm.MethodName) ∈ wt := wt_of 884 (by decide +kernel) (by decide +kernel)
theorem wm_885 : Cond.code ({ cls := "IceTunes$Reader", name := "isTermSign", desc := "(I)Z" } : Jvm.MethodName) prog_8_method_23_code (1 : Nat) (Option.some Jvm.ClassFile.FieldType.boolean) ∈ wt := wt_of 885 (by decide +kernel) (by decide +kernel)
theorem wm_886 : Cond.methodLink "IceTunes$Reader" (74 : Nat) ({ cls := "IceTunes$Reader", name := "readSilence", desc := "()Z" } : Jvm.MethodName) ∈ wt := wt_of 886 (by decide +kernel) (by decide +kernel)
theorem wm_888 : Cond.instanceMethod ({ cls := "IceTunes$Reader", name := "readSilence", desc := "()Z" } : Jvm.MethodName) ∈ wt := wt_of 888 (by decide +kernel) (by decide +kernel)
theorem wm_889 : Cond.code ({ cls := "IceTunes$Reader", name := "readSilence", desc := "()Z" } : Jvm.MethodName) prog_8_method_15_code (2 : Nat) (Option.some Jvm.ClassFile.FieldType.boolean) ∈ wt := wt_of 889 (by decide +kernel) (by decide +kernel)
theorem wm_890 : Cond.methodLink "IceTunes$Reader" (77 : Nat) ({ cls := "IceTunes$Reader", name := "readSkater", desc := "()Z" } : Jvm.MethodName) ∈ wt := wt_of 890 (by decide +kernel) (by decide +kernel)
theorem wm_892 : Cond.instanceMethod ({ cls := "IceTunes$Reader", name := "readSkater", desc := "()Z" } : Jvm.MethodName) ∈ wt := wt_of 892 (by decide +kernel) (by decide +kernel)
theorem wm_893 : Cond.code ({ cls := "IceTunes$Reader", name := "readSkater", desc := "()Z" } : Jvm.MethodName) prog_8_method_16_code (3 : Nat) (Option.some Jvm.ClassFile.FieldType.boolean) ∈ wt := wt_of 893 (by decide +kernel) (by decide +kernel)
theorem nm_894 : Cond.methodLinkNest "IceTunes" (115 : Nat) ({ cls := "IceTunes$History", name := "forget", desc := "()V" } : Jvm.MethodName) "IceTunes" ∈ nw := nw_of 894 (by decide +kernel) rfl
theorem wm_896 : Cond.instanceMethod ({ cls := "IceTunes$History", name := "forget", desc := "()V" } : Jvm.MethodName) ∈ wt := wt_of 896 (by decide +kernel) (by decide +kernel)
theorem wm_897 : Cond.code ({ cls := "IceTunes$History", name := "forget", desc := "()V" } : Jvm.MethodName) prog_6_method_6_code (1 : Nat) (Option.none : Option Jvm.ClassFile.FieldType) ∈ wt := wt_of 897 (by decide +kernel) (by decide +kernel)
theorem nm_898 : Cond.methodLinkNest "IceTunes" (118 : Nat) ({ cls := "IceTunes$Sights", name := "clear", desc := "()V" } : Jvm.MethodName) "IceTunes" ∈ nw := nw_of 898 (by decide +kernel) rfl
theorem wm_900 : Cond.instanceMethod ({ cls := "IceTunes$Sights", name := "clear", desc := "()V" } : Jvm.MethodName) ∈ wt := wt_of 900 (by decide +kernel) (by decide +kernel)
theorem wm_901 : Cond.code ({ cls := "IceTunes$Sights", name := "clear", desc := "()V" } : Jvm.MethodName) prog_10_method_2_code (1 : Nat) (Option.none : Option Jvm.ClassFile.FieldType) ∈ wt := wt_of 901 (by decide +kernel) (by decide +kernel)
theorem wm_902 : Cond.methodLink "IceTunesLaw" (28 : Nat) ({ cls := "IceTunes", name := "fault", desc := "(I)I" } : Jvm.MethodName) ∈ wt := wt_of 902 (by decide +kernel) (by decide +kernel)
theorem wm_903 : Cond.instanceMethod ({ cls := "IceTunes", name := "fault", desc := "(I)I" } : Jvm.MethodName) ∈ wt := wt_of 903 (by decide +kernel) (by decide +kernel)
theorem wm_904 : Cond.selects "IceTunes" ({ cls := "IceTunes", name := "fault", desc := "(I)I" } : Jvm.MethodName) ({ cls := "IceTunes", name := "fault", desc := "(I)I" } : Jvm.MethodName) ∈ wt := wt_of 904 (by decide +kernel) (by decide +kernel)
theorem wm_905 : Cond.code ({ cls := "IceTunes", name := "fault", desc := "(I)I" } : Jvm.MethodName) prog_1_method_6_code (2 : Nat) (Option.some Jvm.ClassFile.FieldType.int) ∈ wt := wt_of 905 (by decide +kernel) (by decide +kernel)
theorem wm_906 : Cond.methodLink "IceTunesLaw" (32 : Nat) ({ cls := "IceTunes", name := "ice", desc := "(II)I" } : Jvm.MethodName) ∈ wt := wt_of 906 (by decide +kernel) (by decide +kernel)
theorem wm_907 : Cond.instanceMethod ({ cls := "IceTunes", name := "ice", desc := "(II)I" } : Jvm.MethodName) ∈ wt := wt_of 907 (by decide +kernel) (by decide +kernel)
theorem wm_908 : Cond.selects "IceTunes" ({ cls := "IceTunes", name := "ice", desc := "(II)I" } : Jvm.MethodName) ({ cls := "IceTunes", name := "ice", desc := "(II)I" } : Jvm.MethodName) ∈ wt := wt_of 908 (by decide +kernel) (by decide +kernel)
theorem wm_909 : Cond.code ({ cls := "IceTunes", name := "ice", desc := "(II)I" } : Jvm.MethodName) prog_1_method_7_code (3 : Nat) (Option.some Jvm.ClassFile.FieldType.int) ∈ wt := wt_of 909 (by decide +kernel) (by decide +kernel)
theorem nm_910 : Cond.methodLinkNest "IceTunes" (136 : Nat) ({ cls := "IceTunes$Pond", name := "hasCell", desc := "(II)Z" } : Jvm.MethodName) "IceTunes" ∈ nw := nw_of 910 (by decide +kernel) rfl
theorem wm_911 : Cond.methodLink "IceTunesLaw" (37 : Nat) ({ cls := "IceTunes", name := "load", desc := "(II)I" } : Jvm.MethodName) ∈ wt := wt_of 911 (by decide +kernel) (by decide +kernel)
theorem wm_912 : Cond.instanceMethod ({ cls := "IceTunes", name := "load", desc := "(II)I" } : Jvm.MethodName) ∈ wt := wt_of 912 (by decide +kernel) (by decide +kernel)
theorem wm_913 : Cond.selects "IceTunes" ({ cls := "IceTunes", name := "load", desc := "(II)I" } : Jvm.MethodName) ({ cls := "IceTunes", name := "load", desc := "(II)I" } : Jvm.MethodName) ∈ wt := wt_of 913 (by decide +kernel) (by decide +kernel)
theorem wm_914 : Cond.code ({ cls := "IceTunes", name := "load", desc := "(II)I" } : Jvm.MethodName) prog_1_method_8_code (3 : Nat) (Option.some Jvm.ClassFile.FieldType.int) ∈ wt := wt_of 914 (by decide +kernel) (by decide +kernel)
theorem nm_915 : Cond.methodLinkNest "IceTunes" (143 : Nat) ({ cls := "IceTunes$Evening", name := "loadOf", desc := "(ILIceTunes$Pond;)I" } : Jvm.MethodName) "IceTunes" ∈ nw := nw_of 915 (by decide +kernel) rfl
theorem wm_917 : Cond.instanceMethod ({ cls := "IceTunes$Evening", name := "loadOf", desc := "(ILIceTunes$Pond;)I" } : Jvm.MethodName) ∈ wt := wt_of 917 (by decide +kernel) (by decide +kernel)
theorem wm_918 : Cond.code ({ cls := "IceTunes$Evening", name := "loadOf", desc := "(ILIceTunes$Pond;)I" } : Jvm.MethodName) prog_4_method_6_code (5 : Nat) (Option.some Jvm.ClassFile.FieldType.int) ∈ wt := wt_of 918 (by decide +kernel) (by decide +kernel)
theorem wm_919 : Cond.methodLink "IceTunes$Evening" (52 : Nat) ({ cls := "IceTunes$Evening", name := "isUp", desc := "(I)Z" } : Jvm.MethodName) ∈ wt := wt_of 919 (by decide +kernel) (by decide +kernel)
theorem wm_921 : Cond.instanceMethod ({ cls := "IceTunes$Evening", name := "isUp", desc := "(I)Z" } : Jvm.MethodName) ∈ wt := wt_of 921 (by decide +kernel) (by decide +kernel)
theorem wm_922 : Cond.code ({ cls := "IceTunes$Evening", name := "isUp", desc := "(I)Z" } : Jvm.MethodName) prog_4_method_4_code (2 : Nat) (Option.some Jvm.ClassFile.FieldType.boolean) ∈ wt := wt_of 922 (by decide +kernel) (by decide +kernel)
theorem wm_923 : Cond.methodLink "IceTunesLaw" (41 : Nat) ({ cls := "IceTunes", name := "skater", desc := "(II)I" } : Jvm.MethodName) ∈ wt := wt_of 923 (by decide +kernel) (by decide +kernel)
theorem wm_924 : Cond.instanceMethod ({ cls := "IceTunes", name := "skater", desc := "(II)I" } : Jvm.MethodName) ∈ wt := wt_of 924 (by decide +kernel) (by decide +kernel)
theorem wm_925 : Cond.selects "IceTunes" ({ cls := "IceTunes", name := "skater", desc := "(II)I" } : Jvm.MethodName) ({ cls := "IceTunes", name := "skater", desc := "(II)I" } : Jvm.MethodName) ∈ wt := wt_of 925 (by decide +kernel) (by decide +kernel)
theorem wm_926 : Cond.code ({ cls := "IceTunes", name := "skater", desc := "(II)I" } : Jvm.MethodName) prog_1_method_9_code (4 : Nat) (Option.some Jvm.ClassFile.FieldType.int) ∈ wt := wt_of 926 (by decide +kernel) (by decide +kernel)
theorem nm_927 : Cond.methodLinkNest "IceTunes" (147 : Nat) ({ cls := "IceTunes$Pond", name := "hasSkater", desc := "(I)Z" } : Jvm.MethodName) "IceTunes" ∈ nw := nw_of 927 (by decide +kernel) rfl
theorem wm_929 : Cond.instanceMethod ({ cls := "IceTunes$Pond", name := "hasSkater", desc := "(I)Z" } : Jvm.MethodName) ∈ wt := wt_of 929 (by decide +kernel) (by decide +kernel)
theorem wm_930 : Cond.code ({ cls := "IceTunes$Pond", name := "hasSkater", desc := "(I)Z" } : Jvm.MethodName) prog_7_method_6_code (2 : Nat) (Option.some Jvm.ClassFile.FieldType.boolean) ∈ wt := wt_of 930 (by decide +kernel) (by decide +kernel)
theorem nm_931 : Cond.methodLinkNest "IceTunes" (154 : Nat) ({ cls := "IceTunes$Evening", name := "isUp", desc := "(I)Z" } : Jvm.MethodName) "IceTunes" ∈ nw := nw_of 931 (by decide +kernel) rfl
theorem wm_932 : Cond.methodLink "IceTunesLaw" (45 : Nat) ({ cls := "IceTunes", name := "play", desc := "(I)I" } : Jvm.MethodName) ∈ wt := wt_of 932 (by decide +kernel) (by decide +kernel)
theorem wm_933 : Cond.instanceMethod ({ cls := "IceTunes", name := "play", desc := "(I)I" } : Jvm.MethodName) ∈ wt := wt_of 933 (by decide +kernel) (by decide +kernel)
theorem wm_934 : Cond.selects "IceTunes" ({ cls := "IceTunes", name := "play", desc := "(I)I" } : Jvm.MethodName) ({ cls := "IceTunes", name := "play", desc := "(I)I" } : Jvm.MethodName) ∈ wt := wt_of 934 (by decide +kernel) (by decide +kernel)
theorem wm_935 : Cond.code ({ cls := "IceTunes", name := "play", desc := "(I)I" } : Jvm.MethodName) prog_1_method_10_code (3 : Nat) (Option.some Jvm.ClassFile.FieldType.int) ∈ wt := wt_of 935 (by decide +kernel) (by decide +kernel)
theorem nm_936 : Cond.methodLinkNest "IceTunes" (166 : Nat) ({ cls := "IceTunes$Pond", name := "hasTune", desc := "(I)Z" } : Jvm.MethodName) "IceTunes" ∈ nw := nw_of 936 (by decide +kernel) rfl
theorem wm_938 : Cond.instanceMethod ({ cls := "IceTunes$Pond", name := "hasTune", desc := "(I)Z" } : Jvm.MethodName) ∈ wt := wt_of 938 (by decide +kernel) (by decide +kernel)
theorem wm_939 : Cond.code ({ cls := "IceTunes$Pond", name := "hasTune", desc := "(I)Z" } : Jvm.MethodName) prog_7_method_4_code (2 : Nat) (Option.some Jvm.ClassFile.FieldType.boolean) ∈ wt := wt_of 939 (by decide +kernel) (by decide +kernel)
theorem nm_940 : Cond.methodLinkNest "IceTunes" (174 : Nat) ({ cls := "IceTunes$History", name := "goOn", desc := "()LIceTunes$Evening;" } : Jvm.MethodName) "IceTunes" ∈ nw := nw_of 940 (by decide +kernel) rfl
theorem wm_942 : Cond.instanceMethod ({ cls := "IceTunes$History", name := "goOn", desc := "()LIceTunes$Evening;" } : Jvm.MethodName) ∈ wt := wt_of 942 (by decide +kernel) (by decide +kernel)
theorem wm_943 : Cond.code ({ cls := "IceTunes$History", name := "goOn", desc := "()LIceTunes$Evening;" } : Jvm.MethodName) prog_6_method_3_code (2 : Nat) (Option.some (Jvm.ClassFile.FieldType.object "IceTunes$Evening")) ∈ wt := wt_of 943 (by decide +kernel) (by decide +kernel)
theorem wm_944 : Cond.methodLink "IceTunes$History" (23 : Nat) ({ cls := "IceTunes$History", name := "now", desc := "()LIceTunes$Evening;" } : Jvm.MethodName) ∈ wt := wt_of 944 (by decide +kernel) (by decide +kernel)
theorem nm_945 : Cond.methodLinkNest "IceTunes$History" (30 : Nat) ({ cls := "IceTunes$Evening", name := "copy", desc := "(LIceTunes$Evening;)V" } : Jvm.MethodName) "IceTunes" ∈ nw := nw_of 945 (by decide +kernel) rfl
theorem wm_947 : Cond.instanceMethod ({ cls := "IceTunes$Evening", name := "copy", desc := "(LIceTunes$Evening;)V" } : Jvm.MethodName) ∈ wt := wt_of 947 (by decide +kernel) (by decide +kernel)
theorem wm_948 : Cond.code ({ cls := "IceTunes$Evening", name := "copy", desc := "(LIceTunes$Evening;)V" } : Jvm.MethodName) prog_4_method_3_code (2 : Nat) (Option.none : Option Jvm.ClassFile.FieldType) ∈ wt := wt_of 948 (by decide +kernel) (by decide +kernel)
theorem wm_949 : Cond.methodLink "IceTunes$Evening" (46 : Nat) ({ cls := "java/lang/System", name := "arraycopy", desc := "(Ljava/lang/Object;ILjava/lang/Object;II)V" } : Jvm.MethodName) ∈ wt := wt_of 949 (by decide +kernel) (by decide +kernel)
theorem wm_950 : Cond.static ({ cls := "java/lang/System", name := "arraycopy", desc := "(Ljava/lang/Object;ILjava/lang/Object;II)V" } : Jvm.MethodName) ∈ wt := wt_of 950 (by decide +kernel) (by decide +kernel)
theorem wm_951 : Cond.native ({ cls := "java/lang/System", name := "arraycopy", desc := "(Ljava/lang/Object;ILjava/lang/Object;II)V" } : Jvm.MethodName) ∈ wt := wt_of 951 (by decide +kernel) (by decide +kernel)
theorem nm_952 : Cond.methodLinkNest "IceTunes" (177 : Nat) ({ cls := "IceTunes$Band", name := "playTune", desc := "(LIceTunes$Evening;I)V" } : Jvm.MethodName) "IceTunes" ∈ nw := nw_of 952 (by decide +kernel) rfl
theorem wm_954 : Cond.instanceMethod ({ cls := "IceTunes$Band", name := "playTune", desc := "(LIceTunes$Evening;I)V" } : Jvm.MethodName) ∈ wt := wt_of 954 (by decide +kernel) (by decide +kernel)
theorem wm_955 : Cond.code ({ cls := "IceTunes$Band", name := "playTune", desc := "(LIceTunes$Evening;I)V" } : Jvm.MethodName) prog_2_method_2_code (4 : Nat) (Option.none : Option Jvm.ClassFile.FieldType) ∈ wt := wt_of 955 (by decide +kernel) (by decide +kernel)
theorem wm_956 : Cond.methodLink "IceTunes$Band" (30 : Nat) ({ cls := "IceTunes$Band", name := "playBar", desc := "(LIceTunes$Evening;II)Z" } : Jvm.MethodName) ∈ wt := wt_of 956 (by decide +kernel) (by decide +kernel)
theorem wm_958 : Cond.instanceMethod ({ cls := "IceTunes$Band", name := "playBar", desc := "(LIceTunes$Evening;II)Z" } : Jvm.MethodName) ∈ wt := wt_of 958 (by decide +kernel) (by decide +kernel)
theorem wm_959 : Cond.code ({ cls := "IceTunes$Band", name := "playBar", desc := "(LIceTunes$Evening;II)Z" } : Jvm.MethodName) prog_2_method_4_code (5 : Nat) (Option.some Jvm.ClassFile.FieldType.boolean) ∈ wt := wt_of 959 (by decide +kernel) (by decide +kernel)
theorem wm_960 : Cond.methodLink "IceTunes$Band" (34 : Nat) ({ cls := "IceTunes$Band", name := "stepAll", desc := "(LIceTunes$Evening;)V" } : Jvm.MethodName) ∈ wt := wt_of 960 (by decide +kernel) (by decide +kernel)
theorem wm_962 : Cond.instanceMethod ({ cls := "IceTunes$Band", name := "stepAll", desc := "(LIceTunes$Evening;)V" } : Jvm.MethodName) ∈ wt := wt_of 962 (by decide +kernel) (by decide +kernel)
theorem wm_963 : Cond.code ({ cls := "IceTunes$Band", name := "stepAll", desc := "(LIceTunes$Evening;)V" } : Jvm.MethodName) prog_2_method_5_code (4 : Nat) (Option.none : Option Jvm.ClassFile.FieldType) ∈ wt := wt_of 963 (by decide +kernel) (by decide +kernel)
theorem nm_964 : Cond.methodLinkNest "IceTunes$Band" (53 : Nat) ({ cls := "IceTunes$Evening", name := "isUp", desc := "(I)Z" } : Jvm.MethodName) "IceTunes" ∈ nw := nw_of 964 (by decide +kernel) rfl
theorem nm_965 : Cond.methodLinkNest "IceTunes$Band" (60 : Nat) ({ cls := "IceTunes$Pond", name := "stepOf", desc := "(II)I" } : Jvm.MethodName) "IceTunes" ∈ nw := nw_of 965 (by decide +kernel) rfl
theorem wm_967 : Cond.instanceMethod ({ cls := "IceTunes$Pond", name := "stepOf", desc := "(II)I" } : Jvm.MethodName) ∈ wt := wt_of 967 (by decide +kernel) (by decide +kernel)
theorem wm_968 : Cond.code ({ cls := "IceTunes$Pond", name := "stepOf", desc := "(II)I" } : Jvm.MethodName) prog_7_method_8_code (4 : Nat) (Option.some Jvm.ClassFile.FieldType.int) ∈ wt := wt_of 968 (by decide +kernel) (by decide +kernel)
theorem nm_969 : Cond.methodLinkNest "IceTunes$Band" (64 : Nat) ({ cls := "IceTunes$Pond", name := "beside", desc := "(II)I" } : Jvm.MethodName) "IceTunes" ∈ nw := nw_of 969 (by decide +kernel) rfl
theorem wm_971 : Cond.instanceMethod ({ cls := "IceTunes$Pond", name := "beside", desc := "(II)I" } : Jvm.MethodName) ∈ wt := wt_of 971 (by decide +kernel) (by decide +kernel)
theorem wm_972 : Cond.code ({ cls := "IceTunes$Pond", name := "beside", desc := "(II)I" } : Jvm.MethodName) prog_7_method_9_code (5 : Nat) (Option.some Jvm.ClassFile.FieldType.int) ∈ wt := wt_of 972 (by decide +kernel) (by decide +kernel)
theorem wm_973 : Cond.methodLink "IceTunes$Pond" (78 : Nat) ({ cls := "IceTunes$Pond", name := "hasCell", desc := "(II)Z" } : Jvm.MethodName) ∈ wt := wt_of 973 (by decide +kernel) (by decide +kernel)
theorem wm_974 : Cond.methodLink "IceTunes$Band" (38 : Nat) ({ cls := "IceTunes$Band", name := "freeze", desc := "(LIceTunes$Evening;II)V" } : Jvm.MethodName) ∈ wt := wt_of 974 (by decide +kernel) (by decide +kernel)
theorem wm_976 : Cond.instanceMethod ({ cls := "IceTunes$Band", name := "freeze", desc := "(LIceTunes$Evening;II)V" } : Jvm.MethodName) ∈ wt := wt_of 976 (by decide +kernel) (by decide +kernel)
theorem wm_977 : Cond.code ({ cls := "IceTunes$Band", name := "freeze", desc := "(LIceTunes$Evening;II)V" } : Jvm.MethodName) prog_2_method_6_code (11 : Nat) (Option.none : Option Jvm.ClassFile.FieldType) ∈ wt := wt_of 977 (by decide +kernel) (by decide +kernel)
theorem wm_978 : Cond.methodLink "IceTunes$Band" (93 : Nat) ({ cls := "IceTunes$Band", name := "iceAround", desc := "(LIceTunes$Evening;II)I" } : Jvm.MethodName) ∈ wt := wt_of 978 (by decide +kernel) (by decide +kernel)
theorem wm_980 : Cond.instanceMethod ({ cls := "IceTunes$Band", name := "iceAround", desc := "(LIceTunes$Evening;II)I" } : Jvm.MethodName) ∈ wt := wt_of 980 (by decide +kernel) (by decide +kernel)
theorem wm_981 : Cond.code ({ cls := "IceTunes$Band", name := "iceAround", desc := "(LIceTunes$Evening;II)I" } : Jvm.MethodName) prog_2_method_7_code (6 : Nat) (Option.some Jvm.ClassFile.FieldType.int) ∈ wt := wt_of 981 (by decide +kernel) (by decide +kernel)
theorem wm_982 : Cond.methodLink "IceTunes$Band" (100 : Nat) ({ cls := "IceTunes$Band", name := "workOut", desc := "(II)I" } : Jvm.MethodName) ∈ wt := wt_of 982 (by decide +kernel) (by decide +kernel)
theorem wm_984 : Cond.instanceMethod ({ cls := "IceTunes$Band", name := "workOut", desc := "(II)I" } : Jvm.MethodName) ∈ wt := wt_of 984 (by decide +kernel) (by decide +kernel)
theorem wm_985 : Cond.code ({ cls := "IceTunes$Band", name := "workOut", desc := "(II)I" } : Jvm.MethodName) prog_2_method_8_code (6 : Nat) (Option.some Jvm.ClassFile.FieldType.int) ∈ wt := wt_of 985 (by decide +kernel) (by decide +kernel)
theorem wm_986 : Cond.methodLink "IceTunes$Band" (122 : Nat) ({ cls := "IceTunes$Band", name := "look", desc := "(I)I" } : Jvm.MethodName) ∈ wt := wt_of 986 (by decide +kernel) (by decide +kernel)
theorem wm_988 : Cond.instanceMethod ({ cls := "IceTunes$Band", name := "look", desc := "(I)I" } : Jvm.MethodName) ∈ wt := wt_of 988 (by decide +kernel) (by decide +kernel)
theorem wm_989 : Cond.code ({ cls := "IceTunes$Band", name := "look", desc := "(I)I" } : Jvm.MethodName) prog_2_method_9_code (2 : Nat) (Option.some Jvm.ClassFile.FieldType.int) ∈ wt := wt_of 989 (by decide +kernel) (by decide +kernel)
theorem wm_990 : Cond.methodLink "IceTunes$Band" (126 : Nat) ({ cls := "IceTunes$Band", name := "join", desc := "(III)I" } : Jvm.MethodName) ∈ wt := wt_of 990 (by decide +kernel) (by decide +kernel)
theorem wm_991 : Cond.static ({ cls := "IceTunes$Band", name := "join", desc := "(III)I" } : Jvm.MethodName) ∈ wt := wt_of 991 (by decide +kernel) (by decide +kernel)
theorem wm_992 : Cond.code ({ cls := "IceTunes$Band", name := "join", desc := "(III)I" } : Jvm.MethodName) prog_2_method_10_code (3 : Nat) (Option.some Jvm.ClassFile.FieldType.int) ∈ wt := wt_of 992 (by decide +kernel) (by decide +kernel)
theorem wm_993 : Cond.methodLink "IceTunes$Band" (103 : Nat) ({ cls := "java/lang/Math", name := "min", desc := "(II)I" } : Jvm.MethodName) ∈ wt := wt_of 993 (by decide +kernel) (by decide +kernel)
theorem wm_994 : Cond.methodLink "IceTunes$Band" (108 : Nat) ({ cls := "java/lang/Math", name := "max", desc := "(II)I" } : Jvm.MethodName) ∈ wt := wt_of 994 (by decide +kernel) (by decide +kernel)
theorem wm_995 : Cond.methodLink "IceTunes$Band" (111 : Nat) ({ cls := "java/lang/System", name := "arraycopy", desc := "(Ljava/lang/Object;ILjava/lang/Object;II)V" } : Jvm.MethodName) ∈ wt := wt_of 995 (by decide +kernel) (by decide +kernel)
theorem wm_996 : Cond.methodLink "IceTunes$Band" (42 : Nat) ({ cls := "IceTunes$Band", name := "breakCells", desc := "(LIceTunes$Evening;II)Z" } : Jvm.MethodName) ∈ wt := wt_of 996 (by decide +kernel) (by decide +kernel)
theorem wm_998 : Cond.instanceMethod ({ cls := "IceTunes$Band", name := "breakCells", desc := "(LIceTunes$Evening;II)Z" } : Jvm.MethodName) ∈ wt := wt_of 998 (by decide +kernel) (by decide +kernel)
theorem wm_999 : Cond.code ({ cls := "IceTunes$Band", name := "breakCells", desc := "(LIceTunes$Evening;II)Z" } : Jvm.MethodName) prog_2_method_12_code (6 : Nat) (Option.some Jvm.ClassFile.FieldType.boolean) ∈ wt := wt_of 999 (by decide +kernel) (by decide +kernel)
theorem wm_1000 : Cond.methodLink "IceTunes$Band" (134 : Nat) ({ cls := "IceTunes$Band", name := "isTooHeavy", desc := "(LIceTunes$Evening;I)Z" } : Jvm.MethodName) ∈ wt := wt_of 1000 (by decide +kernel) (by decide +kernel)
theorem wm_1002 : Cond.instanceMethod ({ cls := "IceTunes$Band", name := "isTooHeavy", desc := "(LIceTunes$Evening;I)Z" } : Jvm.MethodName) ∈ wt := wt_of 1002 (by decide +kernel) (by decide +kernel)
theorem wm_1003 : Cond.code ({ cls := "IceTunes$Band", name := "isTooHeavy", desc := "(LIceTunes$Evening;I)Z" } : Jvm.MethodName) prog_2_method_11_code (3 : Nat) (Option.some Jvm.ClassFile.FieldType.boolean) ∈ wt := wt_of 1003 (by decide +kernel) (by decide +kernel)
theorem wm_1004 : Cond.methodLink "IceTunes$Band" (138 : Nat) ({ cls := "IceTunes$Band", name := "sink", desc := "(LIceTunes$Evening;III)V" } : Jvm.MethodName) ∈ wt := wt_of 1004 (by decide +kernel) (by decide +kernel)
theorem wm_1006 : Cond.instanceMethod ({ cls := "IceTunes$Band", name := "sink", desc := "(LIceTunes$Evening;III)V" } : Jvm.MethodName) ∈ wt := wt_of 1006 (by decide +kernel) (by decide +kernel)
theorem wm_1007 : Cond.code ({ cls := "IceTunes$Band", name := "sink", desc := "(LIceTunes$Evening;III)V" } : Jvm.MethodName) prog_2_method_13_code (6 : Nat) (Option.none : Option Jvm.ClassFile.FieldType) ∈ wt := wt_of 1007 (by decide +kernel) (by decide +kernel)
theorem nm_1008 : Cond.methodLinkNest "IceTunes" (181 : Nat) ({ cls := "IceTunes$Evening", name := "countUp", desc := "(LIceTunes$Pond;)I" } : Jvm.MethodName) "IceTunes" ∈ nw := nw_of 1008 (by decide +kernel) rfl
theorem wm_1010 : Cond.instanceMethod ({ cls := "IceTunes$Evening", name := "countUp", desc := "(LIceTunes$Pond;)I" } : Jvm.MethodName) ∈ wt := wt_of 1010 (by decide +kernel) (by decide +kernel)
theorem wm_1011 : Cond.code ({ cls := "IceTunes$Evening", name := "countUp", desc := "(LIceTunes$Pond;)I" } : Jvm.MethodName) prog_4_method_5_code (2 : Nat) (Option.some Jvm.ClassFile.FieldType.int) ∈ wt := wt_of 1011 (by decide +kernel) (by decide +kernel)
theorem wm_1012 : Cond.methodLink "IceTunesLaw" (49 : Nat) ({ cls := "IceTunes", name := "hold", desc := "(I)I" } : Jvm.MethodName) ∈ wt := wt_of 1012 (by decide +kernel) (by decide +kernel)
theorem wm_1013 : Cond.instanceMethod ({ cls := "IceTunes", name := "hold", desc := "(I)I" } : Jvm.MethodName) ∈ wt := wt_of 1013 (by decide +kernel) (by decide +kernel)
theorem wm_1014 : Cond.selects "IceTunes" ({ cls := "IceTunes", name := "hold", desc := "(I)I" } : Jvm.MethodName) ({ cls := "IceTunes", name := "hold", desc := "(I)I" } : Jvm.MethodName) ∈ wt := wt_of 1014 (by decide +kernel) (by decide +kernel)
theorem wm_1015 : Cond.code ({ cls := "IceTunes", name := "hold", desc := "(I)I" } : Jvm.MethodName) prog_1_method_11_code (3 : Nat) (Option.some Jvm.ClassFile.FieldType.int) ∈ wt := wt_of 1015 (by decide +kernel) (by decide +kernel)
theorem nm_1016 : Cond.methodLinkNest "IceTunes" (185 : Nat) ({ cls := "IceTunes$Band", name := "keepSilence", desc := "(LIceTunes$Evening;I)V" } : Jvm.MethodName) "IceTunes" ∈ nw := nw_of 1016 (by decide +kernel) rfl
theorem wm_1018 : Cond.instanceMethod ({ cls := "IceTunes$Band", name := "keepSilence", desc := "(LIceTunes$Evening;I)V" } : Jvm.MethodName) ∈ wt := wt_of 1018 (by decide +kernel) (by decide +kernel)
theorem wm_1019 : Cond.code ({ cls := "IceTunes$Band", name := "keepSilence", desc := "(LIceTunes$Evening;I)V" } : Jvm.MethodName) prog_2_method_3_code (4 : Nat) (Option.none : Option Jvm.ClassFile.FieldType) ∈ wt := wt_of 1019 (by decide +kernel) (by decide +kernel)
theorem wm_1020 : Cond.methodLink "IceTunesLaw" (53 : Nat) ({ cls := "IceTunes", name := "undo", desc := "()Z" } : Jvm.MethodName) ∈ wt := wt_of 1020 (by decide +kernel) (by decide +kernel)
theorem wm_1021 : Cond.instanceMethod ({ cls := "IceTunes", name := "undo", desc := "()Z" } : Jvm.MethodName) ∈ wt := wt_of 1021 (by decide +kernel) (by decide +kernel)
theorem wm_1022 : Cond.selects "IceTunes" ({ cls := "IceTunes", name := "undo", desc := "()Z" } : Jvm.MethodName) ({ cls := "IceTunes", name := "undo", desc := "()Z" } : Jvm.MethodName) ∈ wt := wt_of 1022 (by decide +kernel) (by decide +kernel)
theorem wm_1023 : Cond.code ({ cls := "IceTunes", name := "undo", desc := "()Z" } : Jvm.MethodName) prog_1_method_12_code (1 : Nat) (Option.some Jvm.ClassFile.FieldType.boolean) ∈ wt := wt_of 1023 (by decide +kernel) (by decide +kernel)
theorem nm_1024 : Cond.methodLinkNest "IceTunes" (188 : Nat) ({ cls := "IceTunes$History", name := "takeBack", desc := "()Z" } : Jvm.MethodName) "IceTunes" ∈ nw := nw_of 1024 (by decide +kernel) rfl
theorem wm_1026 : Cond.instanceMethod ({ cls := "IceTunes$History", name := "takeBack", desc := "()Z" } : Jvm.MethodName) ∈ wt := wt_of 1026 (by decide +kernel) (by decide +kernel)
theorem wm_1027 : Cond.code ({ cls := "IceTunes$History", name := "takeBack", desc := "()Z" } : Jvm.MethodName) prog_6_method_4_code (1 : Nat) (Option.some Jvm.ClassFile.FieldType.boolean) ∈ wt := wt_of 1027 (by decide +kernel) (by decide +kernel)
theorem wm_1028 : Cond.methodLink "IceTunesLaw" (58 : Nat) ({ cls := "IceTunes", name := "redo", desc := "()Z" } : Jvm.MethodName) ∈ wt := wt_of 1028 (by decide +kernel) (by decide +kernel)
theorem wm_1029 : Cond.instanceMethod ({ cls := "IceTunes", name := "redo", desc := "()Z" } : Jvm.MethodName) ∈ wt := wt_of 1029 (by decide +kernel) (by decide +kernel)
theorem wm_1030 : Cond.selects "IceTunes" ({ cls := "IceTunes", name := "redo", desc := "()Z" } : Jvm.MethodName) ({ cls := "IceTunes", name := "redo", desc := "()Z" } : Jvm.MethodName) ∈ wt := wt_of 1030 (by decide +kernel) (by decide +kernel)
theorem wm_1031 : Cond.code ({ cls := "IceTunes", name := "redo", desc := "()Z" } : Jvm.MethodName) prog_1_method_13_code (1 : Nat) (Option.some Jvm.ClassFile.FieldType.boolean) ∈ wt := wt_of 1031 (by decide +kernel) (by decide +kernel)
theorem nm_1032 : Cond.methodLinkNest "IceTunes" (192 : Nat) ({ cls := "IceTunes$History", name := "doAgain", desc := "()Z" } : Jvm.MethodName) "IceTunes" ∈ nw := nw_of 1032 (by decide +kernel) rfl
theorem wm_1034 : Cond.instanceMethod ({ cls := "IceTunes$History", name := "doAgain", desc := "()Z" } : Jvm.MethodName) ∈ wt := wt_of 1034 (by decide +kernel) (by decide +kernel)
theorem wm_1035 : Cond.code ({ cls := "IceTunes$History", name := "doAgain", desc := "()Z" } : Jvm.MethodName) prog_6_method_5_code (1 : Nat) (Option.some Jvm.ClassFile.FieldType.boolean) ∈ wt := wt_of 1035 (by decide +kernel) (by decide +kernel)
theorem wm_1036 : Cond.methodLink "IceTunesLaw" (62 : Nat) ({ cls := "IceTunes", name := "order", desc := "(I)I" } : Jvm.MethodName) ∈ wt := wt_of 1036 (by decide +kernel) (by decide +kernel)
theorem wm_1037 : Cond.instanceMethod ({ cls := "IceTunes", name := "order", desc := "(I)I" } : Jvm.MethodName) ∈ wt := wt_of 1037 (by decide +kernel) (by decide +kernel)
theorem wm_1038 : Cond.selects "IceTunes" ({ cls := "IceTunes", name := "order", desc := "(I)I" } : Jvm.MethodName) ({ cls := "IceTunes", name := "order", desc := "(I)I" } : Jvm.MethodName) ∈ wt := wt_of 1038 (by decide +kernel) (by decide +kernel)
theorem wm_1039 : Cond.code ({ cls := "IceTunes", name := "order", desc := "(I)I" } : Jvm.MethodName) prog_1_method_14_code (3 : Nat) (Option.some Jvm.ClassFile.FieldType.int) ∈ wt := wt_of 1039 (by decide +kernel) (by decide +kernel)
theorem nm_1040 : Cond.methodLinkNest "IceTunes" (195 : Nat) ({ cls := "IceTunes$Pond", name := "hasTunes", desc := "(I)Z" } : Jvm.MethodName) "IceTunes" ∈ nw := nw_of 1040 (by decide +kernel) rfl
theorem wm_1042 : Cond.instanceMethod ({ cls := "IceTunes$Pond", name := "hasTunes", desc := "(I)Z" } : Jvm.MethodName) ∈ wt := wt_of 1042 (by decide +kernel) (by decide +kernel)
theorem wm_1043 : Cond.code ({ cls := "IceTunes$Pond", name := "hasTunes", desc := "(I)Z" } : Jvm.MethodName) prog_7_method_5_code (2 : Nat) (Option.some Jvm.ClassFile.FieldType.boolean) ∈ wt := wt_of 1043 (by decide +kernel) (by decide +kernel)
theorem nm_1044 : Cond.methodLinkNest "IceTunes" (198 : Nat) ({ cls := "IceTunes$Forecast", name := "fewestIn", desc := "(LIceTunes$Evening;I)I" } : Jvm.MethodName) "IceTunes" ∈ nw := nw_of 1044 (by decide +kernel) rfl
theorem wm_1046 : Cond.instanceMethod ({ cls := "IceTunes$Forecast", name := "fewestIn", desc := "(LIceTunes$Evening;I)I" } : Jvm.MethodName) ∈ wt := wt_of 1046 (by decide +kernel) (by decide +kernel)
theorem wm_1047 : Cond.code ({ cls := "IceTunes$Forecast", name := "fewestIn", desc := "(LIceTunes$Evening;I)I" } : Jvm.MethodName) prog_5_method_2_code (3 : Nat) (Option.some Jvm.ClassFile.FieldType.int) ∈ wt := wt_of 1047 (by decide +kernel) (by decide +kernel)
theorem nm_1048 : Cond.methodLinkNest "IceTunes$Forecast" (30 : Nat) ({ cls := "IceTunes$Evening", name := "copy", desc := "(LIceTunes$Evening;)V" } : Jvm.MethodName) "IceTunes" ∈ nw := nw_of 1048 (by decide +kernel) rfl
theorem wm_1049 : Cond.methodLink "IceTunes$Forecast" (36 : Nat) ({ cls := "IceTunes$Forecast", name := "arrange", desc := "(II)V" } : Jvm.MethodName) ∈ wt := wt_of 1049 (by decide +kernel) (by decide +kernel)
theorem wm_1051 : Cond.instanceMethod ({ cls := "IceTunes$Forecast", name := "arrange", desc := "(II)V" } : Jvm.MethodName) ∈ wt := wt_of 1051 (by decide +kernel) (by decide +kernel)
theorem wm_1052 : Cond.code ({ cls := "IceTunes$Forecast", name := "arrange", desc := "(II)V" } : Jvm.MethodName) prog_5_method_3_code (5 : Nat) (Option.none : Option Jvm.ClassFile.FieldType) ∈ wt := wt_of 1052 (by decide +kernel) (by decide +kernel)
theorem wm_1053 : Cond.methodLink "IceTunes$Forecast" (43 : Nat) ({ cls := "java/lang/System", name := "arraycopy", desc := "(Ljava/lang/Object;ILjava/lang/Object;II)V" } : Jvm.MethodName) ∈ wt := wt_of 1053 (by decide +kernel) (by decide +kernel)
theorem nm_1054 : Cond.methodLinkNest "IceTunes$Forecast" (49 : Nat) ({ cls := "IceTunes$Band", name := "playTune", desc := "(LIceTunes$Evening;I)V" } : Jvm.MethodName) "IceTunes" ∈ nw := nw_of 1054 (by decide +kernel) rfl
theorem wm_1055 : Cond.methodLink "IceTunes" (205 : Nat) ({ cls := "java/lang/Integer", name := "bitCount", desc := "(I)I" } : Jvm.MethodName) ∈ wt := wt_of 1055 (by decide +kernel) (by decide +kernel)
theorem wm_1056 : Cond.static ({ cls := "java/lang/Integer", name := "bitCount", desc := "(I)I" } : Jvm.MethodName) ∈ wt := wt_of 1056 (by decide +kernel) (by decide +kernel)
theorem wm_1057 : Cond.code ({ cls := "java/lang/Integer", name := "bitCount", desc := "(I)I" } : Jvm.MethodName) prog_15_method_49_code (1 : Nat) (Option.some Jvm.ClassFile.FieldType.int) ∈ wt := wt_of 1057 (by decide +kernel) (by decide +kernel)
theorem wm_1058 : Cond.constant "java/lang/Integer" (265 : Nat) (1431655765 : Int32) ∈ wt := wt_of 1058 (by decide +kernel) (by decide +kernel)
theorem wm_1059 : Cond.constant "java/lang/Integer" (266 : Nat) (858993459 : Int32) ∈ wt := wt_of 1059 (by decide +kernel) (by decide +kernel)
theorem wm_1060 : Cond.constant "java/lang/Integer" (267 : Nat) (252645135 : Int32) ∈ wt := wt_of 1060 (by decide +kernel) (by decide +kernel)
theorem wm_1061 : Cond.methodLink "IceTunes" (211 : Nat) ({ cls := "IceTunes", name := "layDown", desc := "([II)V" } : Jvm.MethodName) ∈ wt := wt_of 1061 (by decide +kernel) (by decide +kernel)
theorem wm_1063 : Cond.instanceMethod ({ cls := "IceTunes", name := "layDown", desc := "([II)V" } : Jvm.MethodName) ∈ wt := wt_of 1063 (by decide +kernel) (by decide +kernel)
theorem wm_1064 : Cond.code ({ cls := "IceTunes", name := "layDown", desc := "([II)V" } : Jvm.MethodName) prog_1_method_20_code (4 : Nat) (Option.none : Option Jvm.ClassFile.FieldType) ∈ wt := wt_of 1064 (by decide +kernel) (by decide +kernel)
theorem wm_1065 : Cond.methodLink "IceTunesLaw" (66 : Nat) ({ cls := "IceTunes", name := "duel", desc := "(III)I" } : Jvm.MethodName) ∈ wt := wt_of 1065 (by decide +kernel) (by decide +kernel)
theorem wm_1066 : Cond.instanceMethod ({ cls := "IceTunes", name := "duel", desc := "(III)I" } : Jvm.MethodName) ∈ wt := wt_of 1066 (by decide +kernel) (by decide +kernel)
theorem wm_1067 : Cond.selects "IceTunes" ({ cls := "IceTunes", name := "duel", desc := "(III)I" } : Jvm.MethodName) ({ cls := "IceTunes", name := "duel", desc := "(III)I" } : Jvm.MethodName) ∈ wt := wt_of 1067 (by decide +kernel) (by decide +kernel)
theorem wm_1068 : Cond.code ({ cls := "IceTunes", name := "duel", desc := "(III)I" } : Jvm.MethodName) prog_1_method_15_code (5 : Nat) (Option.some Jvm.ClassFile.FieldType.int) ∈ wt := wt_of 1068 (by decide +kernel) (by decide +kernel)
theorem nm_1069 : Cond.methodLinkNest "IceTunes" (215 : Nat) ({ cls := "IceTunes$Duel", name := "mostUp", desc := "(LIceTunes$Evening;II)I" } : Jvm.MethodName) "IceTunes" ∈ nw := nw_of 1069 (by decide +kernel) rfl
theorem wm_1071 : Cond.instanceMethod ({ cls := "IceTunes$Duel", name := "mostUp", desc := "(LIceTunes$Evening;II)I" } : Jvm.MethodName) ∈ wt := wt_of 1071 (by decide +kernel) (by decide +kernel)
theorem wm_1072 : Cond.code ({ cls := "IceTunes$Duel", name := "mostUp", desc := "(LIceTunes$Evening;II)I" } : Jvm.MethodName) prog_3_method_2_code (4 : Nat) (Option.some Jvm.ClassFile.FieldType.int) ∈ wt := wt_of 1072 (by decide +kernel) (by decide +kernel)
theorem nm_1073 : Cond.methodLinkNest "IceTunes$Duel" (29 : Nat) ({ cls := "IceTunes$Evening", name := "copy", desc := "(LIceTunes$Evening;)V" } : Jvm.MethodName) "IceTunes" ∈ nw := nw_of 1073 (by decide +kernel) rfl
theorem nm_1074 : Cond.methodLinkNest "IceTunes$Duel" (41 : Nat) ({ cls := "IceTunes$Evening", name := "countUp", desc := "(LIceTunes$Pond;)I" } : Jvm.MethodName) "IceTunes" ∈ nw := nw_of 1074 (by decide +kernel) rfl
theorem wm_1075 : Cond.methodLink "IceTunes$Duel" (45 : Nat) ({ cls := "IceTunes$Duel", name := "chooseMost", desc := "(III)I" } : Jvm.MethodName) ∈ wt := wt_of 1075 (by decide +kernel) (by decide +kernel)
theorem wm_1077 : Cond.instanceMethod ({ cls := "IceTunes$Duel", name := "chooseMost", desc := "(III)I" } : Jvm.MethodName) ∈ wt := wt_of 1077 (by decide +kernel) (by decide +kernel)
theorem wm_1078 : Cond.code ({ cls := "IceTunes$Duel", name := "chooseMost", desc := "(III)I" } : Jvm.MethodName) prog_3_method_3_code (7 : Nat) (Option.some Jvm.ClassFile.FieldType.int) ∈ wt := wt_of 1078 (by decide +kernel) (by decide +kernel)
theorem wm_1079 : Cond.methodLink "IceTunes$Duel" (49 : Nat) ({ cls := "java/lang/Math", name := "max", desc := "(II)I" } : Jvm.MethodName) ∈ wt := wt_of 1079 (by decide +kernel) (by decide +kernel)
theorem wm_1080 : Cond.methodLink "IceTunes$Duel" (55 : Nat) ({ cls := "IceTunes$Duel", name := "tryTune", desc := "(IIII)I" } : Jvm.MethodName) ∈ wt := wt_of 1080 (by decide +kernel) (by decide +kernel)
theorem wm_1082 : Cond.instanceMethod ({ cls := "IceTunes$Duel", name := "tryTune", desc := "(IIII)I" } : Jvm.MethodName) ∈ wt := wt_of 1082 (by decide +kernel) (by decide +kernel)
theorem wm_1083 : Cond.code ({ cls := "IceTunes$Duel", name := "tryTune", desc := "(IIII)I" } : Jvm.MethodName) prog_3_method_5_code (7 : Nat) (Option.some Jvm.ClassFile.FieldType.int) ∈ wt := wt_of 1083 (by decide +kernel) (by decide +kernel)
theorem nm_1084 : Cond.methodLinkNest "IceTunes$Duel" (62 : Nat) ({ cls := "IceTunes$Band", name := "playTune", desc := "(LIceTunes$Evening;I)V" } : Jvm.MethodName) "IceTunes" ∈ nw := nw_of 1084 (by decide +kernel) rfl
theorem wm_1085 : Cond.methodLink "IceTunes$Duel" (66 : Nat) ({ cls := "IceTunes$Duel", name := "chooseLeast", desc := "(III)I" } : Jvm.MethodName) ∈ wt := wt_of 1085 (by decide +kernel) (by decide +kernel)
theorem wm_1087 : Cond.instanceMethod ({ cls := "IceTunes$Duel", name := "chooseLeast", desc := "(III)I" } : Jvm.MethodName) ∈ wt := wt_of 1087 (by decide +kernel) (by decide +kernel)
theorem wm_1088 : Cond.code ({ cls := "IceTunes$Duel", name := "chooseLeast", desc := "(III)I" } : Jvm.MethodName) prog_3_method_4_code (6 : Nat) (Option.some Jvm.ClassFile.FieldType.int) ∈ wt := wt_of 1088 (by decide +kernel) (by decide +kernel)
theorem wm_1089 : Cond.methodLink "IceTunes$Duel" (59 : Nat) ({ cls := "java/lang/Math", name := "min", desc := "(II)I" } : Jvm.MethodName) ∈ wt := wt_of 1089 (by decide +kernel) (by decide +kernel)
theorem wm_1090 : Cond.methodLink "IceTunesLaw" (71 : Nat) ({ cls := "IceTunes", name := "planks", desc := "(I)I" } : Jvm.MethodName) ∈ wt := wt_of 1090 (by decide +kernel) (by decide +kernel)
theorem wm_1091 : Cond.instanceMethod ({ cls := "IceTunes", name := "planks", desc := "(I)I" } : Jvm.MethodName) ∈ wt := wt_of 1091 (by decide +kernel) (by decide +kernel)
theorem wm_1092 : Cond.selects "IceTunes" ({ cls := "IceTunes", name := "planks", desc := "(I)I" } : Jvm.MethodName) ({ cls := "IceTunes", name := "planks", desc := "(I)I" } : Jvm.MethodName) ∈ wt := wt_of 1092 (by decide +kernel) (by decide +kernel)
theorem wm_1093 : Cond.code ({ cls := "IceTunes", name := "planks", desc := "(I)I" } : Jvm.MethodName) prog_1_method_16_code (3 : Nat) (Option.some Jvm.ClassFile.FieldType.int) ∈ wt := wt_of 1093 (by decide +kernel) (by decide +kernel)
theorem nm_1094 : Cond.methodLinkNest "IceTunes" (222 : Nat) ({ cls := "IceTunes$Forecast", name := "fewestPlanks", desc := "(LIceTunes$Evening;I)I" } : Jvm.MethodName) "IceTunes" ∈ nw := nw_of 1094 (by decide +kernel) rfl
theorem wm_1096 : Cond.instanceMethod ({ cls := "IceTunes$Forecast", name := "fewestPlanks", desc := "(LIceTunes$Evening;I)I" } : Jvm.MethodName) ∈ wt := wt_of 1096 (by decide +kernel) (by decide +kernel)
theorem wm_1097 : Cond.code ({ cls := "IceTunes$Forecast", name := "fewestPlanks", desc := "(LIceTunes$Evening;I)I" } : Jvm.MethodName) prog_5_method_4_code (7 : Nat) (Option.some Jvm.ClassFile.FieldType.int) ∈ wt := wt_of 1097 (by decide +kernel) (by decide +kernel)
theorem nm_1098 : Cond.methodLinkNest "IceTunes$Forecast" (64 : Nat) ({ cls := "IceTunes$Band", name := "stepAll", desc := "(LIceTunes$Evening;)V" } : Jvm.MethodName) "IceTunes" ∈ nw := nw_of 1098 (by decide +kernel) rfl
theorem nm_1099 : Cond.methodLinkNest "IceTunes$Forecast" (67 : Nat) ({ cls := "IceTunes$Band", name := "freeze", desc := "(LIceTunes$Evening;II)V" } : Jvm.MethodName) "IceTunes" ∈ nw := nw_of 1099 (by decide +kernel) rfl
theorem nm_1100 : Cond.methodLinkNest "IceTunes$Forecast" (73 : Nat) ({ cls := "IceTunes$Band", name := "isTooHeavy", desc := "(LIceTunes$Evening;I)Z" } : Jvm.MethodName) "IceTunes" ∈ nw := nw_of 1100 (by decide +kernel) rfl
theorem wm_1101 : Cond.methodLink "IceTunes$Forecast" (77 : Nat) ({ cls := "java/lang/Integer", name := "bitCount", desc := "(I)I" } : Jvm.MethodName) ∈ wt := wt_of 1101 (by decide +kernel) (by decide +kernel)
theorem wm_1102 : Cond.methodLink "IceTunes$Forecast" (83 : Nat) ({ cls := "IceTunes$Forecast", name := "listCells", desc := "(I)V" } : Jvm.MethodName) ∈ wt := wt_of 1102 (by decide +kernel) (by decide +kernel)
theorem wm_1104 : Cond.instanceMethod ({ cls := "IceTunes$Forecast", name := "listCells", desc := "(I)V" } : Jvm.MethodName) ∈ wt := wt_of 1104 (by decide +kernel) (by decide +kernel)
theorem wm_1105 : Cond.code ({ cls := "IceTunes$Forecast", name := "listCells", desc := "(I)V" } : Jvm.MethodName) prog_5_method_5_code (4 : Nat) (Option.none : Option Jvm.ClassFile.FieldType) ∈ wt := wt_of 1105 (by decide +kernel) (by decide +kernel)
theorem wm_1106 : Cond.methodLink "IceTunesLaw" (75 : Nat) ({ cls := "IceTunes", name := "hush", desc := "(II)I" } : Jvm.MethodName) ∈ wt := wt_of 1106 (by decide +kernel) (by decide +kernel)
theorem wm_1107 : Cond.instanceMethod ({ cls := "IceTunes", name := "hush", desc := "(II)I" } : Jvm.MethodName) ∈ wt := wt_of 1107 (by decide +kernel) (by decide +kernel)
theorem wm_1108 : Cond.selects "IceTunes" ({ cls := "IceTunes", name := "hush", desc := "(II)I" } : Jvm.MethodName) ({ cls := "IceTunes", name := "hush", desc := "(II)I" } : Jvm.MethodName) ∈ wt := wt_of 1108 (by decide +kernel) (by decide +kernel)
theorem wm_1109 : Cond.code ({ cls := "IceTunes", name := "hush", desc := "(II)I" } : Jvm.MethodName) prog_1_method_17_code (4 : Nat) (Option.some Jvm.ClassFile.FieldType.int) ∈ wt := wt_of 1109 (by decide +kernel) (by decide +kernel)
theorem nm_1110 : Cond.methodLinkNest "IceTunes" (225 : Nat) ({ cls := "IceTunes$Forecast", name := "bestSilence", desc := "(LIceTunes$Evening;I)I" } : Jvm.MethodName) "IceTunes" ∈ nw := nw_of 1110 (by decide +kernel) rfl
theorem wm_1112 : Cond.instanceMethod ({ cls := "IceTunes$Forecast", name := "bestSilence", desc := "(LIceTunes$Evening;I)I" } : Jvm.MethodName) ∈ wt := wt_of 1112 (by decide +kernel) (by decide +kernel)
theorem wm_1113 : Cond.code ({ cls := "IceTunes$Forecast", name := "bestSilence", desc := "(LIceTunes$Evening;I)I" } : Jvm.MethodName) prog_5_method_6_code (5 : Nat) (Option.some Jvm.ClassFile.FieldType.int) ∈ wt := wt_of 1113 (by decide +kernel) (by decide +kernel)
theorem nm_1114 : Cond.methodLinkNest "IceTunes$Forecast" (87 : Nat) ({ cls := "IceTunes$Band", name := "playBar", desc := "(LIceTunes$Evening;II)Z" } : Jvm.MethodName) "IceTunes" ∈ nw := nw_of 1114 (by decide +kernel) rfl
theorem wm_1115 : Cond.methodLink "IceTunesLaw" (79 : Nat) ({ cls := "IceTunes", name := "breaks", desc := "(II)I" } : Jvm.MethodName) ∈ wt := wt_of 1115 (by decide +kernel) (by decide +kernel)
theorem wm_1116 : Cond.instanceMethod ({ cls := "IceTunes", name := "breaks", desc := "(II)I" } : Jvm.MethodName) ∈ wt := wt_of 1116 (by decide +kernel) (by decide +kernel)
theorem wm_1117 : Cond.selects "IceTunes" ({ cls := "IceTunes", name := "breaks", desc := "(II)I" } : Jvm.MethodName) ({ cls := "IceTunes", name := "breaks", desc := "(II)I" } : Jvm.MethodName) ∈ wt := wt_of 1117 (by decide +kernel) (by decide +kernel)
theorem wm_1118 : Cond.code ({ cls := "IceTunes", name := "breaks", desc := "(II)I" } : Jvm.MethodName) prog_1_method_18_code (3 : Nat) (Option.some Jvm.ClassFile.FieldType.int) ∈ wt := wt_of 1118 (by decide +kernel) (by decide +kernel)
theorem nm_1119 : Cond.methodLinkNest "IceTunes" (231 : Nat) ({ cls := "IceTunes$Forecast", name := "firstBreak", desc := "(LIceTunes$Evening;II)I" } : Jvm.MethodName) "IceTunes" ∈ nw := nw_of 1119 (by decide +kernel) rfl
theorem wm_1121 : Cond.instanceMethod ({ cls := "IceTunes$Forecast", name := "firstBreak", desc := "(LIceTunes$Evening;II)I" } : Jvm.MethodName) ∈ wt := wt_of 1121 (by decide +kernel) (by decide +kernel)
theorem wm_1122 : Cond.code ({ cls := "IceTunes$Forecast", name := "firstBreak", desc := "(LIceTunes$Evening;II)I" } : Jvm.MethodName) prog_5_method_7_code (6 : Nat) (Option.some Jvm.ClassFile.FieldType.int) ∈ wt := wt_of 1122 (by decide +kernel) (by decide +kernel)
theorem nm_1123 : Cond.methodLinkNest "IceTunes$Forecast" (91 : Nat) ({ cls := "IceTunes$Evening", name := "thicken", desc := "(I)V" } : Jvm.MethodName) "IceTunes" ∈ nw := nw_of 1123 (by decide +kernel) rfl
theorem wm_1125 : Cond.instanceMethod ({ cls := "IceTunes$Evening", name := "thicken", desc := "(I)V" } : Jvm.MethodName) ∈ wt := wt_of 1125 (by decide +kernel) (by decide +kernel)
theorem wm_1126 : Cond.code ({ cls := "IceTunes$Evening", name := "thicken", desc := "(I)V" } : Jvm.MethodName) prog_4_method_7_code (3 : Nat) (Option.none : Option Jvm.ClassFile.FieldType) ∈ wt := wt_of 1126 (by decide +kernel) (by decide +kernel)
theorem wm_1127 : Cond.methodLink "IceTunes$Evening" (59 : Nat) ({ cls := "java/lang/Math", name := "min", desc := "(II)I" } : Jvm.MethodName) ∈ wt := wt_of 1127 (by decide +kernel) (by decide +kernel)
theorem wm_1128 : Cond.methodLink "IceTunes$Evening" (65 : Nat) ({ cls := "java/lang/Math", name := "max", desc := "(II)I" } : Jvm.MethodName) ∈ wt := wt_of 1128 (by decide +kernel) (by decide +kernel)
theorem wm_1129 : Cond.methodLink "IceTunesLaw" (83 : Nat) ({ cls := "IceTunes", name := "lies", desc := "(I)I" } : Jvm.MethodName) ∈ wt := wt_of 1129 (by decide +kernel) (by decide +kernel)
theorem wm_1130 : Cond.instanceMethod ({ cls := "IceTunes", name := "lies", desc := "(I)I" } : Jvm.MethodName) ∈ wt := wt_of 1130 (by decide +kernel) (by decide +kernel)
theorem wm_1131 : Cond.selects "IceTunes" ({ cls := "IceTunes", name := "lies", desc := "(I)I" } : Jvm.MethodName) ({ cls := "IceTunes", name := "lies", desc := "(I)I" } : Jvm.MethodName) ∈ wt := wt_of 1131 (by decide +kernel) (by decide +kernel)
theorem wm_1132 : Cond.code ({ cls := "IceTunes", name := "lies", desc := "(I)I" } : Jvm.MethodName) prog_1_method_19_code (2 : Nat) (Option.some Jvm.ClassFile.FieldType.int) ∈ wt := wt_of 1132 (by decide +kernel) (by decide +kernel)
theorem wm_1133 : Cond.methodLink "IceTunesLaw" (87 : Nat) ({ cls := "IceTunes", name := "sight", desc := "(IIIII)I" } : Jvm.MethodName) ∈ wt := wt_of 1133 (by decide +kernel) (by decide +kernel)
theorem wm_1134 : Cond.instanceMethod ({ cls := "IceTunes", name := "sight", desc := "(IIIII)I" } : Jvm.MethodName) ∈ wt := wt_of 1134 (by decide +kernel) (by decide +kernel)
theorem wm_1135 : Cond.selects "IceTunes" ({ cls := "IceTunes", name := "sight", desc := "(IIIII)I" } : Jvm.MethodName) ({ cls := "IceTunes", name := "sight", desc := "(IIIII)I" } : Jvm.MethodName) ∈ wt := wt_of 1135 (by decide +kernel) (by decide +kernel)
theorem wm_1136 : Cond.code ({ cls := "IceTunes", name := "sight", desc := "(IIIII)I" } : Jvm.MethodName) prog_1_method_21_code (6 : Nat) (Option.some Jvm.ClassFile.FieldType.int) ∈ wt := wt_of 1136 (by decide +kernel) (by decide +kernel)
theorem wm_1137 : Cond.methodLink "IceTunes" (234 : Nat) ({ cls := "IceTunes", name := "isSightBar", desc := "(I)Z" } : Jvm.MethodName) ∈ wt := wt_of 1137 (by decide +kernel) (by decide +kernel)
theorem wm_1138 : Cond.static ({ cls := "IceTunes", name := "isSightBar", desc := "(I)Z" } : Jvm.MethodName) ∈ wt := wt_of 1138 (by decide +kernel) (by decide +kernel)
theorem wm_1139 : Cond.code ({ cls := "IceTunes", name := "isSightBar", desc := "(I)Z" } : Jvm.MethodName) prog_1_method_23_code (1 : Nat) (Option.some Jvm.ClassFile.FieldType.boolean) ∈ wt := wt_of 1139 (by decide +kernel) (by decide +kernel)
theorem nm_1140 : Cond.methodLinkNest "IceTunes" (240 : Nat) ({ cls := "IceTunes$Sights", name := "tellIce", desc := "(IIIII)I" } : Jvm.MethodName) "IceTunes" ∈ nw := nw_of 1140 (by decide +kernel) rfl
theorem wm_1142 : Cond.instanceMethod ({ cls := "IceTunes$Sights", name := "tellIce", desc := "(IIIII)I" } : Jvm.MethodName) ∈ wt := wt_of 1142 (by decide +kernel) (by decide +kernel)
theorem wm_1143 : Cond.code ({ cls := "IceTunes$Sights", name := "tellIce", desc := "(IIIII)I" } : Jvm.MethodName) prog_10_method_3_code (6 : Nat) (Option.some Jvm.ClassFile.FieldType.int) ∈ wt := wt_of 1143 (by decide +kernel) (by decide +kernel)
theorem wm_1144 : Cond.methodLink "IceTunes$Sights" (37 : Nat) ({ cls := "IceTunes$Sights", name := "tell", desc := "(IIII)I" } : Jvm.MethodName) ∈ wt := wt_of 1144 (by decide +kernel) (by decide +kernel)
theorem wm_1146 : Cond.instanceMethod ({ cls := "IceTunes$Sights", name := "tell", desc := "(IIII)I" } : Jvm.MethodName) ∈ wt := wt_of 1146 (by decide +kernel) (by decide +kernel)
theorem wm_1147 : Cond.code ({ cls := "IceTunes$Sights", name := "tell", desc := "(IIII)I" } : Jvm.MethodName) prog_10_method_5_code (5 : Nat) (Option.some Jvm.ClassFile.FieldType.int) ∈ wt := wt_of 1147 (by decide +kernel) (by decide +kernel)
theorem wm_1148 : Cond.methodLink "IceTunesLaw" (91 : Nat) ({ cls := "IceTunes", name := "seen", desc := "(IIZ)I" } : Jvm.MethodName) ∈ wt := wt_of 1148 (by decide +kernel) (by decide +kernel)
theorem wm_1149 : Cond.instanceMethod ({ cls := "IceTunes", name := "seen", desc := "(IIZ)I" } : Jvm.MethodName) ∈ wt := wt_of 1149 (by decide +kernel) (by decide +kernel)
theorem wm_1150 : Cond.selects "IceTunes" ({ cls := "IceTunes", name := "seen", desc := "(IIZ)I" } : Jvm.MethodName) ({ cls := "IceTunes", name := "seen", desc := "(IIZ)I" } : Jvm.MethodName) ∈ wt := wt_of 1150 (by decide +kernel) (by decide +kernel)
theorem wm_1151 : Cond.code ({ cls := "IceTunes", name := "seen", desc := "(IIZ)I" } : Jvm.MethodName) prog_1_method_22_code (4 : Nat) (Option.some Jvm.ClassFile.FieldType.int) ∈ wt := wt_of 1151 (by decide +kernel) (by decide +kernel)
theorem nm_1152 : Cond.methodLinkNest "IceTunes" (244 : Nat) ({ cls := "IceTunes$Sights", name := "tellSkater", desc := "(IIZI)I" } : Jvm.MethodName) "IceTunes" ∈ nw := nw_of 1152 (by decide +kernel) rfl
theorem wm_1154 : Cond.instanceMethod ({ cls := "IceTunes$Sights", name := "tellSkater", desc := "(IIZI)I" } : Jvm.MethodName) ∈ wt := wt_of 1154 (by decide +kernel) (by decide +kernel)
theorem wm_1155 : Cond.code ({ cls := "IceTunes$Sights", name := "tellSkater", desc := "(IIZI)I" } : Jvm.MethodName) prog_10_method_4_code (6 : Nat) (Option.some Jvm.ClassFile.FieldType.int) ∈ wt := wt_of 1155 (by decide +kernel) (by decide +kernel)
theorem wm_1156 : Cond.methodLink "IceTunesLaw" (96 : Nat) ({ cls := "IceTunes", name := "untell", desc := "(I)Z" } : Jvm.MethodName) ∈ wt := wt_of 1156 (by decide +kernel) (by decide +kernel)
theorem wm_1157 : Cond.instanceMethod ({ cls := "IceTunes", name := "untell", desc := "(I)Z" } : Jvm.MethodName) ∈ wt := wt_of 1157 (by decide +kernel) (by decide +kernel)
theorem wm_1158 : Cond.selects "IceTunes" ({ cls := "IceTunes", name := "untell", desc := "(I)Z" } : Jvm.MethodName) ({ cls := "IceTunes", name := "untell", desc := "(I)Z" } : Jvm.MethodName) ∈ wt := wt_of 1158 (by decide +kernel) (by decide +kernel)
theorem wm_1159 : Cond.code ({ cls := "IceTunes", name := "untell", desc := "(I)Z" } : Jvm.MethodName) prog_1_method_24_code (2 : Nat) (Option.some Jvm.ClassFile.FieldType.boolean) ∈ wt := wt_of 1159 (by decide +kernel) (by decide +kernel)
theorem nm_1160 : Cond.methodLinkNest "IceTunes" (248 : Nat) ({ cls := "IceTunes$Sights", name := "takeAway", desc := "(II)Z" } : Jvm.MethodName) "IceTunes" ∈ nw := nw_of 1160 (by decide +kernel) rfl
theorem wm_1162 : Cond.instanceMethod ({ cls := "IceTunes$Sights", name := "takeAway", desc := "(II)Z" } : Jvm.MethodName) ∈ wt := wt_of 1162 (by decide +kernel) (by decide +kernel)
theorem wm_1163 : Cond.code ({ cls := "IceTunes$Sights", name := "takeAway", desc := "(II)Z" } : Jvm.MethodName) prog_10_method_6_code (3 : Nat) (Option.some Jvm.ClassFile.FieldType.boolean) ∈ wt := wt_of 1163 (by decide +kernel) (by decide +kernel)
theorem wm_1164 : Cond.methodLink "IceTunesLaw" (101 : Nat) ({ cls := "IceTunes", name := "later", desc := "(I)I" } : Jvm.MethodName) ∈ wt := wt_of 1164 (by decide +kernel) (by decide +kernel)
theorem wm_1165 : Cond.instanceMethod ({ cls := "IceTunes", name := "later", desc := "(I)I" } : Jvm.MethodName) ∈ wt := wt_of 1165 (by decide +kernel) (by decide +kernel)
theorem wm_1166 : Cond.selects "IceTunes" ({ cls := "IceTunes", name := "later", desc := "(I)I" } : Jvm.MethodName) ({ cls := "IceTunes", name := "later", desc := "(I)I" } : Jvm.MethodName) ∈ wt := wt_of 1166 (by decide +kernel) (by decide +kernel)
theorem wm_1167 : Cond.code ({ cls := "IceTunes", name := "later", desc := "(I)I" } : Jvm.MethodName) prog_1_method_25_code (2 : Nat) (Option.some Jvm.ClassFile.FieldType.int) ∈ wt := wt_of 1167 (by decide +kernel) (by decide +kernel)
theorem wm_1168 : Cond.constant "IceTunes" (251 : Nat) (100000 : Int32) ∈ wt := wt_of 1168 (by decide +kernel) (by decide +kernel)
theorem wm_1169 : Cond.methodLink "IceTunesLaw" (105 : Nat) ({ cls := "IceTunes", name := "asked", desc := "(II)I" } : Jvm.MethodName) ∈ wt := wt_of 1169 (by decide +kernel) (by decide +kernel)
theorem wm_1170 : Cond.instanceMethod ({ cls := "IceTunes", name := "asked", desc := "(II)I" } : Jvm.MethodName) ∈ wt := wt_of 1170 (by decide +kernel) (by decide +kernel)
theorem wm_1171 : Cond.selects "IceTunes" ({ cls := "IceTunes", name := "asked", desc := "(II)I" } : Jvm.MethodName) ({ cls := "IceTunes", name := "asked", desc := "(II)I" } : Jvm.MethodName) ∈ wt := wt_of 1171 (by decide +kernel) (by decide +kernel)
theorem wm_1172 : Cond.code ({ cls := "IceTunes", name := "asked", desc := "(II)I" } : Jvm.MethodName) prog_1_method_26_code (4 : Nat) (Option.some Jvm.ClassFile.FieldType.int) ∈ wt := wt_of 1172 (by decide +kernel) (by decide +kernel)
theorem nm_1173 : Cond.methodLinkNest "IceTunes" (252 : Nat) ({ cls := "IceTunes$Rows", name := "count", desc := "(II)I" } : Jvm.MethodName) "IceTunes" ∈ nw := nw_of 1173 (by decide +kernel) rfl
theorem wm_1175 : Cond.instanceMethod ({ cls := "IceTunes$Rows", name := "count", desc := "(II)I" } : Jvm.MethodName) ∈ wt := wt_of 1175 (by decide +kernel) (by decide +kernel)
theorem wm_1176 : Cond.code ({ cls := "IceTunes$Rows", name := "count", desc := "(II)I" } : Jvm.MethodName) prog_9_method_2_code (3 : Nat) (Option.some Jvm.ClassFile.FieldType.int) ∈ wt := wt_of 1176 (by decide +kernel) (by decide +kernel)
theorem nm_1177 : Cond.methodLinkNest "IceTunes$Rows" (43 : Nat) ({ cls := "IceTunes$Sights", name := "lastBar", desc := "(I)I" } : Jvm.MethodName) "IceTunes" ∈ nw := nw_of 1177 (by decide +kernel) rfl
theorem wm_1179 : Cond.instanceMethod ({ cls := "IceTunes$Sights", name := "lastBar", desc := "(I)I" } : Jvm.MethodName) ∈ wt := wt_of 1179 (by decide +kernel) (by decide +kernel)
theorem wm_1180 : Cond.code ({ cls := "IceTunes$Sights", name := "lastBar", desc := "(I)I" } : Jvm.MethodName) prog_10_method_8_code (4 : Nat) (Option.some Jvm.ClassFile.FieldType.int) ∈ wt := wt_of 1180 (by decide +kernel) (by decide +kernel)
theorem wm_1181 : Cond.methodLink "IceTunes$Sights" (41 : Nat) ({ cls := "IceTunes$Sights", name := "isKnown", desc := "(II)Z" } : Jvm.MethodName) ∈ wt := wt_of 1181 (by decide +kernel) (by decide +kernel)
theorem wm_1183 : Cond.instanceMethod ({ cls := "IceTunes$Sights", name := "isKnown", desc := "(II)Z" } : Jvm.MethodName) ∈ wt := wt_of 1183 (by decide +kernel) (by decide +kernel)
theorem wm_1184 : Cond.code ({ cls := "IceTunes$Sights", name := "isKnown", desc := "(II)Z" } : Jvm.MethodName) prog_10_method_7_code (3 : Nat) (Option.some Jvm.ClassFile.FieldType.boolean) ∈ wt := wt_of 1184 (by decide +kernel) (by decide +kernel)
theorem wm_1185 : Cond.methodLink "IceTunes$Sights" (45 : Nat) ({ cls := "java/lang/Math", name := "max", desc := "(II)I" } : Jvm.MethodName) ∈ wt := wt_of 1185 (by decide +kernel) (by decide +kernel)
theorem nm_1186 : Cond.methodLinkNest "IceTunes$Rows" (57 : Nat) ({ cls := "IceTunes$Evening", name := "begin", desc := "(LIceTunes$Pond;)V" } : Jvm.MethodName) "IceTunes" ∈ nw := nw_of 1186 (by decide +kernel) rfl
theorem wm_1187 : Cond.methodLink "IceTunes$Rows" (63 : Nat) ({ cls := "IceTunes$Rows", name := "extend", desc := "(I)V" } : Jvm.MethodName) ∈ wt := wt_of 1187 (by decide +kernel) (by decide +kernel)
theorem wm_1189 : Cond.instanceMethod ({ cls := "IceTunes$Rows", name := "extend", desc := "(I)V" } : Jvm.MethodName) ∈ wt := wt_of 1189 (by decide +kernel) (by decide +kernel)
theorem wm_1190 : Cond.code ({ cls := "IceTunes$Rows", name := "extend", desc := "(I)V" } : Jvm.MethodName) prog_9_method_3_code (3 : Nat) (Option.none : Option Jvm.ClassFile.FieldType) ∈ wt := wt_of 1190 (by decide +kernel) (by decide +kernel)
theorem wm_1191 : Cond.methodLink "IceTunes$Rows" (70 : Nat) ({ cls := "IceTunes$Rows", name := "takeRow", desc := "()V" } : Jvm.MethodName) ∈ wt := wt_of 1191 (by decide +kernel) (by decide +kernel)
theorem wm_1193 : Cond.instanceMethod ({ cls := "IceTunes$Rows", name := "takeRow", desc := "()V" } : Jvm.MethodName) ∈ wt := wt_of 1193 (by decide +kernel) (by decide +kernel)
theorem wm_1194 : Cond.code ({ cls := "IceTunes$Rows", name := "takeRow", desc := "()V" } : Jvm.MethodName) prog_9_method_5_code (2 : Nat) (Option.none : Option Jvm.ClassFile.FieldType) ∈ wt := wt_of 1194 (by decide +kernel) (by decide +kernel)
theorem nm_1195 : Cond.methodLinkNest "IceTunes$Rows" (76 : Nat) ({ cls := "IceTunes$Evening", name := "copy", desc := "(LIceTunes$Evening;)V" } : Jvm.MethodName) "IceTunes" ∈ nw := nw_of 1195 (by decide +kernel) rfl
theorem wm_1196 : Cond.methodLink "IceTunes$Rows" (80 : Nat) ({ cls := "IceTunes$Rows", name := "playsAsSeen", desc := "(LIceTunes$Evening;I)Z" } : Jvm.MethodName) ∈ wt := wt_of 1196 (by decide +kernel) (by decide +kernel)
theorem wm_1198 : Cond.instanceMethod ({ cls := "IceTunes$Rows", name := "playsAsSeen", desc := "(LIceTunes$Evening;I)Z" } : Jvm.MethodName) ∈ wt := wt_of 1198 (by decide +kernel) (by decide +kernel)
theorem wm_1199 : Cond.code ({ cls := "IceTunes$Rows", name := "playsAsSeen", desc := "(LIceTunes$Evening;I)Z" } : Jvm.MethodName) prog_9_method_4_code (4 : Nat) (Option.some Jvm.ClassFile.FieldType.boolean) ∈ wt := wt_of 1199 (by decide +kernel) (by decide +kernel)
theorem nm_1200 : Cond.methodLinkNest "IceTunes$Rows" (86 : Nat) ({ cls := "IceTunes$Band", name := "playBar", desc := "(LIceTunes$Evening;II)Z" } : Jvm.MethodName) "IceTunes" ∈ nw := nw_of 1200 (by decide +kernel) rfl
theorem nm_1201 : Cond.methodLinkNest "IceTunes$Rows" (90 : Nat) ({ cls := "IceTunes$Sights", name := "areSo", desc := "(LIceTunes$Evening;I)Z" } : Jvm.MethodName) "IceTunes" ∈ nw := nw_of 1201 (by decide +kernel) rfl
theorem wm_1203 : Cond.instanceMethod ({ cls := "IceTunes$Sights", name := "areSo", desc := "(LIceTunes$Evening;I)Z" } : Jvm.MethodName) ∈ wt := wt_of 1203 (by decide +kernel) (by decide +kernel)
theorem wm_1204 : Cond.code ({ cls := "IceTunes$Sights", name := "areSo", desc := "(LIceTunes$Evening;I)Z" } : Jvm.MethodName) prog_10_method_9_code (4 : Nat) (Option.some Jvm.ClassFile.FieldType.boolean) ∈ wt := wt_of 1204 (by decide +kernel) (by decide +kernel)
theorem wm_1205 : Cond.methodLink "IceTunes$Sights" (56 : Nat) ({ cls := "IceTunes$Sights", name := "isSo", desc := "(ILIceTunes$Evening;)Z" } : Jvm.MethodName) ∈ wt := wt_of 1205 (by decide +kernel) (by decide +kernel)
theorem wm_1207 : Cond.instanceMethod ({ cls := "IceTunes$Sights", name := "isSo", desc := "(ILIceTunes$Evening;)Z" } : Jvm.MethodName) ∈ wt := wt_of 1207 (by decide +kernel) (by decide +kernel)
theorem wm_1208 : Cond.code ({ cls := "IceTunes$Sights", name := "isSo", desc := "(ILIceTunes$Evening;)Z" } : Jvm.MethodName) prog_10_method_10_code (4 : Nat) (Option.some Jvm.ClassFile.FieldType.boolean) ∈ wt := wt_of 1208 (by decide +kernel) (by decide +kernel)
theorem nm_1209 : Cond.methodLinkNest "IceTunes$Sights" (60 : Nat) ({ cls := "IceTunes$Evening", name := "isUp", desc := "(I)Z" } : Jvm.MethodName) "IceTunes" ∈ nw := nw_of 1209 (by decide +kernel) rfl
theorem wm_1210 : Cond.methodLink "IceTunesLaw" (109 : Nat) ({ cls := "IceTunes", name := "sure", desc := "(III)I" } : Jvm.MethodName) ∈ wt := wt_of 1210 (by decide +kernel) (by decide +kernel)
theorem wm_1211 : Cond.instanceMethod ({ cls := "IceTunes", name := "sure", desc := "(III)I" } : Jvm.MethodName) ∈ wt := wt_of 1211 (by decide +kernel) (by decide +kernel)
theorem wm_1212 : Cond.selects "IceTunes" ({ cls := "IceTunes", name := "sure", desc := "(III)I" } : Jvm.MethodName) ({ cls := "IceTunes", name := "sure", desc := "(III)I" } : Jvm.MethodName) ∈ wt := wt_of 1212 (by decide +kernel) (by decide +kernel)
end
section
theorem wm_1213 : Cond.code ({ cls := "IceTunes", name := "sure", desc := "(III)I" } : Jvm.MethodName) prog_1_method_27_code (4 : Nat) (Option.some Jvm.ClassFile.FieldType.int) ∈ wt := wt_of 1213 (by decide +kernel) (by decide +kernel)
theorem wm_1214 : Cond.methodLink "IceTunesLaw" (113 : Nat) ({ cls := "IceTunes", name := "image", desc := "(I)I" } : Jvm.MethodName) ∈ wt := wt_of 1214 (by decide +kernel) (by decide +kernel)
theorem wm_1215 : Cond.instanceMethod ({ cls := "IceTunes", name := "image", desc := "(I)I" } : Jvm.MethodName) ∈ wt := wt_of 1215 (by decide +kernel) (by decide +kernel)
theorem wm_1216 : Cond.selects "IceTunes" ({ cls := "IceTunes", name := "image", desc := "(I)I" } : Jvm.MethodName) ({ cls := "IceTunes", name := "image", desc := "(I)I" } : Jvm.MethodName) ∈ wt := wt_of 1216 (by decide +kernel) (by decide +kernel)
theorem wm_1217 : Cond.code ({ cls := "IceTunes", name := "image", desc := "(I)I" } : Jvm.MethodName) prog_1_method_28_code (2 : Nat) (Option.some Jvm.ClassFile.FieldType.int) ∈ wt := wt_of 1217 (by decide +kernel) (by decide +kernel)
theorem nm_1218 : Cond.methodLinkNest "IceTunes" (262 : Nat) ({ cls := "IceTunes$Evening", name := "copy", desc := "(LIceTunes$Evening;)V" } : Jvm.MethodName) "IceTunes" ∈ nw := nw_of 1218 (by decide +kernel) rfl
theorem wm_1219 : Cond.methodLink "IceTunesLaw" (117 : Nat) ({ cls := "IceTunes", name := "back", desc := "(I)I" } : Jvm.MethodName) ∈ wt := wt_of 1219 (by decide +kernel) (by decide +kernel)
theorem wm_1220 : Cond.instanceMethod ({ cls := "IceTunes", name := "back", desc := "(I)I" } : Jvm.MethodName) ∈ wt := wt_of 1220 (by decide +kernel) (by decide +kernel)
theorem wm_1221 : Cond.selects "IceTunes" ({ cls := "IceTunes", name := "back", desc := "(I)I" } : Jvm.MethodName) ({ cls := "IceTunes", name := "back", desc := "(I)I" } : Jvm.MethodName) ∈ wt := wt_of 1221 (by decide +kernel) (by decide +kernel)
theorem wm_1222 : Cond.code ({ cls := "IceTunes", name := "back", desc := "(I)I" } : Jvm.MethodName) prog_1_method_29_code (2 : Nat) (Option.some Jvm.ClassFile.FieldType.int) ∈ wt := wt_of 1222 (by decide +kernel) (by decide +kernel)
theorem wm_1223 : Cond.methodLink "IceTunesLaw" (121 : Nat) ({ cls := "IceTunes", name := "about", desc := "(I)I" } : Jvm.MethodName) ∈ wt := wt_of 1223 (by decide +kernel) (by decide +kernel)
theorem wm_1224 : Cond.instanceMethod ({ cls := "IceTunes", name := "about", desc := "(I)I" } : Jvm.MethodName) ∈ wt := wt_of 1224 (by decide +kernel) (by decide +kernel)
theorem wm_1225 : Cond.selects "IceTunes" ({ cls := "IceTunes", name := "about", desc := "(I)I" } : Jvm.MethodName) ({ cls := "IceTunes", name := "about", desc := "(I)I" } : Jvm.MethodName) ∈ wt := wt_of 1225 (by decide +kernel) (by decide +kernel)
theorem wm_1226 : Cond.code ({ cls := "IceTunes", name := "about", desc := "(I)I" } : Jvm.MethodName) prog_1_method_30_code (2 : Nat) (Option.some Jvm.ClassFile.FieldType.int) ∈ wt := wt_of 1226 (by decide +kernel) (by decide +kernel)
theorem wm_1227 : Cond.classLink "IceTunesLaw" (10 : Nat) "IceTunesModel" ∈ wt := wt_of 1227 (by decide +kernel) (by decide +kernel)
theorem wm_1228 : Cond.instantiable "IceTunesModel" (71 : Nat) ∈ wt := wt_of 1228 (by decide +kernel) (by decide +kernel)
theorem wm_1229 : Cond.methodLink "IceTunesLaw" (12 : Nat) ({ cls := "IceTunesModel", name := "<init>", desc := "()V" } : Jvm.MethodName) ∈ wt := wt_of 1229 (by decide +kernel) (by decide +kernel)
theorem wm_1230 : Cond.instanceMethod ({ cls := "IceTunesModel", name := "<init>", desc := "()V" } : Jvm.MethodName) ∈ wt := wt_of 1230 (by decide +kernel) (by decide +kernel)
theorem wm_1231 : Cond.code ({ cls := "IceTunesModel", name := "<init>", desc := "()V" } : Jvm.MethodName) prog_13_method_1_code (2 : Nat) (Option.none : Option Jvm.ClassFile.FieldType) ∈ wt := wt_of 1231 (by decide +kernel) (by decide +kernel)
theorem wm_1232 : Cond.methodLink "IceTunesModel" (1 : Nat) ({ cls := "java/lang/Object", name := "<init>", desc := "()V" } : Jvm.MethodName) ∈ wt := wt_of 1232 (by decide +kernel) (by decide +kernel)
theorem wm_1233 : Cond.methodLink "IceTunesModel" (164 : Nat) ({ cls := "IceTunesModel", name := "clearBank", desc := "()V" } : Jvm.MethodName) ∈ wt := wt_of 1233 (by decide +kernel) (by decide +kernel)
theorem wm_1235 : Cond.instanceMethod ({ cls := "IceTunesModel", name := "clearBank", desc := "()V" } : Jvm.MethodName) ∈ wt := wt_of 1235 (by decide +kernel) (by decide +kernel)
theorem wm_1236 : Cond.code ({ cls := "IceTunesModel", name := "clearBank", desc := "()V" } : Jvm.MethodName) prog_13_method_16_code (2 : Nat) (Option.none : Option Jvm.ClassFile.FieldType) ∈ wt := wt_of 1236 (by decide +kernel) (by decide +kernel)
theorem wm_1237 : Cond.methodLink "IceTunesModel" (167 : Nat) ({ cls := "IceTunesModel", name := "begin", desc := "()V" } : Jvm.MethodName) ∈ wt := wt_of 1237 (by decide +kernel) (by decide +kernel)
theorem wm_1239 : Cond.instanceMethod ({ cls := "IceTunesModel", name := "begin", desc := "()V" } : Jvm.MethodName) ∈ wt := wt_of 1239 (by decide +kernel) (by decide +kernel)
theorem wm_1240 : Cond.code ({ cls := "IceTunesModel", name := "begin", desc := "()V" } : Jvm.MethodName) prog_13_method_46_code (1 : Nat) (Option.none : Option Jvm.ClassFile.FieldType) ∈ wt := wt_of 1240 (by decide +kernel) (by decide +kernel)
theorem wm_1241 : Cond.methodLink "IceTunesModel" (383 : Nat) ({ cls := "IceTunesModel", name := "layFirst", desc := "()V" } : Jvm.MethodName) ∈ wt := wt_of 1241 (by decide +kernel) (by decide +kernel)
theorem wm_1243 : Cond.instanceMethod ({ cls := "IceTunesModel", name := "layFirst", desc := "()V" } : Jvm.MethodName) ∈ wt := wt_of 1243 (by decide +kernel) (by decide +kernel)
theorem wm_1244 : Cond.code ({ cls := "IceTunesModel", name := "layFirst", desc := "()V" } : Jvm.MethodName) prog_13_method_45_code (3 : Nat) (Option.none : Option Jvm.ClassFile.FieldType) ∈ wt := wt_of 1244 (by decide +kernel) (by decide +kernel)
theorem wm_1245 : Cond.methodLink "IceTunesModel" (379 : Nat) ({ cls := "IceTunesModel", name := "put", desc := "(III)V" } : Jvm.MethodName) ∈ wt := wt_of 1245 (by decide +kernel) (by decide +kernel)
theorem wm_1247 : Cond.instanceMethod ({ cls := "IceTunesModel", name := "put", desc := "(III)V" } : Jvm.MethodName) ∈ wt := wt_of 1247 (by decide +kernel) (by decide +kernel)
theorem wm_1248 : Cond.code ({ cls := "IceTunesModel", name := "put", desc := "(III)V" } : Jvm.MethodName) prog_13_method_44_code (4 : Nat) (Option.none : Option Jvm.ClassFile.FieldType) ∈ wt := wt_of 1248 (by decide +kernel) (by decide +kernel)
theorem wm_1249 : Cond.fieldLink "IceTunesModel" (7 : Nat) "IceTunesModel" "tape" "[B" ∈ wt := wt_of 1249 (by decide +kernel) (by decide +kernel)
theorem wm_1250 : Cond.fieldLink "IceTunesModel" (13 : Nat) "IceTunesModel" "text" "[B" ∈ wt := wt_of 1250 (by decide +kernel) (by decide +kernel)
theorem wm_1251 : Cond.fieldLink "IceTunesModel" (285 : Nat) "IceTunesModel" "taped" "I" ∈ wt := wt_of 1251 (by decide +kernel) (by decide +kernel)
theorem wm_1252 : Cond.fieldLink "IceTunesModel" (170 : Nat) "IceTunesModel" "size" "I" ∈ wt := wt_of 1252 (by decide +kernel) (by decide +kernel)
theorem wm_1253 : Cond.fieldLink "IceTunesModel" (173 : Nat) "IceTunesModel" "faultKind" "I" ∈ wt := wt_of 1253 (by decide +kernel) (by decide +kernel)
theorem wm_1254 : Cond.fieldLink "IceTunesModel" (16 : Nat) "IceTunesModel" "faultPlace" "I" ∈ wt := wt_of 1254 (by decide +kernel) (by decide +kernel)
theorem wm_1255 : Cond.fieldLink "IceTunesModel" (223 : Nat) "IceTunesModel" "at" "I" ∈ wt := wt_of 1255 (by decide +kernel) (by decide +kernel)
theorem wm_1256 : Cond.fieldLink "IceTunesModel" (220 : Nat) "IceTunesModel" "end" "I" ∈ wt := wt_of 1256 (by decide +kernel) (by decide +kernel)
theorem wm_1257 : Cond.fieldLink "IceTunesModel" (230 : Nat) "IceTunesModel" "token" "I" ∈ wt := wt_of 1257 (by decide +kernel) (by decide +kernel)
theorem wm_1258 : Cond.fieldLink "IceTunesModel" (248 : Nat) "IceTunesModel" "number" "I" ∈ wt := wt_of 1258 (by decide +kernel) (by decide +kernel)
theorem wm_1259 : Cond.fieldLink "IceTunesModel" (237 : Nat) "IceTunesModel" "name" "J" ∈ wt := wt_of 1259 (by decide +kernel) (by decide +kernel)
theorem wm_1260 : Cond.fieldLink "IceTunesModel" (20 : Nat) "IceTunesModel" "across" "[I" ∈ wt := wt_of 1260 (by decide +kernel) (by decide +kernel)
theorem wm_1261 : Cond.fieldLink "IceTunesModel" (24 : Nat) "IceTunesModel" "down" "[I" ∈ wt := wt_of 1261 (by decide +kernel) (by decide +kernel)
theorem wm_1262 : Cond.fieldLink "IceTunesModel" (27 : Nat) "IceTunesModel" "iceTold" "[I" ∈ wt := wt_of 1262 (by decide +kernel) (by decide +kernel)
theorem wm_1263 : Cond.fieldLink "IceTunesModel" (30 : Nat) "IceTunesModel" "planks" "[I" ∈ wt := wt_of 1263 (by decide +kernel) (by decide +kernel)
theorem wm_1264 : Cond.fieldLink "IceTunesModel" (33 : Nat) "IceTunesModel" "tunes" "[I" ∈ wt := wt_of 1264 (by decide +kernel) (by decide +kernel)
theorem wm_1265 : Cond.fieldLink "IceTunesModel" (36 : Nat) "IceTunesModel" "skaters" "[I" ∈ wt := wt_of 1265 (by decide +kernel) (by decide +kernel)
theorem wm_1266 : Cond.fieldLink "IceTunesModel" (39 : Nat) "IceTunesModel" "units" "[I" ∈ wt := wt_of 1266 (by decide +kernel) (by decide +kernel)
theorem wm_1267 : Cond.fieldLink "IceTunesModel" (42 : Nat) "IceTunesModel" "cellIce" "[I" ∈ wt := wt_of 1267 (by decide +kernel) (by decide +kernel)
theorem wm_1268 : Cond.fieldLink "IceTunesModel" (45 : Nat) "IceTunesModel" "bars" "[I" ∈ wt := wt_of 1268 (by decide +kernel) (by decide +kernel)
theorem wm_1269 : Cond.fieldLink "IceTunesModel" (48 : Nat) "IceTunesModel" "ruleFrom" "[I" ∈ wt := wt_of 1269 (by decide +kernel) (by decide +kernel)
theorem wm_1270 : Cond.fieldLink "IceTunesModel" (51 : Nat) "IceTunesModel" "ruleTo" "[I" ∈ wt := wt_of 1270 (by decide +kernel) (by decide +kernel)
theorem wm_1271 : Cond.fieldLink "IceTunesModel" (54 : Nat) "IceTunesModel" "weight" "[I" ∈ wt := wt_of 1271 (by decide +kernel) (by decide +kernel)
theorem wm_1272 : Cond.fieldLink "IceTunesModel" (57 : Nat) "IceTunesModel" "startX" "[I" ∈ wt := wt_of 1272 (by decide +kernel) (by decide +kernel)
theorem wm_1273 : Cond.fieldLink "IceTunesModel" (60 : Nat) "IceTunesModel" "startY" "[I" ∈ wt := wt_of 1273 (by decide +kernel) (by decide +kernel)
theorem wm_1274 : Cond.fieldLink "IceTunesModel" (63 : Nat) "IceTunesModel" "stepMany" "[I" ∈ wt := wt_of 1274 (by decide +kernel) (by decide +kernel)
theorem wm_1275 : Cond.fieldLink "IceTunesModel" (66 : Nat) "IceTunesModel" "steps" "[I" ∈ wt := wt_of 1275 (by decide +kernel) (by decide +kernel)
theorem wm_1276 : Cond.fieldLink "IceTunesModel" (69 : Nat) "IceTunesModel" "isPond" "[Z" ∈ wt := wt_of 1276 (by decide +kernel) (by decide +kernel)
theorem wm_1277 : Cond.fieldLink "IceTunesModel" (73 : Nat) "IceTunesModel" "isIce" "[Z" ∈ wt := wt_of 1277 (by decide +kernel) (by decide +kernel)
theorem wm_1278 : Cond.fieldLink "IceTunesModel" (76 : Nat) "IceTunesModel" "isSilence" "[Z" ∈ wt := wt_of 1278 (by decide +kernel) (by decide +kernel)
theorem wm_1279 : Cond.fieldLink "IceTunesModel" (79 : Nat) "IceTunesModel" "isPlank" "[Z" ∈ wt := wt_of 1279 (by decide +kernel) (by decide +kernel)
theorem wm_1280 : Cond.fieldLink "IceTunesModel" (82 : Nat) "IceTunesModel" "tName" "[J" ∈ wt := wt_of 1280 (by decide +kernel) (by decide +kernel)
theorem wm_1281 : Cond.fieldLink "IceTunesModel" (86 : Nat) "IceTunesModel" "sName" "[J" ∈ wt := wt_of 1281 (by decide +kernel) (by decide +kernel)
theorem wm_1282 : Cond.fieldLink "IceTunesModel" (89 : Nat) "IceTunesModel" "code" "[I" ∈ wt := wt_of 1282 (by decide +kernel) (by decide +kernel)
theorem wm_1283 : Cond.fieldLink "IceTunesModel" (92 : Nat) "IceTunesModel" "codeNumber" "[I" ∈ wt := wt_of 1283 (by decide +kernel) (by decide +kernel)
theorem wm_1284 : Cond.fieldLink "IceTunesModel" (95 : Nat) "IceTunesModel" "eWhat" "[I" ∈ wt := wt_of 1284 (by decide +kernel) (by decide +kernel)
theorem wm_1285 : Cond.fieldLink "IceTunesModel" (98 : Nat) "IceTunesModel" "eSign" "[I" ∈ wt := wt_of 1285 (by decide +kernel) (by decide +kernel)
theorem wm_1286 : Cond.fieldLink "IceTunesModel" (101 : Nat) "IceTunesModel" "pile" "[I" ∈ wt := wt_of 1286 (by decide +kernel) (by decide +kernel)
theorem wm_1287 : Cond.fieldLink "IceTunesModel" (288 : Nat) "IceTunesModel" "bank" "I" ∈ wt := wt_of 1287 (by decide +kernel) (by decide +kernel)
theorem wm_1288 : Cond.fieldLink "IceTunesModel" (279 : Nat) "IceTunesModel" "rb" "I" ∈ wt := wt_of 1288 (by decide +kernel) (by decide +kernel)
theorem wm_1289 : Cond.fieldLink "IceTunesModel" (282 : Nat) "IceTunesModel" "codes" "I" ∈ wt := wt_of 1289 (by decide +kernel) (by decide +kernel)
theorem wm_1290 : Cond.fieldLink "IceTunesModel" (347 : Nat) "IceTunesModel" "within" "I" ∈ wt := wt_of 1290 (by decide +kernel) (by decide +kernel)
theorem wm_1291 : Cond.fieldLink "IceTunesModel" (344 : Nat) "IceTunesModel" "piled" "I" ∈ wt := wt_of 1291 (by decide +kernel) (by decide +kernel)
theorem wm_1292 : Cond.fieldLink "IceTunesModel" (338 : Nat) "IceTunesModel" "unitsInRule" "I" ∈ wt := wt_of 1292 (by decide +kernel) (by decide +kernel)
theorem wm_1293 : Cond.fieldLink "IceTunesModel" (104 : Nat) "IceTunesModel" "all" "[I" ∈ wt := wt_of 1293 (by decide +kernel) (by decide +kernel)
theorem wm_1294 : Cond.fieldLink "IceTunesModel" (107 : Nat) "IceTunesModel" "kept" "[I" ∈ wt := wt_of 1294 (by decide +kernel) (by decide +kernel)
theorem wm_1295 : Cond.fieldLink "IceTunesModel" (110 : Nat) "IceTunesModel" "loads" "[I" ∈ wt := wt_of 1295 (by decide +kernel) (by decide +kernel)
theorem wm_1296 : Cond.fieldLink "IceTunesModel" (113 : Nat) "IceTunesModel" "thick" "[I" ∈ wt := wt_of 1296 (by decide +kernel) (by decide +kernel)
theorem wm_1297 : Cond.fieldLink "IceTunesModel" (116 : Nat) "IceTunesModel" "isMore" "[Z" ∈ wt := wt_of 1297 (by decide +kernel) (by decide +kernel)
theorem wm_1298 : Cond.fieldLink "IceTunesModel" (412 : Nat) "IceTunesModel" "didBreak" "Z" ∈ wt := wt_of 1298 (by decide +kernel) (by decide +kernel)
theorem wm_1299 : Cond.fieldLink "IceTunesModel" (119 : Nat) "IceTunesModel" "was" "[I" ∈ wt := wt_of 1299 (by decide +kernel) (by decide +kernel)
theorem wm_1300 : Cond.fieldLink "IceTunesModel" (386 : Nat) "IceTunesModel" "acts" "I" ∈ wt := wt_of 1300 (by decide +kernel) (by decide +kernel)
theorem wm_1301 : Cond.fieldLink "IceTunesModel" (389 : Nat) "IceTunesModel" "undone" "I" ∈ wt := wt_of 1301 (by decide +kernel) (by decide +kernel)
theorem wm_1302 : Cond.fieldLink "IceTunesModel" (122 : Nat) "IceTunesModel" "row" "[I" ∈ wt := wt_of 1302 (by decide +kernel) (by decide +kernel)
theorem wm_1303 : Cond.fieldLink "IceTunesModel" (125 : Nat) "IceTunesModel" "bestRow" "[I" ∈ wt := wt_of 1303 (by decide +kernel) (by decide +kernel)
theorem wm_1304 : Cond.fieldLink "IceTunesModel" (128 : Nat) "IceTunesModel" "laidRow" "[I" ∈ wt := wt_of 1304 (by decide +kernel) (by decide +kernel)
theorem wm_1305 : Cond.fieldLink "IceTunesModel" (297 : Nat) "IceTunesModel" "laid" "I" ∈ wt := wt_of 1305 (by decide +kernel) (by decide +kernel)
theorem wm_1306 : Cond.fieldLink "IceTunesModel" (131 : Nat) "IceTunesModel" "chosen" "[I" ∈ wt := wt_of 1306 (by decide +kernel) (by decide +kernel)
theorem wm_1307 : Cond.fieldLink "IceTunesModel" (134 : Nat) "IceTunesModel" "duelBest" "[I" ∈ wt := wt_of 1307 (by decide +kernel) (by decide +kernel)
theorem wm_1308 : Cond.fieldLink "IceTunesModel" (137 : Nat) "IceTunesModel" "gBar" "[I" ∈ wt := wt_of 1308 (by decide +kernel) (by decide +kernel)
theorem wm_1309 : Cond.fieldLink "IceTunesModel" (140 : Nat) "IceTunesModel" "gCell" "[I" ∈ wt := wt_of 1309 (by decide +kernel) (by decide +kernel)
theorem wm_1310 : Cond.fieldLink "IceTunesModel" (143 : Nat) "IceTunesModel" "gLeast" "[I" ∈ wt := wt_of 1310 (by decide +kernel) (by decide +kernel)
theorem wm_1311 : Cond.fieldLink "IceTunesModel" (146 : Nat) "IceTunesModel" "gMost" "[I" ∈ wt := wt_of 1311 (by decide +kernel) (by decide +kernel)
theorem wm_1312 : Cond.fieldLink "IceTunesModel" (149 : Nat) "IceTunesModel" "gTold" "[I" ∈ wt := wt_of 1312 (by decide +kernel) (by decide +kernel)
theorem wm_1313 : Cond.fieldLink "IceTunesModel" (152 : Nat) "IceTunesModel" "gUntold" "[I" ∈ wt := wt_of 1313 (by decide +kernel) (by decide +kernel)
theorem wm_1314 : Cond.fieldLink "IceTunesModel" (155 : Nat) "IceTunesModel" "sureOf" "[I" ∈ wt := wt_of 1314 (by decide +kernel) (by decide +kernel)
theorem wm_1315 : Cond.fieldLink "IceTunesModel" (294 : Nat) "IceTunesModel" "sights" "I" ∈ wt := wt_of 1315 (by decide +kernel) (by decide +kernel)
theorem wm_1316 : Cond.fieldLink "IceTunesModel" (480 : Nat) "IceTunesModel" "time" "I" ∈ wt := wt_of 1316 (by decide +kernel) (by decide +kernel)
theorem wm_1317 : Cond.fieldLink "IceTunesModel" (494 : Nat) "IceTunesModel" "askedMany" "I" ∈ wt := wt_of 1317 (by decide +kernel) (by decide +kernel)
theorem wm_1318 : Cond.fieldLink "IceTunesModel" (158 : Nat) "IceTunesModel" "boxAll" "[I" ∈ wt := wt_of 1318 (by decide +kernel) (by decide +kernel)
theorem wm_1319 : Cond.fieldLink "IceTunesModel" (161 : Nat) "IceTunesModel" "isBoxed" "[Z" ∈ wt := wt_of 1319 (by decide +kernel) (by decide +kernel)
theorem wm_1463 : Cond.arrayClass Jvm.ClassFile.FieldType.long ∈ wt := wt_of 1463 (by decide +kernel) (by decide +kernel)
theorem wm_1464 : Cond.methodLink "IceTunesLaw" (27 : Nat) ({ cls := "IceTunesModel", name := "pond", desc := "()I" } : Jvm.MethodName) ∈ wt := wt_of 1464 (by decide +kernel) (by decide +kernel)
theorem wm_1465 : Cond.instanceMethod ({ cls := "IceTunesModel", name := "pond", desc := "()I" } : Jvm.MethodName) ∈ wt := wt_of 1465 (by decide +kernel) (by decide +kernel)
theorem wm_1466 : Cond.selects "IceTunesModel" ({ cls := "IceTunesModel", name := "pond", desc := "()I" } : Jvm.MethodName) ({ cls := "IceTunesModel", name := "pond", desc := "()I" } : Jvm.MethodName) ∈ wt := wt_of 1466 (by decide +kernel) (by decide +kernel)
theorem wm_1467 : Cond.code ({ cls := "IceTunesModel", name := "pond", desc := "()I" } : Jvm.MethodName) prog_13_method_17_code (2 : Nat) (Option.some Jvm.ClassFile.FieldType.int) ∈ wt := wt_of 1467 (by decide +kernel) (by decide +kernel)
theorem wm_1468 : Cond.methodLink "IceTunesModel" (262 : Nat) ({ cls := "IceTunesModel", name := "goOn", desc := "()V" } : Jvm.MethodName) ∈ wt := wt_of 1468 (by decide +kernel) (by decide +kernel)
theorem wm_1470 : Cond.instanceMethod ({ cls := "IceTunesModel", name := "goOn", desc := "()V" } : Jvm.MethodName) ∈ wt := wt_of 1470 (by decide +kernel) (by decide +kernel)
theorem wm_1471 : Cond.code ({ cls := "IceTunesModel", name := "goOn", desc := "()V" } : Jvm.MethodName) prog_13_method_9_code (3 : Nat) (Option.none : Option Jvm.ClassFile.FieldType) ∈ wt := wt_of 1471 (by decide +kernel) (by decide +kernel)
theorem wm_1472 : Cond.methodLink "IceTunesModel" (226 : Nat) ({ cls := "IceTunesModel", name := "sign", desc := "(I)I" } : Jvm.MethodName) ∈ wt := wt_of 1472 (by decide +kernel) (by decide +kernel)
theorem wm_1474 : Cond.instanceMethod ({ cls := "IceTunesModel", name := "sign", desc := "(I)I" } : Jvm.MethodName) ∈ wt := wt_of 1474 (by decide +kernel) (by decide +kernel)
theorem wm_1475 : Cond.code ({ cls := "IceTunesModel", name := "sign", desc := "(I)I" } : Jvm.MethodName) prog_13_method_2_code (2 : Nat) (Option.some Jvm.ClassFile.FieldType.int) ∈ wt := wt_of 1475 (by decide +kernel) (by decide +kernel)
theorem wm_1476 : Cond.methodLink "IceTunesModel" (233 : Nat) ({ cls := "IceTunesModel", name := "isLetter", desc := "(I)Z" } : Jvm.MethodName) ∈ wt := wt_of 1476 (by decide +kernel) (by decide +kernel)
theorem wm_1477 : Cond.static ({ cls := "IceTunesModel", name := "isLetter", desc := "(I)Z" } : Jvm.MethodName) ∈ wt := wt_of 1477 (by decide +kernel) (by decide +kernel)
theorem wm_1478 : Cond.code ({ cls := "IceTunesModel", name := "isLetter", desc := "(I)Z" } : Jvm.MethodName) prog_13_method_3_code (1 : Nat) (Option.some Jvm.ClassFile.FieldType.boolean) ∈ wt := wt_of 1478 (by decide +kernel) (by decide +kernel)
theorem wm_1479 : Cond.methodLink "IceTunesModel" (241 : Nat) ({ cls := "IceTunesModel", name := "isKept", desc := "(J)Z" } : Jvm.MethodName) ∈ wt := wt_of 1479 (by decide +kernel) (by decide +kernel)
theorem wm_1480 : Cond.static ({ cls := "IceTunesModel", name := "isKept", desc := "(J)Z" } : Jvm.MethodName) ∈ wt := wt_of 1480 (by decide +kernel) (by decide +kernel)
theorem wm_1481 : Cond.code ({ cls := "IceTunesModel", name := "isKept", desc := "(J)Z" } : Jvm.MethodName) prog_13_method_7_code (3 : Nat) (Option.some Jvm.ClassFile.FieldType.boolean) ∈ wt := wt_of 1481 (by decide +kernel) (by decide +kernel)
theorem wm_1504 : Cond.methodLink "IceTunesModel" (245 : Nat) ({ cls := "IceTunesModel", name := "isDigit", desc := "(I)Z" } : Jvm.MethodName) ∈ wt := wt_of 1504 (by decide +kernel) (by decide +kernel)
theorem wm_1505 : Cond.static ({ cls := "IceTunesModel", name := "isDigit", desc := "(I)Z" } : Jvm.MethodName) ∈ wt := wt_of 1505 (by decide +kernel) (by decide +kernel)
theorem wm_1506 : Cond.code ({ cls := "IceTunesModel", name := "isDigit", desc := "(I)Z" } : Jvm.MethodName) prog_13_method_4_code (1 : Nat) (Option.some Jvm.ClassFile.FieldType.boolean) ∈ wt := wt_of 1506 (by decide +kernel) (by decide +kernel)
theorem wm_1507 : Cond.methodLink "IceTunesModel" (251 : Nat) ({ cls := "IceTunesModel", name := "isSign", desc := "(I)Z" } : Jvm.MethodName) ∈ wt := wt_of 1507 (by decide +kernel) (by decide +kernel)
theorem wm_1508 : Cond.static ({ cls := "IceTunesModel", name := "isSign", desc := "(I)Z" } : Jvm.MethodName) ∈ wt := wt_of 1508 (by decide +kernel) (by decide +kernel)
theorem wm_1509 : Cond.code ({ cls := "IceTunesModel", name := "isSign", desc := "(I)Z" } : Jvm.MethodName) prog_13_method_8_code (1 : Nat) (Option.some Jvm.ClassFile.FieldType.boolean) ∈ wt := wt_of 1509 (by decide +kernel) (by decide +kernel)
theorem wm_1510 : Cond.methodLink "IceTunesModel" (258 : Nat) ({ cls := "IceTunesModel", name := "isGood", desc := "()Z" } : Jvm.MethodName) ∈ wt := wt_of 1510 (by decide +kernel) (by decide +kernel)
theorem wm_1512 : Cond.instanceMethod ({ cls := "IceTunesModel", name := "isGood", desc := "()Z" } : Jvm.MethodName) ∈ wt := wt_of 1512 (by decide +kernel) (by decide +kernel)
theorem wm_1513 : Cond.code ({ cls := "IceTunesModel", name := "isGood", desc := "()Z" } : Jvm.MethodName) prog_13_method_6_code (1 : Nat) (Option.some Jvm.ClassFile.FieldType.boolean) ∈ wt := wt_of 1513 (by decide +kernel) (by decide +kernel)
theorem wm_1514 : Cond.methodLink "IceTunesModel" (291 : Nat) ({ cls := "IceTunesModel", name := "readLine", desc := "()V" } : Jvm.MethodName) ∈ wt := wt_of 1514 (by decide +kernel) (by decide +kernel)
theorem wm_1516 : Cond.instanceMethod ({ cls := "IceTunesModel", name := "readLine", desc := "()V" } : Jvm.MethodName) ∈ wt := wt_of 1516 (by decide +kernel) (by decide +kernel)
theorem wm_1517 : Cond.code ({ cls := "IceTunesModel", name := "readLine", desc := "()V" } : Jvm.MethodName) prog_13_method_19_code (3 : Nat) (Option.none : Option Jvm.ClassFile.FieldType) ∈ wt := wt_of 1517 (by decide +kernel) (by decide +kernel)
theorem wm_1518 : Cond.methodLink "IceTunesModel" (300 : Nat) ({ cls := "IceTunesModel", name := "isFull", desc := "()Z" } : Jvm.MethodName) ∈ wt := wt_of 1518 (by decide +kernel) (by decide +kernel)
theorem wm_1520 : Cond.instanceMethod ({ cls := "IceTunesModel", name := "isFull", desc := "()Z" } : Jvm.MethodName) ∈ wt := wt_of 1520 (by decide +kernel) (by decide +kernel)
theorem wm_1521 : Cond.code ({ cls := "IceTunesModel", name := "isFull", desc := "()Z" } : Jvm.MethodName) prog_13_method_18_code (1 : Nat) (Option.some Jvm.ClassFile.FieldType.boolean) ∈ wt := wt_of 1521 (by decide +kernel) (by decide +kernel)
theorem wm_1522 : Cond.methodLink "IceTunesModel" (268 : Nat) ({ cls := "IceTunesModel", name := "isWord", desc := "(J)Z" } : Jvm.MethodName) ∈ wt := wt_of 1522 (by decide +kernel) (by decide +kernel)
theorem wm_1524 : Cond.instanceMethod ({ cls := "IceTunesModel", name := "isWord", desc := "(J)Z" } : Jvm.MethodName) ∈ wt := wt_of 1524 (by decide +kernel) (by decide +kernel)
theorem wm_1525 : Cond.code ({ cls := "IceTunesModel", name := "isWord", desc := "(J)Z" } : Jvm.MethodName) prog_13_method_11_code (3 : Nat) (Option.some Jvm.ClassFile.FieldType.boolean) ∈ wt := wt_of 1525 (by decide +kernel) (by decide +kernel)
theorem wm_1526 : Cond.methodLink "IceTunesModel" (265 : Nat) ({ cls := "IceTunesModel", name := "misplaced", desc := "()V" } : Jvm.MethodName) ∈ wt := wt_of 1526 (by decide +kernel) (by decide +kernel)
theorem wm_1528 : Cond.instanceMethod ({ cls := "IceTunesModel", name := "misplaced", desc := "()V" } : Jvm.MethodName) ∈ wt := wt_of 1528 (by decide +kernel) (by decide +kernel)
theorem wm_1529 : Cond.code ({ cls := "IceTunesModel", name := "misplaced", desc := "()V" } : Jvm.MethodName) prog_13_method_12_code (1 : Nat) (Option.none : Option Jvm.ClassFile.FieldType) ∈ wt := wt_of 1529 (by decide +kernel) (by decide +kernel)
theorem wm_1530 : Cond.methodLink "IceTunesModel" (254 : Nat) ({ cls := "IceTunesModel", name := "fails", desc := "(II)V" } : Jvm.MethodName) ∈ wt := wt_of 1530 (by decide +kernel) (by decide +kernel)
theorem wm_1532 : Cond.instanceMethod ({ cls := "IceTunesModel", name := "fails", desc := "(II)V" } : Jvm.MethodName) ∈ wt := wt_of 1532 (by decide +kernel) (by decide +kernel)
theorem wm_1533 : Cond.code ({ cls := "IceTunesModel", name := "fails", desc := "(II)V" } : Jvm.MethodName) prog_13_method_5_code (3 : Nat) (Option.none : Option Jvm.ClassFile.FieldType) ∈ wt := wt_of 1533 (by decide +kernel) (by decide +kernel)
theorem wm_1534 : Cond.methodLink "IceTunesModel" (275 : Nat) ({ cls := "IceTunesModel", name := "numeral", desc := "(II)I" } : Jvm.MethodName) ∈ wt := wt_of 1534 (by decide +kernel) (by decide +kernel)
theorem wm_1536 : Cond.instanceMethod ({ cls := "IceTunesModel", name := "numeral", desc := "(II)I" } : Jvm.MethodName) ∈ wt := wt_of 1536 (by decide +kernel) (by decide +kernel)
theorem wm_1537 : Cond.code ({ cls := "IceTunesModel", name := "numeral", desc := "(II)I" } : Jvm.MethodName) prog_13_method_14_code (4 : Nat) (Option.some Jvm.ClassFile.FieldType.int) ∈ wt := wt_of 1537 (by decide +kernel) (by decide +kernel)
theorem wm_1538 : Cond.methodLink "IceTunesModel" (303 : Nat) ({ cls := "IceTunesModel", name := "after", desc := "(JII)I" } : Jvm.MethodName) ∈ wt := wt_of 1538 (by decide +kernel) (by decide +kernel)
theorem wm_1540 : Cond.instanceMethod ({ cls := "IceTunesModel", name := "after", desc := "(JII)I" } : Jvm.MethodName) ∈ wt := wt_of 1540 (by decide +kernel) (by decide +kernel)
theorem wm_1541 : Cond.code ({ cls := "IceTunesModel", name := "after", desc := "(JII)I" } : Jvm.MethodName) prog_13_method_15_code (5 : Nat) (Option.some Jvm.ClassFile.FieldType.int) ∈ wt := wt_of 1541 (by decide +kernel) (by decide +kernel)
theorem wm_1542 : Cond.methodLink "IceTunesModel" (271 : Nat) ({ cls := "IceTunesModel", name := "must", desc := "(Z)V" } : Jvm.MethodName) ∈ wt := wt_of 1542 (by decide +kernel) (by decide +kernel)
theorem wm_1544 : Cond.instanceMethod ({ cls := "IceTunesModel", name := "must", desc := "(Z)V" } : Jvm.MethodName) ∈ wt := wt_of 1544 (by decide +kernel) (by decide +kernel)
theorem wm_1545 : Cond.code ({ cls := "IceTunesModel", name := "must", desc := "(Z)V" } : Jvm.MethodName) prog_13_method_13_code (2 : Nat) (Option.none : Option Jvm.ClassFile.FieldType) ∈ wt := wt_of 1545 (by decide +kernel) (by decide +kernel)
theorem wm_1546 : Cond.methodLink "IceTunesModel" (307 : Nat) ({ cls := "IceTunesModel", name := "readCell", desc := "()V" } : Jvm.MethodName) ∈ wt := wt_of 1546 (by decide +kernel) (by decide +kernel)
theorem wm_1548 : Cond.instanceMethod ({ cls := "IceTunesModel", name := "readCell", desc := "()V" } : Jvm.MethodName) ∈ wt := wt_of 1548 (by decide +kernel) (by decide +kernel)
theorem wm_1549 : Cond.code ({ cls := "IceTunesModel", name := "readCell", desc := "()V" } : Jvm.MethodName) prog_13_method_20_code (5 : Nat) (Option.none : Option Jvm.ClassFile.FieldType) ∈ wt := wt_of 1549 (by decide +kernel) (by decide +kernel)
theorem wm_1550 : Cond.methodLink "IceTunesModel" (310 : Nat) ({ cls := "IceTunesModel", name := "readPlank", desc := "()V" } : Jvm.MethodName) ∈ wt := wt_of 1550 (by decide +kernel) (by decide +kernel)
theorem wm_1552 : Cond.instanceMethod ({ cls := "IceTunesModel", name := "readPlank", desc := "()V" } : Jvm.MethodName) ∈ wt := wt_of 1552 (by decide +kernel) (by decide +kernel)
theorem wm_1553 : Cond.code ({ cls := "IceTunesModel", name := "readPlank", desc := "()V" } : Jvm.MethodName) prog_13_method_21_code (4 : Nat) (Option.none : Option Jvm.ClassFile.FieldType) ∈ wt := wt_of 1553 (by decide +kernel) (by decide +kernel)
theorem wm_1554 : Cond.methodLink "IceTunesModel" (313 : Nat) ({ cls := "IceTunesModel", name := "readTune", desc := "()V" } : Jvm.MethodName) ∈ wt := wt_of 1554 (by decide +kernel) (by decide +kernel)
theorem wm_1556 : Cond.instanceMethod ({ cls := "IceTunesModel", name := "readTune", desc := "()V" } : Jvm.MethodName) ∈ wt := wt_of 1556 (by decide +kernel) (by decide +kernel)
theorem wm_1557 : Cond.code ({ cls := "IceTunesModel", name := "readTune", desc := "()V" } : Jvm.MethodName) prog_13_method_24_code (2 : Nat) (Option.none : Option Jvm.ClassFile.FieldType) ∈ wt := wt_of 1557 (by decide +kernel) (by decide +kernel)
theorem wm_1558 : Cond.methodLink "IceTunesModel" (326 : Nat) ({ cls := "IceTunesModel", name := "here", desc := "([JII)I" } : Jvm.MethodName) ∈ wt := wt_of 1558 (by decide +kernel) (by decide +kernel)
theorem wm_1560 : Cond.instanceMethod ({ cls := "IceTunesModel", name := "here", desc := "([JII)I" } : Jvm.MethodName) ∈ wt := wt_of 1560 (by decide +kernel) (by decide +kernel)
theorem wm_1561 : Cond.code ({ cls := "IceTunesModel", name := "here", desc := "([JII)I" } : Jvm.MethodName) prog_13_method_22_code (5 : Nat) (Option.some Jvm.ClassFile.FieldType.int) ∈ wt := wt_of 1561 (by decide +kernel) (by decide +kernel)
theorem wm_1562 : Cond.methodLink "IceTunesModel" (330 : Nat) ({ cls := "IceTunesModel", name := "fresh", desc := "(Z)J" } : Jvm.MethodName) ∈ wt := wt_of 1562 (by decide +kernel) (by decide +kernel)
theorem wm_1564 : Cond.instanceMethod ({ cls := "IceTunesModel", name := "fresh", desc := "(Z)J" } : Jvm.MethodName) ∈ wt := wt_of 1564 (by decide +kernel) (by decide +kernel)
theorem wm_1565 : Cond.code ({ cls := "IceTunesModel", name := "fresh", desc := "(Z)J" } : Jvm.MethodName) prog_13_method_23_code (4 : Nat) (Option.some Jvm.ClassFile.FieldType.long) ∈ wt := wt_of 1565 (by decide +kernel) (by decide +kernel)
theorem wm_1566 : Cond.methodLink "IceTunesModel" (316 : Nat) ({ cls := "IceTunesModel", name := "readRule", desc := "(I)V" } : Jvm.MethodName) ∈ wt := wt_of 1566 (by decide +kernel) (by decide +kernel)
theorem wm_1568 : Cond.instanceMethod ({ cls := "IceTunesModel", name := "readRule", desc := "(I)V" } : Jvm.MethodName) ∈ wt := wt_of 1568 (by decide +kernel) (by decide +kernel)
theorem wm_1569 : Cond.code ({ cls := "IceTunesModel", name := "readRule", desc := "(I)V" } : Jvm.MethodName) prog_13_method_27_code (2 : Nat) (Option.none : Option Jvm.ClassFile.FieldType) ∈ wt := wt_of 1569 (by decide +kernel) (by decide +kernel)
theorem wm_1570 : Cond.methodLink "IceTunesModel" (341 : Nat) ({ cls := "IceTunesModel", name := "e", desc := "()V" } : Jvm.MethodName) ∈ wt := wt_of 1570 (by decide +kernel) (by decide +kernel)
theorem wm_1572 : Cond.instanceMethod ({ cls := "IceTunesModel", name := "e", desc := "()V" } : Jvm.MethodName) ∈ wt := wt_of 1572 (by decide +kernel) (by decide +kernel)
theorem wm_1573 : Cond.code ({ cls := "IceTunesModel", name := "e", desc := "()V" } : Jvm.MethodName) prog_13_method_30_code (2 : Nat) (Option.none : Option Jvm.ClassFile.FieldType) ∈ wt := wt_of 1573 (by decide +kernel) (by decide +kernel)
theorem wm_1574 : Cond.methodLink "IceTunesModel" (350 : Nat) ({ cls := "IceTunesModel", name := "pushE", desc := "(II)V" } : Jvm.MethodName) ∈ wt := wt_of 1574 (by decide +kernel) (by decide +kernel)
theorem wm_1576 : Cond.instanceMethod ({ cls := "IceTunesModel", name := "pushE", desc := "(II)V" } : Jvm.MethodName) ∈ wt := wt_of 1576 (by decide +kernel) (by decide +kernel)
theorem wm_1577 : Cond.code ({ cls := "IceTunesModel", name := "pushE", desc := "(II)V" } : Jvm.MethodName) prog_13_method_29_code (3 : Nat) (Option.none : Option Jvm.ClassFile.FieldType) ∈ wt := wt_of 1577 (by decide +kernel) (by decide +kernel)
theorem wm_1578 : Cond.methodLink "IceTunesModel" (353 : Nat) ({ cls := "IceTunesModel", name := "unit", desc := "()Z" } : Jvm.MethodName) ∈ wt := wt_of 1578 (by decide +kernel) (by decide +kernel)
theorem wm_1580 : Cond.instanceMethod ({ cls := "IceTunesModel", name := "unit", desc := "()Z" } : Jvm.MethodName) ∈ wt := wt_of 1580 (by decide +kernel) (by decide +kernel)
theorem wm_1581 : Cond.code ({ cls := "IceTunesModel", name := "unit", desc := "()Z" } : Jvm.MethodName) prog_13_method_32_code (7 : Nat) (Option.some Jvm.ClassFile.FieldType.boolean) ∈ wt := wt_of 1581 (by decide +kernel) (by decide +kernel)
theorem wm_1582 : Cond.methodLink "IceTunesModel" (323 : Nat) ({ cls := "IceTunesModel", name := "isSignHere", desc := "(I)Z" } : Jvm.MethodName) ∈ wt := wt_of 1582 (by decide +kernel) (by decide +kernel)
theorem wm_1584 : Cond.instanceMethod ({ cls := "IceTunesModel", name := "isSignHere", desc := "(I)Z" } : Jvm.MethodName) ∈ wt := wt_of 1584 (by decide +kernel) (by decide +kernel)
theorem wm_1585 : Cond.code ({ cls := "IceTunesModel", name := "isSignHere", desc := "(I)Z" } : Jvm.MethodName) prog_13_method_10_code (2 : Nat) (Option.some Jvm.ClassFile.FieldType.boolean) ∈ wt := wt_of 1585 (by decide +kernel) (by decide +kernel)
theorem wm_1586 : Cond.methodLink "IceTunesModel" (359 : Nat) ({ cls := "IceTunesModel", name := "wordHere", desc := "()I" } : Jvm.MethodName) ∈ wt := wt_of 1586 (by decide +kernel) (by decide +kernel)
theorem wm_1588 : Cond.instanceMethod ({ cls := "IceTunesModel", name := "wordHere", desc := "()I" } : Jvm.MethodName) ∈ wt := wt_of 1588 (by decide +kernel) (by decide +kernel)
theorem wm_1589 : Cond.code ({ cls := "IceTunesModel", name := "wordHere", desc := "()I" } : Jvm.MethodName) prog_13_method_31_code (1 : Nat) (Option.some Jvm.ClassFile.FieldType.int) ∈ wt := wt_of 1589 (by decide +kernel) (by decide +kernel)
theorem wm_1590 : Cond.methodLink "IceTunesModel" (362 : Nat) ({ cls := "IceTunesModel", name := "emit", desc := "(II)V" } : Jvm.MethodName) ∈ wt := wt_of 1590 (by decide +kernel) (by decide +kernel)
theorem wm_1592 : Cond.instanceMethod ({ cls := "IceTunesModel", name := "emit", desc := "(II)V" } : Jvm.MethodName) ∈ wt := wt_of 1592 (by decide +kernel) (by decide +kernel)
theorem wm_1593 : Cond.code ({ cls := "IceTunesModel", name := "emit", desc := "(II)V" } : Jvm.MethodName) prog_13_method_28_code (3 : Nat) (Option.none : Option Jvm.ClassFile.FieldType) ∈ wt := wt_of 1593 (by decide +kernel) (by decide +kernel)
theorem wm_1594 : Cond.methodLink "IceTunesModel" (356 : Nat) ({ cls := "IceTunesModel", name := "behindUnit", desc := "()Z" } : Jvm.MethodName) ∈ wt := wt_of 1594 (by decide +kernel) (by decide +kernel)
theorem wm_1596 : Cond.instanceMethod ({ cls := "IceTunesModel", name := "behindUnit", desc := "()Z" } : Jvm.MethodName) ∈ wt := wt_of 1596 (by decide +kernel) (by decide +kernel)
theorem wm_1597 : Cond.code ({ cls := "IceTunesModel", name := "behindUnit", desc := "()Z" } : Jvm.MethodName) prog_13_method_35_code (2 : Nat) (Option.some Jvm.ClassFile.FieldType.boolean) ∈ wt := wt_of 1597 (by decide +kernel) (by decide +kernel)
theorem wm_1598 : Cond.methodLink "IceTunesModel" (365 : Nat) ({ cls := "IceTunesModel", name := "rankHere", desc := "()I" } : Jvm.MethodName) ∈ wt := wt_of 1598 (by decide +kernel) (by decide +kernel)
theorem wm_1600 : Cond.instanceMethod ({ cls := "IceTunesModel", name := "rankHere", desc := "()I" } : Jvm.MethodName) ∈ wt := wt_of 1600 (by decide +kernel) (by decide +kernel)
theorem wm_1601 : Cond.code ({ cls := "IceTunesModel", name := "rankHere", desc := "()I" } : Jvm.MethodName) prog_13_method_33_code (1 : Nat) (Option.some Jvm.ClassFile.FieldType.int) ∈ wt := wt_of 1601 (by decide +kernel) (by decide +kernel)
theorem wm_1602 : Cond.methodLink "IceTunesModel" (368 : Nat) ({ cls := "IceTunesModel", name := "isCompared", desc := "()Z" } : Jvm.MethodName) ∈ wt := wt_of 1602 (by decide +kernel) (by decide +kernel)
theorem wm_1604 : Cond.instanceMethod ({ cls := "IceTunesModel", name := "isCompared", desc := "()Z" } : Jvm.MethodName) ∈ wt := wt_of 1604 (by decide +kernel) (by decide +kernel)
theorem wm_1605 : Cond.code ({ cls := "IceTunesModel", name := "isCompared", desc := "()Z" } : Jvm.MethodName) prog_13_method_34_code (2 : Nat) (Option.some Jvm.ClassFile.FieldType.boolean) ∈ wt := wt_of 1605 (by decide +kernel) (by decide +kernel)
theorem wm_1606 : Cond.methodLink "IceTunesModel" (320 : Nat) ({ cls := "IceTunesModel", name := "readSkater", desc := "()V" } : Jvm.MethodName) ∈ wt := wt_of 1606 (by decide +kernel) (by decide +kernel)
theorem wm_1608 : Cond.instanceMethod ({ cls := "IceTunesModel", name := "readSkater", desc := "()V" } : Jvm.MethodName) ∈ wt := wt_of 1608 (by decide +kernel) (by decide +kernel)
theorem wm_1609 : Cond.code ({ cls := "IceTunesModel", name := "readSkater", desc := "()V" } : Jvm.MethodName) prog_13_method_26_code (2 : Nat) (Option.none : Option Jvm.ClassFile.FieldType) ∈ wt := wt_of 1609 (by decide +kernel) (by decide +kernel)
theorem wm_1610 : Cond.methodLink "IceTunesModel" (334 : Nat) ({ cls := "IceTunesModel", name := "stepHere", desc := "()I" } : Jvm.MethodName) ∈ wt := wt_of 1610 (by decide +kernel) (by decide +kernel)
theorem wm_1612 : Cond.instanceMethod ({ cls := "IceTunesModel", name := "stepHere", desc := "()I" } : Jvm.MethodName) ∈ wt := wt_of 1612 (by decide +kernel) (by decide +kernel)
theorem wm_1613 : Cond.code ({ cls := "IceTunesModel", name := "stepHere", desc := "()I" } : Jvm.MethodName) prog_13_method_25_code (1 : Nat) (Option.some Jvm.ClassFile.FieldType.int) ∈ wt := wt_of 1613 (by decide +kernel) (by decide +kernel)
theorem wm_1614 : Cond.methodLink "IceTunesLaw" (31 : Nat) ({ cls := "IceTunesModel", name := "fault", desc := "(I)I" } : Jvm.MethodName) ∈ wt := wt_of 1614 (by decide +kernel) (by decide +kernel)
theorem wm_1615 : Cond.instanceMethod ({ cls := "IceTunesModel", name := "fault", desc := "(I)I" } : Jvm.MethodName) ∈ wt := wt_of 1615 (by decide +kernel) (by decide +kernel)
theorem wm_1616 : Cond.selects "IceTunesModel" ({ cls := "IceTunesModel", name := "fault", desc := "(I)I" } : Jvm.MethodName) ({ cls := "IceTunesModel", name := "fault", desc := "(I)I" } : Jvm.MethodName) ∈ wt := wt_of 1616 (by decide +kernel) (by decide +kernel)
theorem wm_1617 : Cond.code ({ cls := "IceTunesModel", name := "fault", desc := "(I)I" } : Jvm.MethodName) prog_13_method_38_code (2 : Nat) (Option.some Jvm.ClassFile.FieldType.int) ∈ wt := wt_of 1617 (by decide +kernel) (by decide +kernel)
theorem wm_1618 : Cond.methodLink "IceTunesLaw" (36 : Nat) ({ cls := "IceTunesModel", name := "ice", desc := "(II)I" } : Jvm.MethodName) ∈ wt := wt_of 1618 (by decide +kernel) (by decide +kernel)
theorem wm_1619 : Cond.instanceMethod ({ cls := "IceTunesModel", name := "ice", desc := "(II)I" } : Jvm.MethodName) ∈ wt := wt_of 1619 (by decide +kernel) (by decide +kernel)
theorem wm_1620 : Cond.selects "IceTunesModel" ({ cls := "IceTunesModel", name := "ice", desc := "(II)I" } : Jvm.MethodName) ({ cls := "IceTunesModel", name := "ice", desc := "(II)I" } : Jvm.MethodName) ∈ wt := wt_of 1620 (by decide +kernel) (by decide +kernel)
theorem wm_1621 : Cond.code ({ cls := "IceTunesModel", name := "ice", desc := "(II)I" } : Jvm.MethodName) prog_13_method_58_code (3 : Nat) (Option.some Jvm.ClassFile.FieldType.int) ∈ wt := wt_of 1621 (by decide +kernel) (by decide +kernel)
theorem wm_1622 : Cond.methodLink "IceTunesModel" (395 : Nat) ({ cls := "IceTunesModel", name := "isCell", desc := "(II)Z" } : Jvm.MethodName) ∈ wt := wt_of 1622 (by decide +kernel) (by decide +kernel)
theorem wm_1624 : Cond.instanceMethod ({ cls := "IceTunesModel", name := "isCell", desc := "(II)Z" } : Jvm.MethodName) ∈ wt := wt_of 1624 (by decide +kernel) (by decide +kernel)
theorem wm_1625 : Cond.code ({ cls := "IceTunesModel", name := "isCell", desc := "(II)Z" } : Jvm.MethodName) prog_13_method_40_code (3 : Nat) (Option.some Jvm.ClassFile.FieldType.boolean) ∈ wt := wt_of 1625 (by decide +kernel) (by decide +kernel)
theorem wm_1626 : Cond.methodLink "IceTunesModel" (375 : Nat) ({ cls := "IceTunesModel", name := "isIn", desc := "(III)Z" } : Jvm.MethodName) ∈ wt := wt_of 1626 (by decide +kernel) (by decide +kernel)
theorem wm_1627 : Cond.static ({ cls := "IceTunesModel", name := "isIn", desc := "(III)Z" } : Jvm.MethodName) ∈ wt := wt_of 1627 (by decide +kernel) (by decide +kernel)
theorem wm_1628 : Cond.code ({ cls := "IceTunesModel", name := "isIn", desc := "(III)Z" } : Jvm.MethodName) prog_13_method_39_code (3 : Nat) (Option.some Jvm.ClassFile.FieldType.boolean) ∈ wt := wt_of 1628 (by decide +kernel) (by decide +kernel)
theorem wm_1629 : Cond.methodLink "IceTunesLaw" (40 : Nat) ({ cls := "IceTunesModel", name := "load", desc := "(II)I" } : Jvm.MethodName) ∈ wt := wt_of 1629 (by decide +kernel) (by decide +kernel)
theorem wm_1630 : Cond.instanceMethod ({ cls := "IceTunesModel", name := "load", desc := "(II)I" } : Jvm.MethodName) ∈ wt := wt_of 1630 (by decide +kernel) (by decide +kernel)
theorem wm_1631 : Cond.selects "IceTunesModel" ({ cls := "IceTunesModel", name := "load", desc := "(II)I" } : Jvm.MethodName) ({ cls := "IceTunesModel", name := "load", desc := "(II)I" } : Jvm.MethodName) ∈ wt := wt_of 1631 (by decide +kernel) (by decide +kernel)
theorem wm_1632 : Cond.code ({ cls := "IceTunesModel", name := "load", desc := "(II)I" } : Jvm.MethodName) prog_13_method_59_code (3 : Nat) (Option.some Jvm.ClassFile.FieldType.int) ∈ wt := wt_of 1632 (by decide +kernel) (by decide +kernel)
theorem wm_1633 : Cond.methodLink "IceTunesModel" (402 : Nat) ({ cls := "IceTunesModel", name := "layLoads", desc := "()V" } : Jvm.MethodName) ∈ wt := wt_of 1633 (by decide +kernel) (by decide +kernel)
theorem wm_1635 : Cond.instanceMethod ({ cls := "IceTunesModel", name := "layLoads", desc := "()V" } : Jvm.MethodName) ∈ wt := wt_of 1635 (by decide +kernel) (by decide +kernel)
theorem wm_1636 : Cond.code ({ cls := "IceTunesModel", name := "layLoads", desc := "()V" } : Jvm.MethodName) prog_13_method_50_code (2 : Nat) (Option.none : Option Jvm.ClassFile.FieldType) ∈ wt := wt_of 1636 (by decide +kernel) (by decide +kernel)
theorem wm_1637 : Cond.methodLink "IceTunesModel" (392 : Nat) ({ cls := "IceTunesModel", name := "of", desc := "(II)I" } : Jvm.MethodName) ∈ wt := wt_of 1637 (by decide +kernel) (by decide +kernel)
theorem wm_1639 : Cond.instanceMethod ({ cls := "IceTunesModel", name := "of", desc := "(II)I" } : Jvm.MethodName) ∈ wt := wt_of 1639 (by decide +kernel) (by decide +kernel)
theorem wm_1640 : Cond.code ({ cls := "IceTunesModel", name := "of", desc := "(II)I" } : Jvm.MethodName) prog_13_method_43_code (3 : Nat) (Option.some Jvm.ClassFile.FieldType.int) ∈ wt := wt_of 1640 (by decide +kernel) (by decide +kernel)
theorem wm_1641 : Cond.methodLink "IceTunesLaw" (44 : Nat) ({ cls := "IceTunesModel", name := "skater", desc := "(II)I" } : Jvm.MethodName) ∈ wt := wt_of 1641 (by decide +kernel) (by decide +kernel)
theorem wm_1642 : Cond.instanceMethod ({ cls := "IceTunesModel", name := "skater", desc := "(II)I" } : Jvm.MethodName) ∈ wt := wt_of 1642 (by decide +kernel) (by decide +kernel)
theorem wm_1643 : Cond.selects "IceTunesModel" ({ cls := "IceTunesModel", name := "skater", desc := "(II)I" } : Jvm.MethodName) ({ cls := "IceTunesModel", name := "skater", desc := "(II)I" } : Jvm.MethodName) ∈ wt := wt_of 1643 (by decide +kernel) (by decide +kernel)
theorem wm_1644 : Cond.code ({ cls := "IceTunesModel", name := "skater", desc := "(II)I" } : Jvm.MethodName) prog_13_method_60_code (3 : Nat) (Option.some Jvm.ClassFile.FieldType.int) ∈ wt := wt_of 1644 (by decide +kernel) (by decide +kernel)
theorem wm_1645 : Cond.methodLink "IceTunesModel" (425 : Nat) ({ cls := "IceTunesModel", name := "isSkater", desc := "(I)Z" } : Jvm.MethodName) ∈ wt := wt_of 1645 (by decide +kernel) (by decide +kernel)
theorem wm_1647 : Cond.instanceMethod ({ cls := "IceTunesModel", name := "isSkater", desc := "(I)Z" } : Jvm.MethodName) ∈ wt := wt_of 1647 (by decide +kernel) (by decide +kernel)
theorem wm_1648 : Cond.code ({ cls := "IceTunesModel", name := "isSkater", desc := "(I)Z" } : Jvm.MethodName) prog_13_method_42_code (2 : Nat) (Option.some Jvm.ClassFile.FieldType.boolean) ∈ wt := wt_of 1648 (by decide +kernel) (by decide +kernel)
theorem wm_1649 : Cond.methodLink "IceTunesLaw" (48 : Nat) ({ cls := "IceTunesModel", name := "play", desc := "(I)I" } : Jvm.MethodName) ∈ wt := wt_of 1649 (by decide +kernel) (by decide +kernel)
theorem wm_1650 : Cond.instanceMethod ({ cls := "IceTunesModel", name := "play", desc := "(I)I" } : Jvm.MethodName) ∈ wt := wt_of 1650 (by decide +kernel) (by decide +kernel)
theorem wm_1651 : Cond.selects "IceTunesModel" ({ cls := "IceTunesModel", name := "play", desc := "(I)I" } : Jvm.MethodName) ({ cls := "IceTunesModel", name := "play", desc := "(I)I" } : Jvm.MethodName) ∈ wt := wt_of 1651 (by decide +kernel) (by decide +kernel)
theorem wm_1652 : Cond.code ({ cls := "IceTunesModel", name := "play", desc := "(I)I" } : Jvm.MethodName) prog_13_method_63_code (2 : Nat) (Option.some Jvm.ClassFile.FieldType.int) ∈ wt := wt_of 1652 (by decide +kernel) (by decide +kernel)
theorem wm_1653 : Cond.methodLink "IceTunesModel" (428 : Nat) ({ cls := "IceTunesModel", name := "isTune", desc := "(I)Z" } : Jvm.MethodName) ∈ wt := wt_of 1653 (by decide +kernel) (by decide +kernel)
theorem wm_1655 : Cond.instanceMethod ({ cls := "IceTunesModel", name := "isTune", desc := "(I)Z" } : Jvm.MethodName) ∈ wt := wt_of 1655 (by decide +kernel) (by decide +kernel)
theorem wm_1656 : Cond.code ({ cls := "IceTunesModel", name := "isTune", desc := "(I)Z" } : Jvm.MethodName) prog_13_method_41_code (2 : Nat) (Option.some Jvm.ClassFile.FieldType.boolean) ∈ wt := wt_of 1656 (by decide +kernel) (by decide +kernel)
theorem wm_1657 : Cond.methodLink "IceTunesModel" (431 : Nat) ({ cls := "IceTunesModel", name := "keepAct", desc := "()V" } : Jvm.MethodName) ∈ wt := wt_of 1657 (by decide +kernel) (by decide +kernel)
theorem wm_1659 : Cond.instanceMethod ({ cls := "IceTunesModel", name := "keepAct", desc := "()V" } : Jvm.MethodName) ∈ wt := wt_of 1659 (by decide +kernel) (by decide +kernel)
theorem wm_1660 : Cond.code ({ cls := "IceTunesModel", name := "keepAct", desc := "()V" } : Jvm.MethodName) prog_13_method_61_code (2 : Nat) (Option.none : Option Jvm.ClassFile.FieldType) ∈ wt := wt_of 1660 (by decide +kernel) (by decide +kernel)
theorem wm_1661 : Cond.methodLink "IceTunesModel" (434 : Nat) ({ cls := "IceTunesModel", name := "tune", desc := "(I)V" } : Jvm.MethodName) ∈ wt := wt_of 1661 (by decide +kernel) (by decide +kernel)
theorem wm_1663 : Cond.instanceMethod ({ cls := "IceTunesModel", name := "tune", desc := "(I)V" } : Jvm.MethodName) ∈ wt := wt_of 1663 (by decide +kernel) (by decide +kernel)
theorem wm_1664 : Cond.code ({ cls := "IceTunesModel", name := "tune", desc := "(I)V" } : Jvm.MethodName) prog_13_method_54_code (3 : Nat) (Option.none : Option Jvm.ClassFile.FieldType) ∈ wt := wt_of 1664 (by decide +kernel) (by decide +kernel)
theorem wm_1665 : Cond.methodLink "IceTunesModel" (419 : Nat) ({ cls := "IceTunesModel", name := "bar", desc := "(II)V" } : Jvm.MethodName) ∈ wt := wt_of 1665 (by decide +kernel) (by decide +kernel)
theorem wm_1667 : Cond.instanceMethod ({ cls := "IceTunesModel", name := "bar", desc := "(II)V" } : Jvm.MethodName) ∈ wt := wt_of 1667 (by decide +kernel) (by decide +kernel)
theorem wm_1668 : Cond.code ({ cls := "IceTunesModel", name := "bar", desc := "(II)V" } : Jvm.MethodName) prog_13_method_52_code (8 : Nat) (Option.none : Option Jvm.ClassFile.FieldType) ∈ wt := wt_of 1668 (by decide +kernel) (by decide +kernel)
theorem wm_1669 : Cond.methodLink "IceTunesModel" (399 : Nat) ({ cls := "IceTunesModel", name := "goes", desc := "(I)V" } : Jvm.MethodName) ∈ wt := wt_of 1669 (by decide +kernel) (by decide +kernel)
theorem wm_1671 : Cond.instanceMethod ({ cls := "IceTunesModel", name := "goes", desc := "(I)V" } : Jvm.MethodName) ∈ wt := wt_of 1671 (by decide +kernel) (by decide +kernel)
theorem wm_1672 : Cond.code ({ cls := "IceTunesModel", name := "goes", desc := "(I)V" } : Jvm.MethodName) prog_13_method_49_code (6 : Nat) (Option.none : Option Jvm.ClassFile.FieldType) ∈ wt := wt_of 1672 (by decide +kernel) (by decide +kernel)
theorem wm_1673 : Cond.methodLink "IceTunesModel" (405 : Nat) ({ cls := "IceTunesModel", name := "iceAt", desc := "(II)I" } : Jvm.MethodName) ∈ wt := wt_of 1673 (by decide +kernel) (by decide +kernel)
theorem wm_1675 : Cond.instanceMethod ({ cls := "IceTunesModel", name := "iceAt", desc := "(II)I" } : Jvm.MethodName) ∈ wt := wt_of 1675 (by decide +kernel) (by decide +kernel)
theorem wm_1676 : Cond.code ({ cls := "IceTunesModel", name := "iceAt", desc := "(II)I" } : Jvm.MethodName) prog_13_method_51_code (3 : Nat) (Option.some Jvm.ClassFile.FieldType.int) ∈ wt := wt_of 1676 (by decide +kernel) (by decide +kernel)
theorem wm_1677 : Cond.methodLink "IceTunesModel" (408 : Nat) ({ cls := "IceTunesModel", name := "comes", desc := "(IIIII)I" } : Jvm.MethodName) ∈ wt := wt_of 1677 (by decide +kernel) (by decide +kernel)
theorem wm_1679 : Cond.instanceMethod ({ cls := "IceTunesModel", name := "comes", desc := "(IIIII)I" } : Jvm.MethodName) ∈ wt := wt_of 1679 (by decide +kernel) (by decide +kernel)
theorem wm_1680 : Cond.code ({ cls := "IceTunesModel", name := "comes", desc := "(IIIII)I" } : Jvm.MethodName) prog_13_method_37_code (9 : Nat) (Option.some Jvm.ClassFile.FieldType.int) ∈ wt := wt_of 1680 (by decide +kernel) (by decide +kernel)
theorem wm_1681 : Cond.methodLink "IceTunesModel" (371 : Nat) ({ cls := "IceTunesModel", name := "two", desc := "(III)I" } : Jvm.MethodName) ∈ wt := wt_of 1681 (by decide +kernel) (by decide +kernel)
theorem wm_1682 : Cond.static ({ cls := "IceTunesModel", name := "two", desc := "(III)I" } : Jvm.MethodName) ∈ wt := wt_of 1682 (by decide +kernel) (by decide +kernel)
theorem wm_1683 : Cond.code ({ cls := "IceTunesModel", name := "two", desc := "(III)I" } : Jvm.MethodName) prog_13_method_36_code (3 : Nat) (Option.some Jvm.ClassFile.FieldType.int) ∈ wt := wt_of 1683 (by decide +kernel) (by decide +kernel)
theorem wm_1684 : Cond.methodLink "IceTunesModel" (416 : Nat) ({ cls := "IceTunesModel", name := "breaksAt", desc := "(III)V" } : Jvm.MethodName) ∈ wt := wt_of 1684 (by decide +kernel) (by decide +kernel)
theorem wm_1686 : Cond.instanceMethod ({ cls := "IceTunesModel", name := "breaksAt", desc := "(III)V" } : Jvm.MethodName) ∈ wt := wt_of 1686 (by decide +kernel) (by decide +kernel)
theorem wm_1687 : Cond.code ({ cls := "IceTunesModel", name := "breaksAt", desc := "(III)V" } : Jvm.MethodName) prog_13_method_53_code (5 : Nat) (Option.none : Option Jvm.ClassFile.FieldType) ∈ wt := wt_of 1687 (by decide +kernel) (by decide +kernel)
theorem wm_1688 : Cond.methodLink "IceTunesModel" (422 : Nat) ({ cls := "IceTunesModel", name := "upMany", desc := "()I" } : Jvm.MethodName) ∈ wt := wt_of 1688 (by decide +kernel) (by decide +kernel)
theorem wm_1690 : Cond.instanceMethod ({ cls := "IceTunesModel", name := "upMany", desc := "()I" } : Jvm.MethodName) ∈ wt := wt_of 1690 (by decide +kernel) (by decide +kernel)
theorem wm_1691 : Cond.code ({ cls := "IceTunesModel", name := "upMany", desc := "()I" } : Jvm.MethodName) prog_13_method_56_code (3 : Nat) (Option.some Jvm.ClassFile.FieldType.int) ∈ wt := wt_of 1691 (by decide +kernel) (by decide +kernel)
theorem wm_1692 : Cond.methodLink "IceTunesLaw" (52 : Nat) ({ cls := "IceTunesModel", name := "hold", desc := "(I)I" } : Jvm.MethodName) ∈ wt := wt_of 1692 (by decide +kernel) (by decide +kernel)
theorem wm_1693 : Cond.instanceMethod ({ cls := "IceTunesModel", name := "hold", desc := "(I)I" } : Jvm.MethodName) ∈ wt := wt_of 1693 (by decide +kernel) (by decide +kernel)
theorem wm_1694 : Cond.selects "IceTunesModel" ({ cls := "IceTunesModel", name := "hold", desc := "(I)I" } : Jvm.MethodName) ({ cls := "IceTunesModel", name := "hold", desc := "(I)I" } : Jvm.MethodName) ∈ wt := wt_of 1694 (by decide +kernel) (by decide +kernel)
theorem wm_1695 : Cond.code ({ cls := "IceTunesModel", name := "hold", desc := "(I)I" } : Jvm.MethodName) prog_13_method_64_code (2 : Nat) (Option.some Jvm.ClassFile.FieldType.int) ∈ wt := wt_of 1695 (by decide +kernel) (by decide +kernel)
theorem wm_1696 : Cond.methodLink "IceTunesModel" (437 : Nat) ({ cls := "IceTunesModel", name := "silence", desc := "(I)V" } : Jvm.MethodName) ∈ wt := wt_of 1696 (by decide +kernel) (by decide +kernel)
theorem wm_1698 : Cond.instanceMethod ({ cls := "IceTunesModel", name := "silence", desc := "(I)V" } : Jvm.MethodName) ∈ wt := wt_of 1698 (by decide +kernel) (by decide +kernel)
theorem wm_1699 : Cond.code ({ cls := "IceTunesModel", name := "silence", desc := "(I)V" } : Jvm.MethodName) prog_13_method_55_code (3 : Nat) (Option.none : Option Jvm.ClassFile.FieldType) ∈ wt := wt_of 1699 (by decide +kernel) (by decide +kernel)
theorem wm_1700 : Cond.methodLink "IceTunesLaw" (57 : Nat) ({ cls := "IceTunesModel", name := "undo", desc := "()Z" } : Jvm.MethodName) ∈ wt := wt_of 1700 (by decide +kernel) (by decide +kernel)
theorem wm_1701 : Cond.instanceMethod ({ cls := "IceTunesModel", name := "undo", desc := "()Z" } : Jvm.MethodName) ∈ wt := wt_of 1701 (by decide +kernel) (by decide +kernel)
theorem wm_1702 : Cond.selects "IceTunesModel" ({ cls := "IceTunesModel", name := "undo", desc := "()Z" } : Jvm.MethodName) ({ cls := "IceTunesModel", name := "undo", desc := "()Z" } : Jvm.MethodName) ∈ wt := wt_of 1702 (by decide +kernel) (by decide +kernel)
theorem wm_1703 : Cond.code ({ cls := "IceTunesModel", name := "undo", desc := "()Z" } : Jvm.MethodName) prog_13_method_65_code (1 : Nat) (Option.some Jvm.ClassFile.FieldType.boolean) ∈ wt := wt_of 1703 (by decide +kernel) (by decide +kernel)
theorem wm_1704 : Cond.methodLink "IceTunesModel" (440 : Nat) ({ cls := "IceTunesModel", name := "exchange", desc := "()V" } : Jvm.MethodName) ∈ wt := wt_of 1704 (by decide +kernel) (by decide +kernel)
theorem wm_1706 : Cond.instanceMethod ({ cls := "IceTunesModel", name := "exchange", desc := "()V" } : Jvm.MethodName) ∈ wt := wt_of 1706 (by decide +kernel) (by decide +kernel)
theorem wm_1707 : Cond.code ({ cls := "IceTunesModel", name := "exchange", desc := "()V" } : Jvm.MethodName) prog_13_method_62_code (3 : Nat) (Option.none : Option Jvm.ClassFile.FieldType) ∈ wt := wt_of 1707 (by decide +kernel) (by decide +kernel)
theorem wm_1708 : Cond.methodLink "IceTunesLaw" (61 : Nat) ({ cls := "IceTunesModel", name := "redo", desc := "()Z" } : Jvm.MethodName) ∈ wt := wt_of 1708 (by decide +kernel) (by decide +kernel)
theorem wm_1709 : Cond.instanceMethod ({ cls := "IceTunesModel", name := "redo", desc := "()Z" } : Jvm.MethodName) ∈ wt := wt_of 1709 (by decide +kernel) (by decide +kernel)
theorem wm_1710 : Cond.selects "IceTunesModel" ({ cls := "IceTunesModel", name := "redo", desc := "()Z" } : Jvm.MethodName) ({ cls := "IceTunesModel", name := "redo", desc := "()Z" } : Jvm.MethodName) ∈ wt := wt_of 1710 (by decide +kernel) (by decide +kernel)
theorem wm_1711 : Cond.code ({ cls := "IceTunesModel", name := "redo", desc := "()Z" } : Jvm.MethodName) prog_13_method_66_code (1 : Nat) (Option.some Jvm.ClassFile.FieldType.boolean) ∈ wt := wt_of 1711 (by decide +kernel) (by decide +kernel)
theorem wm_1712 : Cond.methodLink "IceTunesLaw" (86 : Nat) ({ cls := "IceTunesModel", name := "lies", desc := "(I)I" } : Jvm.MethodName) ∈ wt := wt_of 1712 (by decide +kernel) (by decide +kernel)
theorem wm_1713 : Cond.instanceMethod ({ cls := "IceTunesModel", name := "lies", desc := "(I)I" } : Jvm.MethodName) ∈ wt := wt_of 1713 (by decide +kernel) (by decide +kernel)
theorem wm_1714 : Cond.selects "IceTunesModel" ({ cls := "IceTunesModel", name := "lies", desc := "(I)I" } : Jvm.MethodName) ({ cls := "IceTunesModel", name := "lies", desc := "(I)I" } : Jvm.MethodName) ∈ wt := wt_of 1714 (by decide +kernel) (by decide +kernel)
theorem wm_1715 : Cond.code ({ cls := "IceTunesModel", name := "lies", desc := "(I)I" } : Jvm.MethodName) prog_13_method_68_code (2 : Nat) (Option.some Jvm.ClassFile.FieldType.int) ∈ wt := wt_of 1715 (by decide +kernel) (by decide +kernel)
theorem wm_1716 : Cond.methodLink "IceTunesLaw" (65 : Nat) ({ cls := "IceTunesModel", name := "order", desc := "(I)I" } : Jvm.MethodName) ∈ wt := wt_of 1716 (by decide +kernel) (by decide +kernel)
theorem wm_1717 : Cond.instanceMethod ({ cls := "IceTunesModel", name := "order", desc := "(I)I" } : Jvm.MethodName) ∈ wt := wt_of 1717 (by decide +kernel) (by decide +kernel)
theorem wm_1718 : Cond.selects "IceTunesModel" ({ cls := "IceTunesModel", name := "order", desc := "(I)I" } : Jvm.MethodName) ({ cls := "IceTunesModel", name := "order", desc := "(I)I" } : Jvm.MethodName) ∈ wt := wt_of 1718 (by decide +kernel) (by decide +kernel)
theorem wm_1719 : Cond.code ({ cls := "IceTunesModel", name := "order", desc := "(I)I" } : Jvm.MethodName) prog_13_method_73_code (7 : Nat) (Option.some Jvm.ClassFile.FieldType.int) ∈ wt := wt_of 1719 (by decide +kernel) (by decide +kernel)
theorem wm_1720 : Cond.methodLink "IceTunesModel" (446 : Nat) ({ cls := "IceTunesModel", name := "isSet", desc := "(I)Z" } : Jvm.MethodName) ∈ wt := wt_of 1720 (by decide +kernel) (by decide +kernel)
theorem wm_1722 : Cond.instanceMethod ({ cls := "IceTunesModel", name := "isSet", desc := "(I)Z" } : Jvm.MethodName) ∈ wt := wt_of 1722 (by decide +kernel) (by decide +kernel)
theorem wm_1723 : Cond.code ({ cls := "IceTunesModel", name := "isSet", desc := "(I)Z" } : Jvm.MethodName) prog_13_method_72_code (2 : Nat) (Option.some Jvm.ClassFile.FieldType.boolean) ∈ wt := wt_of 1723 (by decide +kernel) (by decide +kernel)
theorem wm_1724 : Cond.methodLink "IceTunesModel" (449 : Nat) ({ cls := "IceTunesModel", name := "layTunes", desc := "(I)I" } : Jvm.MethodName) ∈ wt := wt_of 1724 (by decide +kernel) (by decide +kernel)
theorem wm_1726 : Cond.instanceMethod ({ cls := "IceTunesModel", name := "layTunes", desc := "(I)I" } : Jvm.MethodName) ∈ wt := wt_of 1726 (by decide +kernel) (by decide +kernel)
theorem wm_1727 : Cond.code ({ cls := "IceTunesModel", name := "layTunes", desc := "(I)I" } : Jvm.MethodName) prog_13_method_71_code (4 : Nat) (Option.some Jvm.ClassFile.FieldType.int) ∈ wt := wt_of 1727 (by decide +kernel) (by decide +kernel)
theorem wm_1728 : Cond.methodLink "IceTunesModel" (452 : Nat) ({ cls := "IceTunesModel", name := "keep", desc := "(I)V" } : Jvm.MethodName) ∈ wt := wt_of 1728 (by decide +kernel) (by decide +kernel)
theorem wm_1730 : Cond.instanceMethod ({ cls := "IceTunesModel", name := "keep", desc := "(I)V" } : Jvm.MethodName) ∈ wt := wt_of 1730 (by decide +kernel) (by decide +kernel)
theorem wm_1731 : Cond.code ({ cls := "IceTunesModel", name := "keep", desc := "(I)V" } : Jvm.MethodName) prog_13_method_47_code (3 : Nat) (Option.none : Option Jvm.ClassFile.FieldType) ∈ wt := wt_of 1731 (by decide +kernel) (by decide +kernel)
theorem wm_1732 : Cond.methodLink "IceTunesModel" (455 : Nat) ({ cls := "IceTunesModel", name := "inMany", desc := "()I" } : Jvm.MethodName) ∈ wt := wt_of 1732 (by decide +kernel) (by decide +kernel)
theorem wm_1734 : Cond.instanceMethod ({ cls := "IceTunesModel", name := "inMany", desc := "()I" } : Jvm.MethodName) ∈ wt := wt_of 1734 (by decide +kernel) (by decide +kernel)
theorem wm_1735 : Cond.code ({ cls := "IceTunesModel", name := "inMany", desc := "()I" } : Jvm.MethodName) prog_13_method_57_code (1 : Nat) (Option.some Jvm.ClassFile.FieldType.int) ∈ wt := wt_of 1735 (by decide +kernel) (by decide +kernel)
theorem wm_1736 : Cond.methodLink "IceTunesModel" (458 : Nat) ({ cls := "IceTunesModel", name := "bring", desc := "(I)V" } : Jvm.MethodName) ∈ wt := wt_of 1736 (by decide +kernel) (by decide +kernel)
theorem wm_1738 : Cond.instanceMethod ({ cls := "IceTunesModel", name := "bring", desc := "(I)V" } : Jvm.MethodName) ∈ wt := wt_of 1738 (by decide +kernel) (by decide +kernel)
theorem wm_1739 : Cond.code ({ cls := "IceTunesModel", name := "bring", desc := "(I)V" } : Jvm.MethodName) prog_13_method_48_code (3 : Nat) (Option.none : Option Jvm.ClassFile.FieldType) ∈ wt := wt_of 1739 (by decide +kernel) (by decide +kernel)
theorem wm_1740 : Cond.methodLink "IceTunesModel" (461 : Nat) ({ cls := "IceTunesModel", name := "nextOrder", desc := "(I)Z" } : Jvm.MethodName) ∈ wt := wt_of 1740 (by decide +kernel) (by decide +kernel)
theorem wm_1742 : Cond.instanceMethod ({ cls := "IceTunesModel", name := "nextOrder", desc := "(I)Z" } : Jvm.MethodName) ∈ wt := wt_of 1742 (by decide +kernel) (by decide +kernel)
theorem wm_1743 : Cond.code ({ cls := "IceTunesModel", name := "nextOrder", desc := "(I)Z" } : Jvm.MethodName) prog_13_method_69_code (6 : Nat) (Option.some Jvm.ClassFile.FieldType.boolean) ∈ wt := wt_of 1743 (by decide +kernel) (by decide +kernel)
theorem wm_1744 : Cond.methodLink "IceTunesModel" (443 : Nat) ({ cls := "IceTunesModel", name := "swap", desc := "(II)V" } : Jvm.MethodName) ∈ wt := wt_of 1744 (by decide +kernel) (by decide +kernel)
theorem wm_1746 : Cond.instanceMethod ({ cls := "IceTunesModel", name := "swap", desc := "(II)V" } : Jvm.MethodName) ∈ wt := wt_of 1746 (by decide +kernel) (by decide +kernel)
theorem wm_1747 : Cond.code ({ cls := "IceTunesModel", name := "swap", desc := "(II)V" } : Jvm.MethodName) prog_13_method_70_code (4 : Nat) (Option.none : Option Jvm.ClassFile.FieldType) ∈ wt := wt_of 1747 (by decide +kernel) (by decide +kernel)
theorem wm_1748 : Cond.methodLink "IceTunesModel" (464 : Nat) ({ cls := "IceTunesModel", name := "lay", desc := "([II)V" } : Jvm.MethodName) ∈ wt := wt_of 1748 (by decide +kernel) (by decide +kernel)
theorem wm_1750 : Cond.instanceMethod ({ cls := "IceTunesModel", name := "lay", desc := "([II)V" } : Jvm.MethodName) ∈ wt := wt_of 1750 (by decide +kernel) (by decide +kernel)
theorem wm_1751 : Cond.code ({ cls := "IceTunesModel", name := "lay", desc := "([II)V" } : Jvm.MethodName) prog_13_method_67_code (4 : Nat) (Option.none : Option Jvm.ClassFile.FieldType) ∈ wt := wt_of 1751 (by decide +kernel) (by decide +kernel)
theorem wm_1752 : Cond.methodLink "IceTunesLaw" (70 : Nat) ({ cls := "IceTunesModel", name := "duel", desc := "(III)I" } : Jvm.MethodName) ∈ wt := wt_of 1752 (by decide +kernel) (by decide +kernel)
theorem wm_1753 : Cond.instanceMethod ({ cls := "IceTunesModel", name := "duel", desc := "(III)I" } : Jvm.MethodName) ∈ wt := wt_of 1753 (by decide +kernel) (by decide +kernel)
theorem wm_1754 : Cond.selects "IceTunesModel" ({ cls := "IceTunesModel", name := "duel", desc := "(III)I" } : Jvm.MethodName) ({ cls := "IceTunesModel", name := "duel", desc := "(III)I" } : Jvm.MethodName) ∈ wt := wt_of 1754 (by decide +kernel) (by decide +kernel)
theorem wm_1755 : Cond.code ({ cls := "IceTunesModel", name := "duel", desc := "(III)I" } : Jvm.MethodName) prog_13_method_76_code (5 : Nat) (Option.some Jvm.ClassFile.FieldType.int) ∈ wt := wt_of 1755 (by decide +kernel) (by decide +kernel)
theorem wm_1756 : Cond.methodLink "IceTunesModel" (471 : Nat) ({ cls := "IceTunesModel", name := "duels", desc := "(II)I" } : Jvm.MethodName) ∈ wt := wt_of 1756 (by decide +kernel) (by decide +kernel)
theorem wm_1758 : Cond.instanceMethod ({ cls := "IceTunesModel", name := "duels", desc := "(II)I" } : Jvm.MethodName) ∈ wt := wt_of 1758 (by decide +kernel) (by decide +kernel)
theorem wm_1759 : Cond.code ({ cls := "IceTunesModel", name := "duels", desc := "(II)I" } : Jvm.MethodName) prog_13_method_74_code (4 : Nat) (Option.some Jvm.ClassFile.FieldType.int) ∈ wt := wt_of 1759 (by decide +kernel) (by decide +kernel)
theorem wm_1760 : Cond.methodLink "IceTunesModel" (468 : Nat) ({ cls := "IceTunesModel", name := "takes", desc := "(II)V" } : Jvm.MethodName) ∈ wt := wt_of 1760 (by decide +kernel) (by decide +kernel)
theorem wm_1762 : Cond.instanceMethod ({ cls := "IceTunesModel", name := "takes", desc := "(II)V" } : Jvm.MethodName) ∈ wt := wt_of 1762 (by decide +kernel) (by decide +kernel)
theorem wm_1763 : Cond.code ({ cls := "IceTunesModel", name := "takes", desc := "(II)V" } : Jvm.MethodName) prog_13_method_75_code (4 : Nat) (Option.none : Option Jvm.ClassFile.FieldType) ∈ wt := wt_of 1763 (by decide +kernel) (by decide +kernel)
theorem wm_1764 : Cond.methodLink "IceTunesLaw" (74 : Nat) ({ cls := "IceTunesModel", name := "planks", desc := "(I)I" } : Jvm.MethodName) ∈ wt := wt_of 1764 (by decide +kernel) (by decide +kernel)
theorem wm_1765 : Cond.instanceMethod ({ cls := "IceTunesModel", name := "planks", desc := "(I)I" } : Jvm.MethodName) ∈ wt := wt_of 1765 (by decide +kernel) (by decide +kernel)
theorem wm_1766 : Cond.selects "IceTunesModel" ({ cls := "IceTunesModel", name := "planks", desc := "(I)I" } : Jvm.MethodName) ({ cls := "IceTunesModel", name := "planks", desc := "(I)I" } : Jvm.MethodName) ∈ wt := wt_of 1766 (by decide +kernel) (by decide +kernel)
theorem wm_1767 : Cond.code ({ cls := "IceTunesModel", name := "planks", desc := "(I)I" } : Jvm.MethodName) prog_13_method_78_code (4 : Nat) (Option.some Jvm.ClassFile.FieldType.int) ∈ wt := wt_of 1767 (by decide +kernel) (by decide +kernel)
theorem wm_1768 : Cond.methodLink "IceTunesModel" (474 : Nat) ({ cls := "IceTunesModel", name := "isDry", desc := "(I)Z" } : Jvm.MethodName) ∈ wt := wt_of 1768 (by decide +kernel) (by decide +kernel)
theorem wm_1770 : Cond.instanceMethod ({ cls := "IceTunesModel", name := "isDry", desc := "(I)Z" } : Jvm.MethodName) ∈ wt := wt_of 1770 (by decide +kernel) (by decide +kernel)
theorem wm_1771 : Cond.code ({ cls := "IceTunesModel", name := "isDry", desc := "(I)Z" } : Jvm.MethodName) prog_13_method_77_code (4 : Nat) (Option.some Jvm.ClassFile.FieldType.boolean) ∈ wt := wt_of 1771 (by decide +kernel) (by decide +kernel)
theorem wm_1772 : Cond.methodLink "IceTunesModel" (477 : Nat) ({ cls := "IceTunesModel", name := "isDryBy", desc := "(III)Z" } : Jvm.MethodName) ∈ wt := wt_of 1772 (by decide +kernel) (by decide +kernel)
theorem wm_1774 : Cond.instanceMethod ({ cls := "IceTunesModel", name := "isDryBy", desc := "(III)Z" } : Jvm.MethodName) ∈ wt := wt_of 1774 (by decide +kernel) (by decide +kernel)
theorem wm_1775 : Cond.code ({ cls := "IceTunesModel", name := "isDryBy", desc := "(III)Z" } : Jvm.MethodName) prog_13_method_79_code (5 : Nat) (Option.some Jvm.ClassFile.FieldType.boolean) ∈ wt := wt_of 1775 (by decide +kernel) (by decide +kernel)
theorem wm_1776 : Cond.methodLink "IceTunesLaw" (78 : Nat) ({ cls := "IceTunesModel", name := "hush", desc := "(II)I" } : Jvm.MethodName) ∈ wt := wt_of 1776 (by decide +kernel) (by decide +kernel)
theorem wm_1777 : Cond.instanceMethod ({ cls := "IceTunesModel", name := "hush", desc := "(II)I" } : Jvm.MethodName) ∈ wt := wt_of 1777 (by decide +kernel) (by decide +kernel)
theorem wm_1778 : Cond.selects "IceTunesModel" ({ cls := "IceTunesModel", name := "hush", desc := "(II)I" } : Jvm.MethodName) ({ cls := "IceTunesModel", name := "hush", desc := "(II)I" } : Jvm.MethodName) ∈ wt := wt_of 1778 (by decide +kernel) (by decide +kernel)
theorem wm_1779 : Cond.code ({ cls := "IceTunesModel", name := "hush", desc := "(II)I" } : Jvm.MethodName) prog_13_method_80_code (7 : Nat) (Option.some Jvm.ClassFile.FieldType.int) ∈ wt := wt_of 1779 (by decide +kernel) (by decide +kernel)
theorem wm_1780 : Cond.methodLink "IceTunesLaw" (82 : Nat) ({ cls := "IceTunesModel", name := "breaks", desc := "(II)I" } : Jvm.MethodName) ∈ wt := wt_of 1780 (by decide +kernel) (by decide +kernel)
theorem wm_1781 : Cond.instanceMethod ({ cls := "IceTunesModel", name := "breaks", desc := "(II)I" } : Jvm.MethodName) ∈ wt := wt_of 1781 (by decide +kernel) (by decide +kernel)
theorem wm_1782 : Cond.selects "IceTunesModel" ({ cls := "IceTunesModel", name := "breaks", desc := "(II)I" } : Jvm.MethodName) ({ cls := "IceTunesModel", name := "breaks", desc := "(II)I" } : Jvm.MethodName) ∈ wt := wt_of 1782 (by decide +kernel) (by decide +kernel)
theorem wm_1783 : Cond.code ({ cls := "IceTunesModel", name := "breaks", desc := "(II)I" } : Jvm.MethodName) prog_13_method_81_code (6 : Nat) (Option.some Jvm.ClassFile.FieldType.int) ∈ wt := wt_of 1783 (by decide +kernel) (by decide +kernel)
theorem wm_1784 : Cond.methodLink "IceTunesLaw" (90 : Nat) ({ cls := "IceTunesModel", name := "sight", desc := "(IIIII)I" } : Jvm.MethodName) ∈ wt := wt_of 1784 (by decide +kernel) (by decide +kernel)
theorem wm_1785 : Cond.instanceMethod ({ cls := "IceTunesModel", name := "sight", desc := "(IIIII)I" } : Jvm.MethodName) ∈ wt := wt_of 1785 (by decide +kernel) (by decide +kernel)
theorem wm_1786 : Cond.selects "IceTunesModel" ({ cls := "IceTunesModel", name := "sight", desc := "(IIIII)I" } : Jvm.MethodName) ({ cls := "IceTunesModel", name := "sight", desc := "(IIIII)I" } : Jvm.MethodName) ∈ wt := wt_of 1786 (by decide +kernel) (by decide +kernel)
theorem wm_1787 : Cond.code ({ cls := "IceTunesModel", name := "sight", desc := "(IIIII)I" } : Jvm.MethodName) prog_13_method_83_code (6 : Nat) (Option.some Jvm.ClassFile.FieldType.int) ∈ wt := wt_of 1787 (by decide +kernel) (by decide +kernel)
theorem wm_1788 : Cond.methodLink "IceTunesModel" (483 : Nat) ({ cls := "IceTunesModel", name := "addSight", desc := "(IIII)I" } : Jvm.MethodName) ∈ wt := wt_of 1788 (by decide +kernel) (by decide +kernel)
theorem wm_1790 : Cond.instanceMethod ({ cls := "IceTunesModel", name := "addSight", desc := "(IIII)I" } : Jvm.MethodName) ∈ wt := wt_of 1790 (by decide +kernel) (by decide +kernel)
theorem wm_1791 : Cond.code ({ cls := "IceTunesModel", name := "addSight", desc := "(IIII)I" } : Jvm.MethodName) prog_13_method_82_code (5 : Nat) (Option.some Jvm.ClassFile.FieldType.int) ∈ wt := wt_of 1791 (by decide +kernel) (by decide +kernel)
theorem wm_1792 : Cond.methodLink "IceTunesLaw" (95 : Nat) ({ cls := "IceTunesModel", name := "seen", desc := "(IIZ)I" } : Jvm.MethodName) ∈ wt := wt_of 1792 (by decide +kernel) (by decide +kernel)
theorem wm_1793 : Cond.instanceMethod ({ cls := "IceTunesModel", name := "seen", desc := "(IIZ)I" } : Jvm.MethodName) ∈ wt := wt_of 1793 (by decide +kernel) (by decide +kernel)
theorem wm_1794 : Cond.selects "IceTunesModel" ({ cls := "IceTunesModel", name := "seen", desc := "(IIZ)I" } : Jvm.MethodName) ({ cls := "IceTunesModel", name := "seen", desc := "(IIZ)I" } : Jvm.MethodName) ∈ wt := wt_of 1794 (by decide +kernel) (by decide +kernel)
theorem wm_1795 : Cond.code ({ cls := "IceTunesModel", name := "seen", desc := "(IIZ)I" } : Jvm.MethodName) prog_13_method_84_code (4 : Nat) (Option.some Jvm.ClassFile.FieldType.int) ∈ wt := wt_of 1795 (by decide +kernel) (by decide +kernel)
theorem wm_1796 : Cond.methodLink "IceTunesLaw" (100 : Nat) ({ cls := "IceTunesModel", name := "untell", desc := "(I)Z" } : Jvm.MethodName) ∈ wt := wt_of 1796 (by decide +kernel) (by decide +kernel)
theorem wm_1797 : Cond.instanceMethod ({ cls := "IceTunesModel", name := "untell", desc := "(I)Z" } : Jvm.MethodName) ∈ wt := wt_of 1797 (by decide +kernel) (by decide +kernel)
theorem wm_1798 : Cond.selects "IceTunesModel" ({ cls := "IceTunesModel", name := "untell", desc := "(I)Z" } : Jvm.MethodName) ({ cls := "IceTunesModel", name := "untell", desc := "(I)Z" } : Jvm.MethodName) ∈ wt := wt_of 1798 (by decide +kernel) (by decide +kernel)
theorem wm_1799 : Cond.code ({ cls := "IceTunesModel", name := "untell", desc := "(I)Z" } : Jvm.MethodName) prog_13_method_85_code (2 : Nat) (Option.some Jvm.ClassFile.FieldType.boolean) ∈ wt := wt_of 1799 (by decide +kernel) (by decide +kernel)
theorem wm_1800 : Cond.methodLink "IceTunesLaw" (104 : Nat) ({ cls := "IceTunesModel", name := "later", desc := "(I)I" } : Jvm.MethodName) ∈ wt := wt_of 1800 (by decide +kernel) (by decide +kernel)
theorem wm_1801 : Cond.instanceMethod ({ cls := "IceTunesModel", name := "later", desc := "(I)I" } : Jvm.MethodName) ∈ wt := wt_of 1801 (by decide +kernel) (by decide +kernel)
theorem wm_1802 : Cond.selects "IceTunesModel" ({ cls := "IceTunesModel", name := "later", desc := "(I)I" } : Jvm.MethodName) ({ cls := "IceTunesModel", name := "later", desc := "(I)I" } : Jvm.MethodName) ∈ wt := wt_of 1802 (by decide +kernel) (by decide +kernel)
theorem wm_1803 : Cond.code ({ cls := "IceTunesModel", name := "later", desc := "(I)I" } : Jvm.MethodName) prog_13_method_86_code (2 : Nat) (Option.some Jvm.ClassFile.FieldType.int) ∈ wt := wt_of 1803 (by decide +kernel) (by decide +kernel)
theorem wm_1804 : Cond.constant "IceTunesModel" (487 : Nat) (100000 : Int32) ∈ wt := wt_of 1804 (by decide +kernel) (by decide +kernel)
theorem wm_1805 : Cond.methodLink "IceTunesLaw" (108 : Nat) ({ cls := "IceTunesModel", name := "asked", desc := "(II)I" } : Jvm.MethodName) ∈ wt := wt_of 1805 (by decide +kernel) (by decide +kernel)
theorem wm_1806 : Cond.instanceMethod ({ cls := "IceTunesModel", name := "asked", desc := "(II)I" } : Jvm.MethodName) ∈ wt := wt_of 1806 (by decide +kernel) (by decide +kernel)
theorem wm_1807 : Cond.selects "IceTunesModel" ({ cls := "IceTunesModel", name := "asked", desc := "(II)I" } : Jvm.MethodName) ({ cls := "IceTunesModel", name := "asked", desc := "(II)I" } : Jvm.MethodName) ∈ wt := wt_of 1807 (by decide +kernel) (by decide +kernel)
theorem wm_1808 : Cond.code ({ cls := "IceTunesModel", name := "asked", desc := "(II)I" } : Jvm.MethodName) prog_13_method_91_code (3 : Nat) (Option.some Jvm.ClassFile.FieldType.int) ∈ wt := wt_of 1808 (by decide +kernel) (by decide +kernel)
theorem wm_1809 : Cond.methodLink "IceTunesModel" (500 : Nat) ({ cls := "IceTunesModel", name := "layAsked", desc := "(II)V" } : Jvm.MethodName) ∈ wt := wt_of 1809 (by decide +kernel) (by decide +kernel)
theorem wm_1811 : Cond.instanceMethod ({ cls := "IceTunesModel", name := "layAsked", desc := "(II)V" } : Jvm.MethodName) ∈ wt := wt_of 1811 (by decide +kernel) (by decide +kernel)
theorem wm_1812 : Cond.code ({ cls := "IceTunesModel", name := "layAsked", desc := "(II)V" } : Jvm.MethodName) prog_13_method_90_code (7 : Nat) (Option.none : Option Jvm.ClassFile.FieldType) ∈ wt := wt_of 1812 (by decide +kernel) (by decide +kernel)
theorem wm_1813 : Cond.methodLink "IceTunesModel" (497 : Nat) ({ cls := "IceTunesModel", name := "areSoBy", desc := "(II)Z" } : Jvm.MethodName) ∈ wt := wt_of 1813 (by decide +kernel) (by decide +kernel)
theorem wm_1815 : Cond.instanceMethod ({ cls := "IceTunesModel", name := "areSoBy", desc := "(II)Z" } : Jvm.MethodName) ∈ wt := wt_of 1815 (by decide +kernel) (by decide +kernel)
theorem wm_1816 : Cond.code ({ cls := "IceTunesModel", name := "areSoBy", desc := "(II)Z" } : Jvm.MethodName) prog_13_method_89_code (5 : Nat) (Option.some Jvm.ClassFile.FieldType.boolean) ∈ wt := wt_of 1816 (by decide +kernel) (by decide +kernel)
theorem wm_1817 : Cond.methodLink "IceTunesModel" (491 : Nat) ({ cls := "IceTunesModel", name := "areSoNow", desc := "(I)Z" } : Jvm.MethodName) ∈ wt := wt_of 1817 (by decide +kernel) (by decide +kernel)
theorem wm_1819 : Cond.instanceMethod ({ cls := "IceTunesModel", name := "areSoNow", desc := "(I)Z" } : Jvm.MethodName) ∈ wt := wt_of 1819 (by decide +kernel) (by decide +kernel)
theorem wm_1820 : Cond.code ({ cls := "IceTunesModel", name := "areSoNow", desc := "(I)Z" } : Jvm.MethodName) prog_13_method_88_code (4 : Nat) (Option.some Jvm.ClassFile.FieldType.boolean) ∈ wt := wt_of 1820 (by decide +kernel) (by decide +kernel)
theorem wm_1821 : Cond.methodLink "IceTunesModel" (488 : Nat) ({ cls := "IceTunesModel", name := "counts", desc := "(II)Z" } : Jvm.MethodName) ∈ wt := wt_of 1821 (by decide +kernel) (by decide +kernel)
theorem wm_1823 : Cond.instanceMethod ({ cls := "IceTunesModel", name := "counts", desc := "(II)Z" } : Jvm.MethodName) ∈ wt := wt_of 1823 (by decide +kernel) (by decide +kernel)
theorem wm_1824 : Cond.code ({ cls := "IceTunesModel", name := "counts", desc := "(II)Z" } : Jvm.MethodName) prog_13_method_87_code (3 : Nat) (Option.some Jvm.ClassFile.FieldType.boolean) ∈ wt := wt_of 1824 (by decide +kernel) (by decide +kernel)
theorem wm_1825 : Cond.methodLink "IceTunesLaw" (112 : Nat) ({ cls := "IceTunesModel", name := "sure", desc := "(III)I" } : Jvm.MethodName) ∈ wt := wt_of 1825 (by decide +kernel) (by decide +kernel)
theorem wm_1826 : Cond.instanceMethod ({ cls := "IceTunesModel", name := "sure", desc := "(III)I" } : Jvm.MethodName) ∈ wt := wt_of 1826 (by decide +kernel) (by decide +kernel)
theorem wm_1827 : Cond.selects "IceTunesModel" ({ cls := "IceTunesModel", name := "sure", desc := "(III)I" } : Jvm.MethodName) ({ cls := "IceTunesModel", name := "sure", desc := "(III)I" } : Jvm.MethodName) ∈ wt := wt_of 1827 (by decide +kernel) (by decide +kernel)
theorem wm_1828 : Cond.code ({ cls := "IceTunesModel", name := "sure", desc := "(III)I" } : Jvm.MethodName) prog_13_method_92_code (5 : Nat) (Option.some Jvm.ClassFile.FieldType.int) ∈ wt := wt_of 1828 (by decide +kernel) (by decide +kernel)
theorem wm_1829 : Cond.methodLink "IceTunesLaw" (116 : Nat) ({ cls := "IceTunesModel", name := "image", desc := "(I)I" } : Jvm.MethodName) ∈ wt := wt_of 1829 (by decide +kernel) (by decide +kernel)
theorem wm_1830 : Cond.instanceMethod ({ cls := "IceTunesModel", name := "image", desc := "(I)I" } : Jvm.MethodName) ∈ wt := wt_of 1830 (by decide +kernel) (by decide +kernel)
theorem wm_1831 : Cond.selects "IceTunesModel" ({ cls := "IceTunesModel", name := "image", desc := "(I)I" } : Jvm.MethodName) ({ cls := "IceTunesModel", name := "image", desc := "(I)I" } : Jvm.MethodName) ∈ wt := wt_of 1831 (by decide +kernel) (by decide +kernel)
theorem wm_1832 : Cond.code ({ cls := "IceTunesModel", name := "image", desc := "(I)I" } : Jvm.MethodName) prog_13_method_93_code (3 : Nat) (Option.some Jvm.ClassFile.FieldType.int) ∈ wt := wt_of 1832 (by decide +kernel) (by decide +kernel)
theorem wm_1833 : Cond.methodLink "IceTunesLaw" (120 : Nat) ({ cls := "IceTunesModel", name := "back", desc := "(I)I" } : Jvm.MethodName) ∈ wt := wt_of 1833 (by decide +kernel) (by decide +kernel)
theorem wm_1834 : Cond.instanceMethod ({ cls := "IceTunesModel", name := "back", desc := "(I)I" } : Jvm.MethodName) ∈ wt := wt_of 1834 (by decide +kernel) (by decide +kernel)
theorem wm_1835 : Cond.selects "IceTunesModel" ({ cls := "IceTunesModel", name := "back", desc := "(I)I" } : Jvm.MethodName) ({ cls := "IceTunesModel", name := "back", desc := "(I)I" } : Jvm.MethodName) ∈ wt := wt_of 1835 (by decide +kernel) (by decide +kernel)
theorem wm_1836 : Cond.code ({ cls := "IceTunesModel", name := "back", desc := "(I)I" } : Jvm.MethodName) prog_13_method_94_code (3 : Nat) (Option.some Jvm.ClassFile.FieldType.int) ∈ wt := wt_of 1836 (by decide +kernel) (by decide +kernel)
theorem wm_1837 : Cond.methodLink "IceTunesLaw" (124 : Nat) ({ cls := "IceTunesModel", name := "about", desc := "(I)I" } : Jvm.MethodName) ∈ wt := wt_of 1837 (by decide +kernel) (by decide +kernel)
theorem wm_1838 : Cond.instanceMethod ({ cls := "IceTunesModel", name := "about", desc := "(I)I" } : Jvm.MethodName) ∈ wt := wt_of 1838 (by decide +kernel) (by decide +kernel)
theorem wm_1839 : Cond.selects "IceTunesModel" ({ cls := "IceTunesModel", name := "about", desc := "(I)I" } : Jvm.MethodName) ({ cls := "IceTunesModel", name := "about", desc := "(I)I" } : Jvm.MethodName) ∈ wt := wt_of 1839 (by decide +kernel) (by decide +kernel)
theorem wm_1840 : Cond.code ({ cls := "IceTunesModel", name := "about", desc := "(I)I" } : Jvm.MethodName) prog_13_method_95_code (2 : Nat) (Option.some Jvm.ClassFile.FieldType.int) ∈ wt := wt_of 1840 (by decide +kernel) (by decide +kernel)
theorem wm_1841 : Cond.methodLink "IceTunesLaw" (17 : Nat) ({ cls := "IceTunesModel", name := "feed", desc := "(IIIII)I" } : Jvm.MethodName) ∈ wt := wt_of 1841 (by decide +kernel) (by decide +kernel)
theorem wm_1842 : Cond.instanceMethod ({ cls := "IceTunesModel", name := "feed", desc := "(IIIII)I" } : Jvm.MethodName) ∈ wt := wt_of 1842 (by decide +kernel) (by decide +kernel)
theorem wm_1843 : Cond.selects "IceTunesModel" ({ cls := "IceTunesModel", name := "feed", desc := "(IIIII)I" } : Jvm.MethodName) ({ cls := "IceTunesModel", name := "feed", desc := "(IIIII)I" } : Jvm.MethodName) ∈ wt := wt_of 1843 (by decide +kernel) (by decide +kernel)
theorem wm_1844 : Cond.code ({ cls := "IceTunesModel", name := "feed", desc := "(IIIII)I" } : Jvm.MethodName) prog_13_method_96_code (8 : Nat) (Option.some Jvm.ClassFile.FieldType.int) ∈ wt := wt_of 1844 (by decide +kernel) (by decide +kernel)
theorem wm_1845 : Cond.methodLink "IceTunesLaw" (22 : Nat) ({ cls := "IceTunesModel", name := "end", desc := "(I)I" } : Jvm.MethodName) ∈ wt := wt_of 1845 (by decide +kernel) (by decide +kernel)
theorem wm_1846 : Cond.instanceMethod ({ cls := "IceTunesModel", name := "end", desc := "(I)I" } : Jvm.MethodName) ∈ wt := wt_of 1846 (by decide +kernel) (by decide +kernel)
theorem wm_1847 : Cond.selects "IceTunesModel" ({ cls := "IceTunesModel", name := "end", desc := "(I)I" } : Jvm.MethodName) ({ cls := "IceTunesModel", name := "end", desc := "(I)I" } : Jvm.MethodName) ∈ wt := wt_of 1847 (by decide +kernel) (by decide +kernel)
theorem wm_1848 : Cond.code ({ cls := "IceTunesModel", name := "end", desc := "(I)I" } : Jvm.MethodName) prog_13_method_97_code (2 : Nat) (Option.some Jvm.ClassFile.FieldType.int) ∈ wt := wt_of 1848 (by decide +kernel) (by decide +kernel)
end
section
theorem in_of {C : String} {T : u_T} {N : Nat} (ps : List Nat) (h : u_ws C T N = ps.filterMap (fun i => lw_tbl[i]?)) (g : (u_ws C T N).all goodWord = true) : ∀ w ∈ u_ws C T N, w ∈ wt := by
  intro w hw
  have h1 := List.all_eq_true.mp g w hw
  rw [h] at hw
  obtain ⟨i, -, hi⟩ := List.mem_filterMap.mp hw
  exact wt_of i hi h1
theorem in_X0 : ∀ w ∈ u_ws RX0 TX0 8, w ∈ wt := in_of [373, 375, 377, 379, 381, 383, 385, 387] (by decide +kernel) (by decide +kernel)
theorem df_X0 : ∀ j, j < 8 → defaultValue (tyX0 j) = vp_V [.null, .null, .null, .null, .int 0, .int 0, .int 0, .int 0] j := by decide +kernel
theorem in_X1 : ∀ w ∈ u_ws RX1 TX1 5, w ∈ wt := in_of [528, 530, 532, 534, 536] (by decide +kernel) (by decide +kernel)
theorem df_X1 : ∀ j, j < 5 → defaultValue (tyX1 j) = vp_V [.null, .null, .int 0, .int 0, .int 0] j := by decide +kernel
theorem in_X2 : ∀ w ∈ u_ws RX2 TX2 7, w ∈ wt := in_of [428, 430, 432, 434, 436, 438, 440] (by decide +kernel) (by decide +kernel)
theorem df_X2 : ∀ j, j < 7 → defaultValue (tyX2 j) = vp_V [.int 0, .int 0, .null, .null, .null, .null, .null] j := by decide +kernel
theorem in_X3 : ∀ w ∈ u_ws RX3 TX3 5, w ∈ wt := in_of [505, 507, 509, 511, 513] (by decide +kernel) (by decide +kernel)
theorem df_X3 : ∀ j, j < 5 → defaultValue (tyX3 j) = vp_V [.null, .null, .null, .null, .int 0] j := by decide +kernel
theorem in_X4 : ∀ w ∈ u_ws RX4 TX4 4, w ∈ wt := in_of [449, 451, 453, 455] (by decide +kernel) (by decide +kernel)
theorem df_X4 : ∀ j, j < 4 → defaultValue (tyX4 j) = vp_V [.null, .int 0, .int 0, .int 0] j := by decide +kernel
theorem in_X5 : ∀ w ∈ u_ws RX5 TX5 19, w ∈ wt := in_of [248, 250, 252, 254, 256, 258, 260, 262, 264, 266, 268, 270, 272, 274, 276, 278, 280, 282, 284] (by decide +kernel) (by decide +kernel)
theorem df_X5 : ∀ j, j < 19 → defaultValue (tyX5 j) = vp_V [.int 0, .int 0, .int 0, .null, .null, .int 0, .int 0, .null, .int 0, .int 0, .null, .null, .null, .null, .int 0, .null, .int 0, .null, .null] j := by decide +kernel
theorem in_X6 : ∀ w ∈ u_ws RX6 TX6 9, w ∈ wt := in_of [336, 338, 340, 342, 344, 346, 348, 350, 352] (by decide +kernel) (by decide +kernel)
theorem df_X6 : ∀ j, j < 9 → defaultValue (tyX6 j) = vp_V [.null, .null, .int 0, .int 0, .int 0, .int 0, .int 0, .null, .null] j := by decide +kernel
theorem in_X7 : ∀ w ∈ u_ws RX7 TX7 10, w ∈ wt := in_of [557, 559, 561, 563, 565, 567, 569, 571, 573, 575] (by decide +kernel) (by decide +kernel)
theorem df_X7 : ∀ j, j < 10 → defaultValue (tyX7 j) = vp_V [.null, .null, .null, .null, .null, .null, .int 0, .int 0, .int 0, .int 0] j := by decide +kernel
theorem in_X8 : ∀ w ∈ u_ws RX8 TX8 8, w ∈ wt := in_of [474, 476, 478, 480, 482, 484, 486, 488] (by decide +kernel) (by decide +kernel)
theorem df_X8 : ∀ j, j < 8 → defaultValue (tyX8 j) = vp_V [.int 0, .null, .null, .null, .null, .null, .null, .null] j := by decide +kernel
theorem in_X9 : ∀ w ∈ u_ws RX9 TX9 6, w ∈ wt := in_of [312, 314, 316, 318, 320, 322] (by decide +kernel) (by decide +kernel)
theorem df_X9 : ∀ j, j < 6 → defaultValue (tyX9 j) = vp_V [.null, .int 0, .int 0, .int 0, .int 0, .int 0] j := by decide +kernel
theorem in_X10 : ∀ w ∈ u_ws RX10 TX10 16, w ∈ wt := in_of [606, 608, 610, 612, 614, 616, 618, 620, 622, 624, 626, 628, 630, 632, 634, 636] (by decide +kernel) (by decide +kernel)
theorem df_X10 : ∀ j, j < 16 → defaultValue (tyX10 j) = vp_V [.null, .int 0, .null, .null, .null, .null, .null, .null, .null, .null, .null, .null, .null, .null, .int 0, .int 0] j := by decide +kernel
theorem in_X11 : ∀ w ∈ u_ws RX11 TX11 71, w ∈ wt := in_of [1320, 1322, 1324, 1326, 1328, 1330, 1332, 1334, 1336, 1338, 1340, 1342, 1344, 1346, 1348, 1350, 1352, 1354, 1356, 1358, 1360, 1362, 1364, 1366, 1368, 1370, 1372, 1374, 1376, 1378, 1380, 1382, 1384, 1386, 1388, 1390, 1392, 1394, 1396, 1398, 1400, 1402, 1404, 1406, 1408, 1410, 1412, 1414, 1416, 1418, 1420, 1422, 1424, 1426, 1428, 1430, 1432, 1434, 1436, 1438, 1440, 1442, 1444, 1446, 1448, 1450, 1452, 1454, 1456, 1458, 1460] (by decide +kernel) (by decide +kernel)
theorem df_X11 : ∀ j, j < 71 → defaultValue (tyX11 j) = vp_V [.null, .null, .int 0, .int 0, .int 0, .int 0, .int 0, .int 0, .int 0, .int 0, .long 0, .null, .null, .null, .null, .null, .null, .null, .null, .null, .null, .null, .null, .null, .null, .null, .null, .null, .null, .null, .null, .null, .null, .null, .null, .null, .null, .null, .int 0, .int 0, .int 0, .int 0, .int 0, .int 0, .null, .null, .null, .null, .null, .int 0, .null, .int 0, .int 0, .null, .null, .null, .int 0, .null, .null, .null, .null, .null, .null, .null, .null, .null, .int 0, .int 0, .int 0, .null, .null] j := by decide +kernel
end
section
theorem wm_1482 : Cond.constantLong "IceTunesModel" (176 : Nat) (1886350948 : Int64) ∈ wt := wt_of 1482 (by decide +kernel) (by decide +kernel)
theorem wm_1483 : Cond.constantLong "IceTunesModel" (178 : Nat) (25209 : Int64) ∈ wt := wt_of 1483 (by decide +kernel) (by decide +kernel)
theorem wm_1484 : Cond.constantLong "IceTunesModel" (180 : Nat) (6906725 : Int64) ∈ wt := wt_of 1484 (by decide +kernel) (by decide +kernel)
theorem wm_1485 : Cond.constantLong "IceTunesModel" (182 : Nat) (1667591276 : Int64) ∈ wt := wt_of 1485 (by decide +kernel) (by decide +kernel)
theorem wm_1486 : Cond.constantLong "IceTunesModel" (184 : Nat) (482854661739 : Int64) ∈ wt := wt_of 1486 (by decide +kernel) (by decide +kernel)
theorem wm_1487 : Cond.constantLong "IceTunesModel" (186 : Nat) (24948 : Int64) ∈ wt := wt_of 1487 (by decide +kernel) (by decide +kernel)
theorem wm_1488 : Cond.constantLong "IceTunesModel" (188 : Nat) (1953853029 : Int64) ∈ wt := wt_of 1488 (by decide +kernel) (by decide +kernel)
theorem wm_1489 : Cond.constantLong "IceTunesModel" (190 : Nat) (1650553459 : Int64) ∈ wt := wt_of 1489 (by decide +kernel) (by decide +kernel)
theorem wm_1490 : Cond.constantLong "IceTunesModel" (192 : Nat) (32485536600843109 : Int64) ∈ wt := wt_of 1490 (by decide +kernel) (by decide +kernel)
theorem wm_1491 : Cond.constantLong "IceTunesModel" (194 : Nat) (126905033713010 : Int64) ∈ wt := wt_of 1491 (by decide +kernel) (by decide +kernel)
theorem wm_1492 : Cond.constantLong "IceTunesModel" (196 : Nat) (131277443786868 : Int64) ∈ wt := wt_of 1492 (by decide +kernel) (by decide +kernel)
theorem wm_1493 : Cond.constantLong "IceTunesModel" (198 : Nat) (1937006969 : Int64) ∈ wt := wt_of 1493 (by decide +kernel) (by decide +kernel)
theorem wm_1494 : Cond.constantLong "IceTunesModel" (200 : Nat) (474316174440 : Int64) ∈ wt := wt_of 1494 (by decide +kernel) (by decide +kernel)
theorem wm_1495 : Cond.constantLong "IceTunesModel" (202 : Nat) (1700885364 : Int64) ∈ wt := wt_of 1495 (by decide +kernel) (by decide +kernel)
theorem wm_1496 : Cond.constantLong "IceTunesModel" (204 : Nat) (495791207528 : Int64) ∈ wt := wt_of 1496 (by decide +kernel) (by decide +kernel)
theorem wm_1497 : Cond.constantLong "IceTunesModel" (206 : Nat) (2003137396 : Int64) ∈ wt := wt_of 1497 (by decide +kernel) (by decide +kernel)
theorem wm_1498 : Cond.constantLong "IceTunesModel" (208 : Nat) (1650811252 : Int64) ∈ wt := wt_of 1498 (by decide +kernel) (by decide +kernel)
theorem wm_1499 : Cond.constantLong "IceTunesModel" (210 : Nat) (1819238756 : Int64) ∈ wt := wt_of 1499 (by decide +kernel) (by decide +kernel)
theorem wm_1500 : Cond.constantLong "IceTunesModel" (212 : Nat) (107144124132964 : Int64) ∈ wt := wt_of 1500 (by decide +kernel) (by decide +kernel)
theorem wm_1501 : Cond.constantLong "IceTunesModel" (214 : Nat) (28530 : Int64) ∈ wt := wt_of 1501 (by decide +kernel) (by decide +kernel)
theorem wm_1502 : Cond.constantLong "IceTunesModel" (216 : Nat) (6385252 : Int64) ∈ wt := wt_of 1502 (by decide +kernel) (by decide +kernel)
theorem wm_1503 : Cond.constantLong "IceTunesModel" (218 : Nat) (7237492 : Int64) ∈ wt := wt_of 1503 (by decide +kernel) (by decide +kernel)
end
section
/-! THE PURE MACHINE: worlds with relative addresses (0: the script; 1, 2: the two texts; i + 3: the i-th cell), its steps as a function -/
abbrev pE : Type := (Nat × vp_A) ⊕ (Nat × List Value)
abbrev pW : Type := List pE
abbrev pL : Type := List (Nat × Value)
abbrev pC : Type := Nat × pL × List Value × pW
/-- a method: its class's number in owns, its name, its bytes, its locals, what it answers, its instructions by place -/
abbrev pM : Type := Nat × MethodName × ByteArray × Nat × Option FieldType × List (Nat × Instr)
/-- the pool: fields (class, field), classes, constants, methods (0, 6, 7: a method by number, of an object, static, a constructor; 1: arraycopy; 2: Object's; 3, 4, 5: a text's length, charAt, indexOf) -/
abbrev pP : Type := (Nat → Nat → Option (Nat × Nat)) × (Nat → Nat → Option Nat) × (Nat → Nat → Option Value) × (Nat → Nat → Option (Nat × Nat))
def wAt (w : pW) : Nat → Option pE
  | j + 3 => w[j]?
  | _ => none
def wSet (w : pW) (i : Nat) (e : pE) : pW := w.set (i - 3) e
def lGet (lc : pL) (i : Nat) : Option Value := (lc.find? (fun q => q.1 == i)).map (fun q => q.2)
def lSet1 (lc : pL) (i : Nat) (v : Value) : pL := (i, v) :: lc.filter (fun q => !(q.1 == i) && !(q.1 + 1 == i && q.2.category == 2))
def lSet2 (lc : pL) (i : Nat) (v : Value) : pL := (i, v) :: lc.filter (fun q => !(q.1 == i) && (!(q.1 == i + 1) && !(q.1 + 1 == i && q.2.category == 2)))
def jmp (pc : Nat) (off : Int) : Option Nat := if 0 ≤ (pc : Int) + off then some ((pc : Int) + off).toNat else none
def inB (i : Int32) (n : Nat) : Bool := !(decide (i < 0)) && decide (i.toNatClampNeg < n)
def okPut (ty : FieldType) (v : Value) : Bool := match ty, v with
  | .int, .int _ => true
  | .boolean, .int x => x == 0 || x == 1
  | .long, .long _ => true
  | .object _, .ref _ => true
  | .object _, .null => true
  | .array _, .ref _ => true
  | .array _, .null => true
  | _, _ => false
def icmpB (c : Jvm.ClassFile.Cond) (x y : Int32) : Bool := match c with
  | .eq => decide (x = y)
  | .ne => decide (¬ x = y)
  | .lt => decide (x < y)
  | .ge => decide (y ≤ x)
  | .gt => decide (y < x)
  | .le => decide (x ≤ y)
/-- an array's kind by its type: 0 int, 1 boolean, 2 byte, 3 long, 4 of Evenings -/
def aldI (xs : Nat → Int32) (L : Nat) (w : pW) (a : Nat) (i : Int32) (ts : List Nat) : Option Int32 := match wAt w a with
  | some (.inl (t, n, .inl f)) => if ts.contains t && inB i n then some (f i.toNatClampNeg) else none
  | some _ => none
  | none => if a == 0 && ts.contains 0 && inB i L then some (xs i.toNatClampNeg) else none
def naI (t : Nat) (x : Int32) : Int32 := match t with
  | 1 => vp_nar .boolean x
  | 2 => vp_nar .byte x
  | _ => x
def astI (w : pW) (a : Nat) (i x : Int32) (ts : List Nat) : Option pW := match wAt w a with
  | some (.inl (t, n, .inl f)) => if ts.contains t && inB i n then some (wSet w a (.inl (t, n, .inl (upd f i.toNatClampNeg (naI t x))))) else none
  | _ => none
def alen (L : Nat) (w : pW) (a : Nat) : Option Nat := match wAt w a with
  | some (.inl (_, n, _)) => some n
  | some _ => none
  | none => if a == 0 then some L else none
def getF (w : pW) (a ci k : Nat) : Option Value := match wAt w a with
  | some (.inr (c, fs)) => if c == ci then fs[k]? else none
  | _ => none
/-- the fields of the classes: how many, their types, whether final -/
abbrev pF : Type := List (List (FieldType × Bool))
def putF (F : pF) (ini : Bool) (own : Nat) (w : pW) (a ci k : Nat) (v : Value) : Option pW := match wAt w a, (F.getD ci [])[k]? with
  | some (.inr (c, fs)), some (ty, fin) => if c == ci && okPut ty v && decide (k < fs.length) && (!fin || (ini && own == ci)) then some (wSet w a (.inr (ci, fs.set k v))) else none
  | _, _ => none
def dflt (ty : FieldType) : Value := match ty with
  | .long => .long 0
  | .object _ => .null
  | .array _ => .null
  | _ => .int 0
def isCat1 : Value → Bool
  | .int _ => true
  | .ref _ => true
  | .null => true
  | _ => false
def tsw (pc : Nat) (dflt lo hi : Int) (offs : Array Int) (x : Int) : Option Nat := if x < lo ∨ hi < x then jmp pc dflt else match offs[(x - lo).toNat]? with
  | some o => jmp pc o
  | none => none
/-- one instruction that is no call and no return -/
def sstep (pp : pP) (F : pF) (xs : Nat → Int32) (L own nL : Nat) (ini : Bool) (ins : Instr) (pc : Nat) (lc : pL) (st : List Value) (w : pW) : Option pC := match ins with
  | .iconst n => some (pc + 1, lc, .int (Int32.ofInt n) :: st, w)
  | .bipush n => some (pc + 2, lc, .int (Int8.ofInt n).toInt32 :: st, w)
  | .sipush n => some (pc + 3, lc, .int (Int16.ofInt n).toInt32 :: st, w)
  | .lconst n => some (pc + 1, lc, .long (Int64.ofNat (n : Nat)) :: st, w)
  | .ldc i => match pp.2.2.1 own i with
    | some (.int v) => some (pc + 2, lc, .int v :: st, w)
    | some (.ref a) => some (pc + 2, lc, .ref a :: st, w)
    | _ => none
  | .ldc_w i => match pp.2.2.1 own i with
    | some (.int v) => some (pc + 3, lc, .int v :: st, w)
    | _ => none
  | .ldc2_w i => match pp.2.2.1 own i with
    | some (.long v) => some (pc + 3, lc, .long v :: st, w)
    | _ => none
  | .iload_n k => match lGet lc (k : Nat) with
    | some (.int v) => some (pc + 1, lc, .int v :: st, w)
    | _ => none
  | .iload i => match lGet lc i with
    | some (.int v) => some (pc + 2, lc, .int v :: st, w)
    | _ => none
  | .lload_n k => match lGet lc (k : Nat) with
    | some (.long v) => some (pc + 1, lc, .long v :: st, w)
    | _ => none
  | .aload_n k => match lGet lc (k : Nat) with
    | some (.ref v) => some (pc + 1, lc, .ref v :: st, w)
    | some .null => some (pc + 1, lc, .null :: st, w)
    | _ => none
  | .aload i => match lGet lc i with
    | some (.ref v) => some (pc + 2, lc, .ref v :: st, w)
    | some .null => some (pc + 2, lc, .null :: st, w)
    | _ => none
  | .istore_n k => match st with
    | .int x :: r => if decide ((k : Nat) < nL) then some (pc + 1, lSet1 lc (k : Nat) (.int x), r, w) else none
    | _ => none
  | .istore i => match st with
    | .int x :: r => if decide (i < nL) then some (pc + 2, lSet1 lc i (.int x), r, w) else none
    | _ => none
  | .astore_n k => match st with
    | .ref x :: r => if decide ((k : Nat) < nL) then some (pc + 1, lSet1 lc (k : Nat) (.ref x), r, w) else none
    | _ => none
  | .astore i => match st with
    | .ref x :: r => if decide (i < nL) then some (pc + 2, lSet1 lc i (.ref x), r, w) else none
    | _ => none
  | .lstore_n k => match st with
    | .long x :: r => if decide ((k : Nat) + 1 < nL) then some (pc + 1, lSet2 lc (k : Nat) (.long x), r, w) else none
    | _ => none
  | .iinc i n => match lGet lc i with
    | some (.int x) => if decide (i < nL) then some (pc + 3, lSet1 lc i (.int (x + Int32.ofInt n)), st, w) else none
    | _ => none
  | .iadd => match st with
    | .int y :: .int x :: r => some (pc + 1, lc, .int (x + y) :: r, w)
    | _ => none
  | .isub => match st with
    | .int y :: .int x :: r => some (pc + 1, lc, .int (x - y) :: r, w)
    | _ => none
  | .imul => match st with
    | .int y :: .int x :: r => some (pc + 1, lc, .int (x * y) :: r, w)
    | _ => none
  | .idiv => match st with
    | .int y :: .int x :: r => if y = 0 then none else some (pc + 1, lc, .int (x / y) :: r, w)
    | _ => none
  | .irem => match st with
    | .int y :: .int x :: r => if y = 0 then none else some (pc + 1, lc, .int (x - x / y * y) :: r, w)
    | _ => none
  | .iand => match st with
    | .int y :: .int x :: r => some (pc + 1, lc, .int (x &&& y) :: r, w)
    | _ => none
  | .ior => match st with
    | .int y :: .int x :: r => some (pc + 1, lc, .int (x ||| y) :: r, w)
    | _ => none
  | .ixor => match st with
    | .int y :: .int x :: r => some (pc + 1, lc, .int (x ^^^ y) :: r, w)
    | _ => none
  | .ishl => match st with
    | .int y :: .int x :: r => some (pc + 1, lc, .int (x <<< (y &&& 31)) :: r, w)
    | _ => none
  | .ishr => match st with
    | .int y :: .int x :: r => some (pc + 1, lc, .int (x >>> (y &&& 31)) :: r, w)
    | _ => none
  | .iushr => match st with
    | .int y :: .int x :: r => some (pc + 1, lc, .int ((x.toUInt32 >>> (y.toUInt32 &&& Int32.toUInt32 31)).toInt32) :: r, w)
    | _ => none
  | .lor => match st with
    | .long y :: .long x :: r => some (pc + 1, lc, .long (x ||| y) :: r, w)
    | _ => none
  | .lshl => match st with
    | .int y :: .long x :: r => some (pc + 1, lc, .long (x <<< (y.toInt64 &&& 63)) :: r, w)
    | _ => none
  | .lcmp => match st with
    | .long y :: .long x :: r => some (pc + 1, lc, .int (lg_cmp x y) :: r, w)
    | _ => none
  | .ineg => match st with
    | .int x :: r => some (pc + 1, lc, .int (-x) :: r, w)
    | _ => none
  | .i2l => match st with
    | .int x :: r => some (pc + 1, lc, .long (x.toInt64) :: r, w)
    | _ => none
  | .i2b => match st with
    | .int x :: r => some (pc + 1, lc, .int (x.toInt8.toInt32) :: r, w)
    | _ => none
  | .i2c => match st with
    | .int x :: r => some (pc + 1, lc, .int ((x.toUInt32 % 65536).toInt32) :: r, w)
    | _ => none
  | .dup => match st with
    | v :: r => if isCat1 v then some (pc + 1, lc, v :: v :: r, w) else none
    | _ => none
  | .pop => match st with
    | v :: r => if isCat1 v then some (pc + 1, lc, r, w) else none
    | _ => none
  | .dup2 => match st with
    | v :: u :: r => if isCat1 v && isCat1 u then some (pc + 1, lc, v :: u :: v :: u :: r, w) else none
    | _ => none
  | .ifCond c off => match st, jmp pc off with
    | .int x :: r, some t => some (if icmpB c x 0 then t else pc + 3, lc, r, w)
    | _, _ => none
  | .if_icmp c off => match st, jmp pc off with
    | .int y :: .int x :: r, some t => some (if icmpB c x y then t else pc + 3, lc, r, w)
    | _, _ => none
  | .goto off => match jmp pc off with
    | some t => some (t, lc, st, w)
    | none => none
  | .ifnonnull off => match st, jmp pc off with
    | .ref _ :: r, some t => some (t, lc, r, w)
    | .null :: r, _ => some (pc + 3, lc, r, w)
    | _, _ => none
  | .tableswitch d lo hi offs => match st with
    | .int x :: r => match tsw pc d lo hi offs x.toInt with
      | some t => some (t, lc, r, w)
      | none => none
    | _ => none
  | .lookupswitch d ps => match st with
    | .int x :: r => if (ps.toList.zip (ps.toList.drop 1)).all (fun (a, next) => a.1 < next.1) then match jmp pc (Op.lookupswitch.offset ps.toList d x.toInt) with
      | some t => some (t, lc, r, w)
      | none => none
      else none
    | _ => none
  | .getfield i => match st, pp.1 own i with
    | .ref a :: r, some (ci, k) => match getF w a ci k with
      | some v => some (pc + 3, lc, v :: r, w)
      | none => none
    | _, _ => none
  | .putfield i => match st, pp.1 own i with
    | v :: .ref a :: r, some (ci, k) => match putF F ini own w a ci k v with
      | some w' => some (pc + 3, lc, r, w')
      | none => none
    | _, _ => none
  | .iaload => match st with
    | .int i :: .ref a :: r => match aldI xs L w a i [0] with
      | some v => some (pc + 1, lc, .int v :: r, w)
      | none => none
    | _ => none
  | .baload => match st with
    | .int i :: .ref a :: r => match aldI xs L w a i [1, 2] with
      | some v => some (pc + 1, lc, .int v :: r, w)
      | none => none
    | _ => none
  | .laload => match st with
    | .int i :: .ref a :: r => match wAt w a with
      | some (.inl (3, n, .inr (.inl f))) => if inB i n then some (pc + 1, lc, .long (f i.toNatClampNeg) :: r, w) else none
      | _ => none
    | _ => none
  | .aaload => match st with
    | .int i :: .ref a :: r => match wAt w a with
      | some (.inl (4, n, .inr (.inr (.inr (.inr f))))) => if inB i n then some (pc + 1, lc, va_rf (f i.toNatClampNeg) :: r, w) else none
      | _ => none
    | _ => none
  | .iastore => match st with
    | .int x :: .int i :: .ref a :: r => match astI w a i x [0] with
      | some w' => some (pc + 1, lc, r, w')
      | none => none
    | _ => none
  | .bastore => match st with
    | .int x :: .int i :: .ref a :: r => match astI w a i x [1, 2] with
      | some w' => some (pc + 1, lc, r, w')
      | none => none
    | _ => none
  | .lastore => match st with
    | .long x :: .int i :: .ref a :: r => match wAt w a with
      | some (.inl (3, n, .inr (.inl f))) => if inB i n then some (pc + 1, lc, r, wSet w a (.inl (3, n, .inr (.inl (vp_updL f i.toNatClampNeg x))))) else none
      | _ => none
    | _ => none
  | .aastore => match st with
    | .ref v :: .int i :: .ref a :: r => match wAt w a, wAt w v with
      | some (.inl (4, n, .inr (.inr (.inr (.inr f))))), some (.inr (2, _)) => if inB i n then some (pc + 1, lc, r, wSet w a (.inl (4, n, .inr (.inr (.inr (.inr (va_up f i.toNatClampNeg (some v)))))))) else none
      | _, _ => none
    | _ => none
  | .arraylength => match st with
    | .ref a :: r => match alen L w a with
      | some n => some (pc + 1, lc, .int (Int32.ofNat n) :: r, w)
      | none => none
    | _ => none
  | .new i => match pp.2.1 own i with
    | some ci => some (pc + 3, lc, .ref (w.length + 3) :: st, w ++ [.inr (ci, (F.getD ci []).map (fun q => dflt q.1))])
    | none => none
  | .newarray t => match st with
    | .int n :: r => if decide (¬ n < 0) && decide (n.toNatClampNeg ≤ 4000) then match t with
      | .int => some (pc + 2, lc, .ref (w.length + 3) :: r, w ++ [.inl (0, n.toNatClampNeg, .inl (fun _ => 0))])
      | .boolean => some (pc + 2, lc, .ref (w.length + 3) :: r, w ++ [.inl (1, n.toNatClampNeg, .inl (fun _ => 0))])
      | .byte => some (pc + 2, lc, .ref (w.length + 3) :: r, w ++ [.inl (2, n.toNatClampNeg, .inl (fun _ => 0))])
      | .long => some (pc + 2, lc, .ref (w.length + 3) :: r, w ++ [.inl (3, n.toNatClampNeg, .inr (.inl (fun _ => 0)))])
      | _ => none
      else none
    | _ => none
  | .anewarray i => match st, pp.2.1 own i with
    | .int n :: r, some 2 => if decide (¬ n < 0) && decide (n.toNatClampNeg ≤ 4000) then some (pc + 3, lc, .ref (w.length + 3) :: r, w ++ [.inl (4, n.toNatClampNeg, .inr (.inr (.inr (.inr (fun _ => none)))))]) else none
    | _, _ => none
  | _ => none
/-- System.arraycopy over rows of ints -/
def acpy (w : pW) (a0 : Nat) (sp : Int32) (a : Nat) (dp n : Int32) : Option pW := match wAt w a0, wAt w a with
  | some (.inl (0, n0, .inl f)), some (.inl (0, n1, .inl g)) => if decide (¬ sp < 0) && (decide (¬ dp < 0) && (decide (¬ n < 0) && (decide (sp.toNatClampNeg + n.toNatClampNeg ≤ n0) && decide (dp.toNatClampNeg + n.toNatClampNeg ≤ n1)))) then some (wSet w a (.inl (0, n1, .inl (va_cpy f g sp.toNatClampNeg dp.toNatClampNeg n.toNatClampNeg)))) else none
  | _, _ => none
/-- the two texts -/
abbrev pT : Type := List (List Int32)
def chAt (tx : List Int32) (k : Nat) : Int32 := tx.getD k 0 &&& 255
def ixF (c : Int32) : List Int32 → Nat → Int32
  | [], _ => -1
  | b :: l, k => if b &&& 255 = c then nI k else ixF c l (k + 1)
def tops (tx : pT) (op : Nat) (st : List Value) : Option (List Value) := match op, st with
  | 3, .ref (a + 1) :: r => match tx[a]? with
    | some t => some (.int (nI t.length) :: r)
    | none => none
  | 4, .int i :: .ref (a + 1) :: r => match tx[a]? with
    | some t => if inB i t.length then some (.int (chAt t i.toNatClampNeg) :: r) else none
    | none => none
  | 5, .int c :: .ref (a + 1) :: r => match tx[a]? with
    | some t => some (.int (ixF c t 0) :: r)
    | none => none
  | _, _ => none
def cats (st : List Value) : Nat := (st.map fun v => v.category).sum
/-- how many arguments a method takes off the stack (the object itself apart), by its number -/
abbrev pG : Type := List (pM × Nat)
def lArgs : Nat → List Value → pL
  | _, [] => []
  | i, v :: r => (i, v) :: lArgs (if v.category = 2 then i + 2 else i + 1) r
def isInit (y : MethodName) : Bool := y.name == "<init>"
/-- what an instruction does: an answer, a next state, or a call (the method, its arguments, where and with what it goes on) -/
abbrev pA : Type := Option Value ⊕ pC ⊕ (pM × List Value × Nat × pL × List Value)
def instrAt (M : pM) (pc : Nat) : Option Instr := (M.2.2.2.2.2.find? (fun q => q.1 == pc)).map (fun q => q.2)
def aret (M : pM) (ins : Instr) (st : List Value) : Option (Option Value) := match ins, st, M.2.2.2.2.1 with
  | .ireturn, [.int v], some .int => some (some (.int v))
  | .ireturn, [.int v], some .boolean => if v = 0 ∨ v = 1 then some (some (.int v)) else none
  | .lreturn, [.long v], some .long => some (some (.long v))
  | .areturn, [.ref v], some (.object _) => some (some (.ref v))
  | .return_, [], none => some none
  | _, _, _ => none
def acallV (pp : pP) (G : pG) (tx : pT) (M : pM) (d i pc : Nat) (lc : pL) (st : List Value) (w : pW) : Option pA := match pp.2.2.2 M.1 i with
  | some (0, j) => match G[j]? with
    | some (M', na) => match st.drop na with
      | .ref b :: r => match wAt w b with
        | some (.inr (ci, _)) => if ci == M'.1 && (decide (cats r ≤ 8) && (decide (na ≤ st.length) && decide (cats (.ref b :: (st.take na).reverse) ≤ M'.2.2.2.1))) then some (.inr (.inr (M', .ref b :: (st.take na).reverse, pc + 3, lc, r))) else none
        | _ => none
      | _ => none
    | none => none
  | some (op, _) => match tops tx op st with
    | some st' => if decide (cats st' ≤ 8) && decide (6 ≤ d) then some (.inr (.inl (pc + 3, lc, st', w))) else none
    | none => none
  | none => none
def acallS (pp : pP) (G : pG) (M : pM) (d i pc : Nat) (lc : pL) (st : List Value) (w : pW) : Option pA := match pp.2.2.2 M.1 i with
  | some (6, j) => match G[j]? with
    | some (M', na) => if decide (cats (st.drop na) ≤ 8) && (decide (na ≤ st.length) && decide (cats (st.take na).reverse ≤ M'.2.2.2.1)) then some (.inr (.inr (M', (st.take na).reverse, pc + 3, lc, st.drop na))) else none
    | none => none
  | some (1, _) => match st with
    | .int k :: .int dp :: .ref a :: .int sp :: .ref a0 :: r => if decide (cats r ≤ 8) && decide (0 < d) then match acpy w a0 sp a dp k with
      | some w' => some (.inr (.inl (pc + 3, lc, r, w')))
      | none => none
      else none
    | _ => none
  | some (8, _) => match st with
    | .int y :: .int x :: r => if decide (cats r ≤ 8) && decide (0 < d) then some (.inr (.inl (pc + 3, lc, .int (if x < y then y else x) :: r, w))) else none
    | _ => none
  | some (9, _) => match st with
    | .int y :: .int x :: r => if decide (cats r ≤ 8) && decide (0 < d) then some (.inr (.inl (pc + 3, lc, .int (if y < x then y else x) :: r, w))) else none
    | _ => none
  | _ => none
def acallI (pp : pP) (G : pG) (M : pM) (d i pc : Nat) (lc : pL) (st : List Value) (w : pW) : Option pA := match pp.2.2.2 M.1 i with
  | some (7, j) => match G[j]? with
    | some (M', na) => match st.drop na with
      | .ref b :: r => if decide (cats r ≤ 8) && (decide (na ≤ st.length) && (isInit M'.2.1 && decide (cats (.ref b :: (st.take na).reverse) ≤ M'.2.2.2.1))) then some (.inr (.inr (M', .ref b :: (st.take na).reverse, pc + 3, lc, r))) else none
      | _ => none
    | none => none
  | some (2, _) => match st with
    | .ref _ :: r => if decide (cats r ≤ 8) && decide (0 < d) then some (.inr (.inl (pc + 3, lc, r, w))) else none
    | _ => none
  | _ => none
def astep (pp : pP) (F : pF) (G : pG) (tx : pT) (xs : Nat → Int32) (L : Nat) (M : pM) (d : Nat) (ins : Instr) (pc : Nat) (lc : pL) (st : List Value) (w : pW) : Option pA := match ins with
  | .ireturn => (aret M ins st).map .inl
  | .lreturn => (aret M ins st).map .inl
  | .areturn => (aret M ins st).map .inl
  | .return_ => (aret M ins st).map .inl
  | .invokevirtual i => acallV pp G tx M d i pc lc st w
  | .invokestatic i => acallS pp G M d i pc lc st w
  | .invokespecial i => acallI pp G M d i pc lc st w
  | _ => (sstep pp F xs L M.1 M.2.2.2.1 (isInit M.2.1) ins pc lc st w).map (fun c => .inr (.inl c))
/-- n steps at most, d frames deep at most: the answer, and the world behind it -/
def run (pp : pP) (F : pF) (G : pG) (tx : pT) (xs : Nat → Int32) (L : Nat) : Nat → Nat → pM → Nat → pL → List Value → pW → Option (Option Value × pW)
  | 0, _, _, _, _, _, _ => none
  | n + 1, d, M, pc, lc, st, w => match instrAt M pc with
    | none => none
    | some ins => match astep pp F G tx xs L M d ins pc lc st w with
      | some (.inl v) => some (v, w)
      | some (.inr (.inl (pc', lc', st', w'))) => run pp F G tx xs L n d M pc' lc' st' w'
      | some (.inr (.inr (M', as, pc', lc', r))) => match d with
        | 0 => none
        | d' + 1 => match run pp F G tx xs L n d' M' 0 (lArgs 0 as) [] w with
          | some (v, w') => run pp F G tx xs L n d M pc' lc' (v.toList ++ r) w'
          | none => none
      | none => none
end
section
/-! from relative addresses to the heap's -/
def cvV (ad : Nat → Nat) : Value → Value
  | .ref i => .ref (ad i)
  | v => v
def cvA (ad : Nat → Nat) (a : vp_A) : vp_A := match a with
  | (n, .inr (.inr (.inr (.inr f)))) => (n, .inr (.inr (.inr (.inr (fun j => (f j).map ad)))))
  | a => a
def cvE (ad : Nat → Nat) (ct : Nat → ClassId) (e : pE) : va_E := match e with
  | .inl a => .inl (ct a.1, cvA ad a.2)
  | .inr o => .inr (o.1, o.2.map (cvV ad))
def cW (ad : Nat → Nat) (ct : Nat → ClassId) (w : pW) : va_W := w.zipIdx.map (fun q => (ad (q.2 + 3), cvE ad ct q.1))
theorem cW_get (ad : Nat → Nat) (ct : Nat → ClassId) (w : pW) (i : Nat) : (cW ad ct w)[i]? = (w[i]?).map (fun e => (ad (i + 3), cvE ad ct e)) := by
  simp only [cW, List.getElem?_map, List.getElem?_zipIdx, Nat.zero_add]
  cases w[i]? <;> rfl
theorem cW_len (ad : Nat → Nat) (ct : Nat → ClassId) (w : pW) : (cW ad ct w).length = w.length := by simp [cW]
theorem cW_at {ad : Nat → Nat} {ct : Nat → ClassId} {w : pW} {i : Nat} {e : pE} (h : w[i]? = some e) : (cW ad ct w)[i]? = some (ad (i + 3), cvE ad ct e) := by rw [cW_get, h]; rfl
theorem cW_set (ad : Nat → Nat) (ct : Nat → ClassId) (w : pW) (i : Nat) (e : pE) : cW ad ct (w.set i e) = (cW ad ct w).set i (ad (i + 3), cvE ad ct e) := by
  apply List.ext_getElem?
  intro j
  rw [cW_get]
  by_cases h : j = i
  · subst h
    by_cases hl : j < w.length
    · rw [List.getElem?_set_self hl, List.getElem?_set_self (by rw [cW_len]; exact hl)]
      rfl
    · rw [List.getElem?_eq_none (by rw [List.length_set]; omega), List.getElem?_eq_none (by rw [List.length_set, cW_len]; omega)]
      rfl
  · rw [List.getElem?_set_ne (Ne.symm h), List.getElem?_set_ne (Ne.symm h), cW_get]
theorem cW_push (ad : Nat → Nat) (ct : Nat → ClassId) (w : pW) (e : pE) : cW ad ct (w ++ [e]) = cW ad ct w ++ [(ad (w.length + 3), cvE ad ct e)] := by
  apply List.ext_getElem?
  intro j
  rw [cW_get]
  by_cases h : j < w.length
  · rw [List.getElem?_append_left h, List.getElem?_append_left (by rw [cW_len]; exact h), cW_get]
  · by_cases h2 : j = w.length
    · subst h2
      rw [List.getElem?_append_right (Nat.le_refl _), List.getElem?_append_right (by rw [cW_len]; exact Nat.le_refl _), cW_len, Nat.sub_self]
      rfl
    · rw [List.getElem?_eq_none (by simp; omega), List.getElem?_eq_none (by simp [cW_len]; omega)]
      rfl
/-- what is named lies in the world -/
def scV (n : Nat) (v : Value) : Prop := ∀ i, v = .ref i → i < n
def scE (n : Nat) (e : pE) : Prop := match e with
  | .inl (_, _, .inr (.inr (.inr (.inr f)))) => ∀ j r, f j = some r → r < n
  | .inl _ => True
  | .inr o => ∀ v ∈ o.2, scV n v
def scW (n : Nat) (w : pW) : Prop := ∀ e ∈ w, scE n e
def scL (n : Nat) (lc : pL) : Prop := ∀ q ∈ lc, scV n q.2
def scS (n : Nat) (st : List Value) : Prop := ∀ v ∈ st, scV n v
def adX (n : Nat) (ad ad' : Nat → Nat) : Prop := ∀ i, i < n → ad' i = ad i
theorem cvV_x {n : Nat} {ad ad' : Nat → Nat} (h : adX n ad ad') {v : Value} (hv : scV n v) : cvV ad' v = cvV ad v := by
  cases v with
  | ref i => simp only [cvV]; rw [h i (hv i rfl)]
  | _ => rfl
theorem cvE_x {n : Nat} {ad ad' : Nat → Nat} {ct : Nat → ClassId} (h : adX n ad ad') {e : pE} (he : scE n e) : cvE ad' ct e = cvE ad ct e := by
  rcases e with ⟨t, k, a⟩ | ⟨ci, fs⟩
  · rcases a with f | f | f | f | f
    · rfl
    · rfl
    · rfl
    · rfl
    · simp only [cvE, cvA]
      congr 7
      funext j
      cases hf : f j with
      | none => rfl
      | some r => simp only [Option.map_some]; rw [h r (he j r hf)]
  · simp only [cvE]
    congr 2
    exact List.map_congr_left (fun v hv => cvV_x h (he v hv))
theorem cW_x {n : Nat} {ad ad' : Nat → Nat} {ct : Nat → ClassId} (h : adX n ad ad') {w : pW} (hw : scW n w) (hn : w.length + 3 ≤ n) : cW ad' ct w = cW ad ct w := by
  apply List.ext_getElem?
  intro j
  rw [cW_get, cW_get]
  cases hj : w[j]? with
  | none => rfl
  | some e =>
    have hl := (List.getElem?_eq_some_iff.mp hj).1
    simp only [Option.map_some]
    rw [h (j + 3) (by omega), cvE_x h (hw e (List.mem_of_getElem? hj))]
theorem cS_x {n : Nat} {ad ad' : Nat → Nat} (h : adX n ad ad') {st : List Value} (hs : scS n st) : st.map (cvV ad') = st.map (cvV ad) := List.map_congr_left (fun v hv => cvV_x h (hs v hv))
def cvL (ad : Nat → Nat) (lc : pL) : List (Nat × Value) := lc.map (fun q => (q.1, cvV ad q.2))
theorem cL_x {n : Nat} {ad ad' : Nat → Nat} (h : adX n ad ad') {lc : pL} (hs : scL n lc) : cvL ad' lc = cvL ad lc := List.map_congr_left (fun q hq => by rw [cvV_x h (hs q hq)])
theorem cat_cv (ad : Nat → Nat) (v : Value) : (cvV ad v).category = v.category := by cases v <;> rfl
theorem cats_cv (ad : Nat → Nat) (st : List Value) : ((st.map (cvV ad)).map fun v => v.category).sum = cats st := by
  simp only [cats, List.map_map]
  congr 1
  exact List.map_congr_left (fun v _ => cat_cv ad v)
theorem scV_up {n n' : Nat} (h : n ≤ n') {v : Value} (hv : scV n v) : scV n' v := fun i hi => Nat.lt_of_lt_of_le (hv i hi) h
theorem scE_up {n n' : Nat} (h : n ≤ n') {e : pE} (he : scE n e) : scE n' e := by
  rcases e with ⟨t, k, a⟩ | ⟨ci, fs⟩
  · rcases a with f | f | f | f | f
    · trivial
    · trivial
    · trivial
    · trivial
    · exact fun j r hr => Nat.lt_of_lt_of_le (he j r hr) h
  · exact fun v hv => scV_up h (he v hv)
theorem scW_up {n n' : Nat} (h : n ≤ n') {w : pW} (hw : scW n w) : scW n' w := fun e he => scE_up h (hw e he)
theorem scL_up {n n' : Nat} (h : n ≤ n') {lc : pL} (hw : scL n lc) : scL n' lc := fun q hq => scV_up h (hw q hq)
theorem scS_up {n n' : Nat} (h : n ≤ n') {st : List Value} (hw : scS n st) : scS n' st := fun v hv => scV_up h (hw v hv)
theorem scV_int (n : Nat) (x : Int32) : scV n (.int x) := fun _ h => by cases h
theorem scV_long (n : Nat) (x : Int64) : scV n (.long x) := fun _ h => by cases h
theorem scV_null (n : Nat) : scV n .null := fun _ h => by cases h
theorem scW_set {n : Nat} {w : pW} {i : Nat} {e : pE} (hw : scW n w) (he : scE n e) : scW n (w.set i e) := by
  intro x hx
  rcases List.mem_or_eq_of_mem_set hx with h | h
  · exact hw x h
  · rw [h]; exact he
theorem lGet_mem {lc : pL} {i : Nat} {v : Value} (h : lGet lc i = some v) : (i, v) ∈ lc := by
  unfold lGet at h
  cases hf : lc.find? (fun q => q.1 == i) with
  | none => rw [hf] at h; cases h
  | some q =>
    rw [hf] at h
    have h1 := List.mem_of_find?_eq_some hf
    have h2 := List.find?_some hf
    simp only [beq_iff_eq] at h2
    have h3 : q.2 = v := Option.some.inj h
    rw [← h2, ← h3]
    exact h1
theorem lv_get {ad : Nat → Nat} {ls : Array Slot} {nL : Nat} {lc : pL} {i : Nat} {v : Value} (hl : lv_has ls nL (cvL ad lc)) (h : lGet lc i = some v) : ls[i]? = some (.val (cvV ad v)) :=
  hl.2.2 (i, cvV ad v) (List.mem_map.mpr ⟨(i, v), lGet_mem h, rfl⟩)
theorem cvL_set1 (ad : Nat → Nat) (lc : pL) (i : Nat) (v : Value) : (i, cvV ad v) :: (cvL ad lc).filter (fun q => !(q.1 == i) && !(q.1 + 1 == i && q.2.category == 2)) = cvL ad (lSet1 lc i v) := by
  simp only [cvL, lSet1, List.map_cons, List.filter_map]
  congr 2
  apply List.filter_congr
  intro q _
  simp only [Function.comp, cat_cv]
theorem cvL_set2 (ad : Nat → Nat) (lc : pL) (i : Nat) (v : Value) : (i, cvV ad v) :: (cvL ad lc).filter (fun q => !(q.1 == i) && (!(q.1 == i + 1) && !(q.1 + 1 == i && q.2.category == 2))) = cvL ad (lSet2 lc i v) := by
  simp only [cvL, lSet2, List.map_cons, List.filter_map]
  congr 2
  apply List.filter_congr
  intro q _
  simp only [Function.comp, cat_cv]
theorem scL_set1 {n : Nat} {lc : pL} (hl : scL n lc) (i : Nat) {v : Value} (hv : scV n v) : scL n (lSet1 lc i v) := by
  intro q hq
  rcases List.mem_cons.mp hq with rfl | hq
  · exact hv
  · exact hl q (List.mem_filter.mp hq).1
theorem scL_set2 {n : Nat} {lc : pL} (hl : scL n lc) (i : Nat) {v : Value} (hv : scV n v) : scL n (lSet2 lc i v) := by
  intro q hq
  rcases List.mem_cons.mp hq with rfl | hq
  · exact hv
  · exact hl q (List.mem_filter.mp hq).1
theorem inB_in {i : Int32} {n : Nat} (h : inB i n = true) : vp_in i n := by
  simp only [inB, Bool.and_eq_true, Bool.not_eq_true', decide_eq_false_iff_not, decide_eq_true_eq] at h
  exact fun q => q.elim h.1 (fun q => absurd h.2 (by omega))
theorem jmp_eq {pc : Nat} {off : Int} {t : Nat} (h : jmp pc off = some t) : (pc : Int) + off = (t : Int) := by
  unfold jmp at h
  by_cases h0 : 0 ≤ (pc : Int) + off
  · rw [if_pos h0] at h
    have := Option.some.inj h
    omega
  · rw [if_neg h0] at h; cases h
theorem wAt_some {w : pW} {a : Nat} {e : pE} (h : wAt w a = some e) : ∃ j, a = j + 3 ∧ w[j]? = some e := by
  rcases a with _ | _ | _ | j
  · cases h
  · cases h
  · cases h
  · exact ⟨j, rfl, h⟩
theorem okPut_ok {ty : FieldType} {v : Value} (h : okPut ty v = true) (ad : Nat → Nat) : narrow ty (cvV ad v) = cvV ad v ∧ fits ty (cvV ad v) = true := by
  cases ty <;> cases v <;> first | exact ⟨rfl, rfl⟩ | (cases h; done) | skip
  next x =>
    simp only [okPut, Bool.or_eq_true, beq_iff_eq] at h
    rcases h with rfl | rfl
    · exact ⟨show narrow .boolean (.int 0) = .int 0 by decide, show fits .boolean (.int 0) = true by decide⟩
    · exact ⟨show narrow .boolean (.int 1) = .int 1 by decide, show fits .boolean (.int 1) = true by decide⟩
end
section
/-! THE MACHINE DOES WHAT THE PURE ONE DOES: one instruction -/
def owns : List String := [RX0, RX1, RX2, RX3, RX4, RX5, RX6, RX7, RX8, RX9, RX10, RX11, RL, RJ6, RJ9]
def isSw : Instr → Bool
  | .tableswitch .. => true
  | .lookupswitch .. => true
  | _ => false
def ilen : Instr → Nat
  | .bipush _ => 2
  | .sipush _ => 3
  | .ldc _ => 2
  | .ldc_w _ => 3
  | .ldc2_w _ => 3
  | .iload _ => 2
  | .aload _ => 2
  | .istore _ => 2
  | .astore _ => 2
  | .iinc _ _ => 3
  | .ifCond _ _ => 3
  | .if_icmp _ _ => 3
  | .goto _ => 3
  | .ifnonnull _ => 3
  | .getfield _ => 3
  | .putfield _ => 3
  | .invokevirtual _ => 3
  | .invokestatic _ => 3
  | .invokespecial _ => 3
  | .new _ => 3
  | .newarray _ => 2
  | .anewarray _ => 3
  | _ => 1
def DecAt (cc : ByteArray) (pc : Nat) (ins : Instr) : Prop := ∃ len, decode cc pc = .ok (ins, len) ∧ (isSw ins = true ∨ len = ilen ins)
theorem DecAt.d {cc : ByteArray} {pc : Nat} {ins : Instr} (h : DecAt cc pc ins) (hs : isSw ins = false) : decode cc pc = .ok (ins, ilen ins) := by
  obtain ⟨len, h1, h2⟩ := h
  rcases h2 with h2 | h2
  · rw [hs] at h2; cases h2
  · rw [← h2]; exact h1
def FLk (own : String) (i ci k : Nat) : Prop := ∃ (C : String) (T : u_T) (N : Nat), classes[ci]? = some (C, T, N) ∧ k < N ∧ (Cond.fieldLink own i C (T k).2.1 (T k).2.2.1 ∈ wt ∨ ∃ host : String, Cond.fieldLinkNest own i C (T k).2.1 (T k).2.2.1 host ∈ nw ∧ C ≠ own)
def ClsOK (F : pF) : Prop := ∀ (ci : Nat) (C : String) (T : u_T) (N : Nat), classes[ci]? = some (C, T, N) → ∃ ty0 : Nat → FieldType, (∀ w ∈ u_ws C T N, w ∈ wt) ∧ (∀ k, k < N → parseFieldDescriptor (T k).2.2.1 = some (ty0 k)) ∧ (∀ a, a < N → ∀ b, b < N → a ≠ b → (T a).2.1 ≠ (T b).2.1) ∧ (∀ k, k < N → (T k).1 = C) ∧ Cond.instantiable C N ∈ wt ∧ Cond.initialized C ∈ wt ∧ (F.getD ci []).length = N ∧ (∀ k, k < N → (F.getD ci [])[k]? = some (ty0 k, (T k).2.2.2)) ∧ ∀ k, k < N → defaultValue (ty0 k) = dflt (ty0 k)
def isText (tr : List (String × Nat × Nat)) (own : String) (i a : Nat) : Prop := (own, i, a) ∈ tr
/-- the pool's rows are the tables' -/
def PoolOK (pp : pP) (tr : List (String × Nat × Nat)) : Prop := (∀ o i ci k, pp.1 o i = some (ci, k) → ∃ own, owns[o]? = some own ∧ FLk own i ci k) ∧
  (∀ o i ci, pp.2.1 o i = some ci → ∃ own, owns[o]? = some own ∧ ∃ (C : String) (T : u_T) (N : Nat), classes[ci]? = some (C, T, N) ∧ Cond.classLink own i C ∈ wt) ∧
  (∀ o i x, pp.2.2.1 o i = some (.int x) → ∃ own, owns[o]? = some own ∧ Cond.constant own i x ∈ wt) ∧ (∀ o i x, pp.2.2.1 o i = some (.long x) → ∃ own, owns[o]? = some own ∧ Cond.constantLong own i x ∈ wt) ∧ (∀ o i a, pp.2.2.1 o i = some (.ref a) → ∃ own, owns[o]? = some own ∧ (a = 1 ∨ a = 2) ∧ isText tr own i a)
def slE : pE → Nat
  | .inl a => a.2.1
  | .inr o => o.2.length
def slW (w : pW) : Nat := (w.map slE).sum
theorem slW_push (w : pW) (e : pE) : slW (w ++ [e]) = slW w + slE e := by simp [slW]
theorem slW_set {w : pW} {i : Nat} {e e0 : pE} (h : w[i]? = some e0) (he : slE e = slE e0) : slW (w.set i e) = slW w := by
  unfold slW
  rw [List.map_set, he]
  congr 1
  apply List.ext_getElem?
  intro j
  by_cases hj : j = i
  · subst hj
    have hl := (List.getElem?_eq_some_iff.mp h).1
    rw [List.getElem?_set_self (by rw [List.length_map]; exact hl), List.getElem?_map, h]
    rfl
  · rw [List.getElem?_set_ne (Ne.symm hj)]
def ctL (cI cZ cB cJ cE : ClassId) : Nat → ClassId
  | 0 => cI
  | 1 => cZ
  | 2 => cB
  | 3 => cJ
  | _ => cE
section STEP
variable {p : Program} {l : Launch} {e : Env} {R : Room} {s : State} {m : MethodId} {args : Array Value} {below : List Frame} {meth : Method} {c : Code} {H : Heap} {locs : List Loc} {cells slots : Nat} {Q : State → Prop}
variable {G : va_G} {cI cZ cB cJ cE : ClassId} {A : Nat → Prop} {Z0 : Nat}
/-- what is fixed in a frame -/
def Cx (p : Program) (s : State) (m : MethodId) (args : Array Value) (meth : Method) (c : Code) (G : va_G) (cI cZ cB cJ cE : ClassId) (A : Nat → Prop) (Z0 : Nat) (M : pM) : Prop :=
  p.tables.exec = Jvm.exec ∧ c.code = M.2.2.1 ∧ c.maxLocals = M.2.2.2.1 ∧ (∀ w ∈ wt, w.before args s = true) ∧ s.vm.findClass M.2.1.cls = some m.cls ∧ kx G cI cZ cB cJ cE s ∧ (∀ q, s.heap.size ≤ q → A q) ∧ (∀ q, A q → Z0 ≤ q) ∧ meth.name = M.2.1.name ∧ owns[M.1]? = some M.2.1.cls ∧ Z0 ≤ s.heap.size
/-- what runs -/
def Rn (s : State) (G : va_G) (cI cZ cB cJ cE : ClassId) (A : Nat → Prop) (nL : Nat) (ad : Nat → Nat) (H : Heap) (locs : List Loc) (ls : Array Slot) (lc : pL) (w : pW) : Prop :=
  va_P G classes (cW ad (ctL cI cZ cB cJ cE) w) H ∧ va_D A (cW ad (ctL cI cZ cB cJ cE) w) ∧ va_S A s.heap H locs ∧ lv_has ls nL (cvL ad lc) ∧ scW (w.length + 3) w ∧ scL (w.length + 3) lc
/-- the texts' and the script's facts, as a frame has them -/
abbrev pX : Type := (Nat → Nat) → State → Prop
/-- the machine goes on from a pure state -/
def Go (p : Program) (l : Launch) (e : Env) (R : Room) (s : State) (m : MethodId) (args : Array Value) (below : List Frame) (meth : Method) (c : Code) (Q : State → Prop) (G : va_G) (cI cZ cB cJ cE : ClassId) (A : Nat → Prop) (M : pM) (n0 : Nat) (ad0 : Nat → Nat) (cells slots pc : Nat) (lc : pL) (st : List Value) (w : pW) : Prop :=
  ∀ (ad : Nat → Nat) (H : Heap) (locs : List Loc) (ls : Array Slot), adX n0 ad0 ad → Rn s G cI cZ cB cJ cE A M.2.2.2.1 ad H locs ls lc w → scS (w.length + 3) st → W p l e R s m args below meth c H locs cells slots Q (F0 m pc ls (st.map (cvV ad)))

def EXf (xs : Nat → Int32) (L : Nat) (tr : List (String × Nat × Nat)) (Z0 : Nat) (ad : Nat → Nat) (s : State) : Prop := ad 0 < Z0 ∧ va_X (ad 0) L xs s s.heap ∧ ∀ own i a, isText tr own i a → a < 3 ∧ ∃ txt : String, vk_R own i txt (ad a) s
theorem Go.z {M : pM} {n0 : Nat} {ad0 : Nat → Nat} {pc : Nat} {lc : pL} {st : List Value} {w : pW} (k : Go p l e R s m args below meth c Q G cI cZ cB cJ cE A M n0 ad0 (cells + (w.length - w.length)) (slots + (slW w - slW w)) pc lc st w) : Go p l e R s m args below meth c Q G cI cZ cB cJ cE A M n0 ad0 cells slots pc lc st w := by
  have e1 : cells + (w.length - w.length) = cells := by omega
  have e2 : slots + (slW w - slW w) = slots := by omega
  rw [e1, e2] at k
  exact k
theorem Go.zs {M : pM} {n0 : Nat} {ad0 : Nat → Nat} {pc : Nat} {lc : pL} {st : List Value} {w w' : pW} (h1 : w'.length = w.length) (h2 : slW w' = slW w) (k : Go p l e R s m args below meth c Q G cI cZ cB cJ cE A M n0 ad0 (cells + (w'.length - w.length)) (slots + (slW w' - slW w)) pc lc st w') : Go p l e R s m args below meth c Q G cI cZ cB cJ cE A M n0 ad0 cells slots pc lc st w' := by
  have e1 : cells + (w'.length - w.length) = cells := by omega
  have e2 : slots + (slW w' - slW w) = slots := by omega
  rw [e1, e2] at k
  exact k
theorem scS_c {n : Nat} {v : Value} {st : List Value} (h : scV n v) (hs : scS n st) : scS n (v :: st) := fun x hx => by
  rcases List.mem_cons.mp hx with rfl | hx
  · exact h
  · exact hs x hx
theorem scS_t {n : Nat} {v : Value} {st : List Value} (hs : scS n (v :: st)) : scS n st := fun x hx => hs x (List.mem_cons_of_mem _ hx)
theorem scS_h {n : Nat} {v : Value} {st : List Value} (hs : scS n (v :: st)) : scV n v := hs v List.mem_cons_self
theorem lGet_sc {n : Nat} {lc : pL} {i : Nat} {v : Value} (hl : scL n lc) (h : lGet lc i = some v) : scV n v := hl _ (lGet_mem h)
theorem adX_r (n : Nat) (ad : Nat → Nat) : adX n ad ad := fun _ _ => rfl
theorem cat1_cv {ad : Nat → Nat} {v : Value} (h : isCat1 v = true) : (cvV ad v).category = 1 := by cases v <;> first | rfl | cases h

theorem ss_iconst {pp : pP} {F : pF} {tr : List (String × Nat × Nat)} {xs : Nat → Int32} {L : Nat} {M : pM} (hF : ClsOK F) (hPo : PoolOK pp tr) (C : Cx p s m args meth c G cI cZ cB cJ cE A Z0 M) {pc : Nat} {lc : pL} {st : List Value} {w : pW} {pc' : Nat} {lc' : pL} {st' : List Value} {w' : pW} {ad : Nat → Nat} {ls : Array Slot} (hX : EXf xs L tr Z0 ad s) {n : Int} (hd : DecAt M.2.2.1 pc (.iconst n)) (h : sstep pp F xs L M.1 M.2.2.2.1 (isInit M.2.1) (.iconst n) pc lc st w = some (pc', lc', st', w')) (hR : Rn s G cI cZ cB cJ cE A M.2.2.2.1 ad H locs ls lc w) (hs : scS (w.length + 3) st) (hroom : cells + (w'.length - w.length) ≤ R.cells ∧ slots + (slW w' - slW w) ≤ R.slots)
    (k : Go p l e R s m args below meth c Q G cI cZ cB cJ cE A M (w.length + 3) ad (cells + (w'.length - w.length)) (slots + (slW w' - slW w)) pc' lc' st' w') : W p l e R s m args below meth c H locs cells slots Q (F0 m pc ls (st.map (cvV ad))) := by
  obtain ⟨hx, hb, hml, htw, hown, hK, hA, hAZ, hin, hon, hZs⟩ := C
  simp only [sstep] at h
  simp only [Option.some.injEq, Prod.mk.injEq] at h
  obtain ⟨rfl, rfl, rfl, rfl⟩ := h
  exact lv_iconst hx hb (hd.d rfl) rfl (k.z ad H locs ls (adX_r _ _) hR (scS_c (scV_int _ _) hs))
theorem ss_bipush {pp : pP} {F : pF} {tr : List (String × Nat × Nat)} {xs : Nat → Int32} {L : Nat} {M : pM} (hF : ClsOK F) (hPo : PoolOK pp tr) (C : Cx p s m args meth c G cI cZ cB cJ cE A Z0 M) {pc : Nat} {lc : pL} {st : List Value} {w : pW} {pc' : Nat} {lc' : pL} {st' : List Value} {w' : pW} {ad : Nat → Nat} {ls : Array Slot} (hX : EXf xs L tr Z0 ad s) {n : Int} (hd : DecAt M.2.2.1 pc (.bipush n)) (h : sstep pp F xs L M.1 M.2.2.2.1 (isInit M.2.1) (.bipush n) pc lc st w = some (pc', lc', st', w')) (hR : Rn s G cI cZ cB cJ cE A M.2.2.2.1 ad H locs ls lc w) (hs : scS (w.length + 3) st) (hroom : cells + (w'.length - w.length) ≤ R.cells ∧ slots + (slW w' - slW w) ≤ R.slots)
    (k : Go p l e R s m args below meth c Q G cI cZ cB cJ cE A M (w.length + 3) ad (cells + (w'.length - w.length)) (slots + (slW w' - slW w)) pc' lc' st' w') : W p l e R s m args below meth c H locs cells slots Q (F0 m pc ls (st.map (cvV ad))) := by
  obtain ⟨hx, hb, hml, htw, hown, hK, hA, hAZ, hin, hon, hZs⟩ := C
  simp only [sstep] at h
  simp only [Option.some.injEq, Prod.mk.injEq] at h
  obtain ⟨rfl, rfl, rfl, rfl⟩ := h
  exact lv_bipush hx hb (hd.d rfl) rfl (k.z ad H locs ls (adX_r _ _) hR (scS_c (scV_int _ _) hs))
theorem ss_sipush {pp : pP} {F : pF} {tr : List (String × Nat × Nat)} {xs : Nat → Int32} {L : Nat} {M : pM} (hF : ClsOK F) (hPo : PoolOK pp tr) (C : Cx p s m args meth c G cI cZ cB cJ cE A Z0 M) {pc : Nat} {lc : pL} {st : List Value} {w : pW} {pc' : Nat} {lc' : pL} {st' : List Value} {w' : pW} {ad : Nat → Nat} {ls : Array Slot} (hX : EXf xs L tr Z0 ad s) {n : Int} (hd : DecAt M.2.2.1 pc (.sipush n)) (h : sstep pp F xs L M.1 M.2.2.2.1 (isInit M.2.1) (.sipush n) pc lc st w = some (pc', lc', st', w')) (hR : Rn s G cI cZ cB cJ cE A M.2.2.2.1 ad H locs ls lc w) (hs : scS (w.length + 3) st) (hroom : cells + (w'.length - w.length) ≤ R.cells ∧ slots + (slW w' - slW w) ≤ R.slots)
    (k : Go p l e R s m args below meth c Q G cI cZ cB cJ cE A M (w.length + 3) ad (cells + (w'.length - w.length)) (slots + (slW w' - slW w)) pc' lc' st' w') : W p l e R s m args below meth c H locs cells slots Q (F0 m pc ls (st.map (cvV ad))) := by
  obtain ⟨hx, hb, hml, htw, hown, hK, hA, hAZ, hin, hon, hZs⟩ := C
  simp only [sstep] at h
  simp only [Option.some.injEq, Prod.mk.injEq] at h
  obtain ⟨rfl, rfl, rfl, rfl⟩ := h
  exact lv_sipush hx hb (hd.d rfl) rfl (k.z ad H locs ls (adX_r _ _) hR (scS_c (scV_int _ _) hs))
theorem ss_lconst {pp : pP} {F : pF} {tr : List (String × Nat × Nat)} {xs : Nat → Int32} {L : Nat} {M : pM} (hF : ClsOK F) (hPo : PoolOK pp tr) (C : Cx p s m args meth c G cI cZ cB cJ cE A Z0 M) {pc : Nat} {lc : pL} {st : List Value} {w : pW} {pc' : Nat} {lc' : pL} {st' : List Value} {w' : pW} {ad : Nat → Nat} {ls : Array Slot} (hX : EXf xs L tr Z0 ad s) {n : Fin 2} (hd : DecAt M.2.2.1 pc (.lconst n)) (h : sstep pp F xs L M.1 M.2.2.2.1 (isInit M.2.1) (.lconst n) pc lc st w = some (pc', lc', st', w')) (hR : Rn s G cI cZ cB cJ cE A M.2.2.2.1 ad H locs ls lc w) (hs : scS (w.length + 3) st) (hroom : cells + (w'.length - w.length) ≤ R.cells ∧ slots + (slW w' - slW w) ≤ R.slots)
    (k : Go p l e R s m args below meth c Q G cI cZ cB cJ cE A M (w.length + 3) ad (cells + (w'.length - w.length)) (slots + (slW w' - slW w)) pc' lc' st' w') : W p l e R s m args below meth c H locs cells slots Q (F0 m pc ls (st.map (cvV ad))) := by
  obtain ⟨hx, hb, hml, htw, hown, hK, hA, hAZ, hin, hon, hZs⟩ := C
  simp only [sstep] at h
  simp only [Option.some.injEq, Prod.mk.injEq] at h
  obtain ⟨rfl, rfl, rfl, rfl⟩ := h
  exact lv_lconst hx hb (hd.d rfl) rfl (k.z ad H locs ls (adX_r _ _) hR (scS_c (scV_long _ _) hs))
theorem ss_ldc {pp : pP} {F : pF} {tr : List (String × Nat × Nat)} {xs : Nat → Int32} {L : Nat} {M : pM} (hF : ClsOK F) (hPo : PoolOK pp tr) (C : Cx p s m args meth c G cI cZ cB cJ cE A Z0 M) {pc : Nat} {lc : pL} {st : List Value} {w : pW} {pc' : Nat} {lc' : pL} {st' : List Value} {w' : pW} {ad : Nat → Nat} {ls : Array Slot} (hX : EXf xs L tr Z0 ad s) {i : Nat} (hd : DecAt M.2.2.1 pc (.ldc i)) (h : sstep pp F xs L M.1 M.2.2.2.1 (isInit M.2.1) (.ldc i) pc lc st w = some (pc', lc', st', w')) (hR : Rn s G cI cZ cB cJ cE A M.2.2.2.1 ad H locs ls lc w) (hs : scS (w.length + 3) st) (hroom : cells + (w'.length - w.length) ≤ R.cells ∧ slots + (slW w' - slW w) ≤ R.slots)
    (k : Go p l e R s m args below meth c Q G cI cZ cB cJ cE A M (w.length + 3) ad (cells + (w'.length - w.length)) (slots + (slW w' - slW w)) pc' lc' st' w') : W p l e R s m args below meth c H locs cells slots Q (F0 m pc ls (st.map (cvV ad))) := by
  obtain ⟨hx, hb, hml, htw, hown, hK, hA, hAZ, hin, hon, hZs⟩ := C
  simp only [sstep] at h
  split at h
  · next v hv =>
    simp only [Option.some.injEq, Prod.mk.injEq] at h
    obtain ⟨rfl, rfl, rfl, rfl⟩ := h
    obtain ⟨own, h1, h2⟩ := hPo.2.2.1 _ _ _ hv
    have ho : own = M.2.1.cls := Option.some.inj (h1.symm.trans hon)
    subst ho
    exact lv_ldc hx hb hown (htw _ h2) (hd.d rfl) (k.z ad H locs ls (adX_r _ _) hR (scS_c (scV_int _ _) hs))
  · next v hv =>
    simp only [Option.some.injEq, Prod.mk.injEq] at h
    obtain ⟨rfl, rfl, rfl, rfl⟩ := h
    obtain ⟨own, h1, h3, h2⟩ := hPo.2.2.2.2 _ _ _ hv
    have ho : own = M.2.1.cls := Option.some.inj (h1.symm.trans hon)
    subst ho
    obtain ⟨-, txt, h4⟩ := hX.2.2 _ _ _ h2
    refine va_ldcS hx hb hown h4 (hd.d rfl) (k.z ad H locs ls (adX_r _ _) hR (scS_c (fun j hj => ?_) hs))
    cases hj
    rcases h3 with rfl | rfl
    · exact Nat.lt_of_lt_of_le (show 1 < 3 by decide) (Nat.le_add_left 3 _)
    · exact Nat.lt_of_lt_of_le (show 2 < 3 by decide) (Nat.le_add_left 3 _)
  · cases h
theorem ss_ldc_w {pp : pP} {F : pF} {tr : List (String × Nat × Nat)} {xs : Nat → Int32} {L : Nat} {M : pM} (hF : ClsOK F) (hPo : PoolOK pp tr) (C : Cx p s m args meth c G cI cZ cB cJ cE A Z0 M) {pc : Nat} {lc : pL} {st : List Value} {w : pW} {pc' : Nat} {lc' : pL} {st' : List Value} {w' : pW} {ad : Nat → Nat} {ls : Array Slot} (hX : EXf xs L tr Z0 ad s) {i : Nat} (hd : DecAt M.2.2.1 pc (.ldc_w i)) (h : sstep pp F xs L M.1 M.2.2.2.1 (isInit M.2.1) (.ldc_w i) pc lc st w = some (pc', lc', st', w')) (hR : Rn s G cI cZ cB cJ cE A M.2.2.2.1 ad H locs ls lc w) (hs : scS (w.length + 3) st) (hroom : cells + (w'.length - w.length) ≤ R.cells ∧ slots + (slW w' - slW w) ≤ R.slots)
    (k : Go p l e R s m args below meth c Q G cI cZ cB cJ cE A M (w.length + 3) ad (cells + (w'.length - w.length)) (slots + (slW w' - slW w)) pc' lc' st' w') : W p l e R s m args below meth c H locs cells slots Q (F0 m pc ls (st.map (cvV ad))) := by
  obtain ⟨hx, hb, hml, htw, hown, hK, hA, hAZ, hin, hon, hZs⟩ := C
  simp only [sstep] at h
  split at h
  · next v hv =>
    simp only [Option.some.injEq, Prod.mk.injEq] at h
    obtain ⟨rfl, rfl, rfl, rfl⟩ := h
    obtain ⟨own, h1, h2⟩ := hPo.2.2.1 _ _ _ hv
    have ho : own = M.2.1.cls := Option.some.inj (h1.symm.trans hon)
    subst ho
    exact lv_ldcw hx hb hown (htw _ h2) (hd.d rfl) (k.z ad H locs ls (adX_r _ _) hR (scS_c (scV_int _ _) hs))
  · cases h
theorem ss_ldc2_w {pp : pP} {F : pF} {tr : List (String × Nat × Nat)} {xs : Nat → Int32} {L : Nat} {M : pM} (hF : ClsOK F) (hPo : PoolOK pp tr) (C : Cx p s m args meth c G cI cZ cB cJ cE A Z0 M) {pc : Nat} {lc : pL} {st : List Value} {w : pW} {pc' : Nat} {lc' : pL} {st' : List Value} {w' : pW} {ad : Nat → Nat} {ls : Array Slot} (hX : EXf xs L tr Z0 ad s) {i : Nat} (hd : DecAt M.2.2.1 pc (.ldc2_w i)) (h : sstep pp F xs L M.1 M.2.2.2.1 (isInit M.2.1) (.ldc2_w i) pc lc st w = some (pc', lc', st', w')) (hR : Rn s G cI cZ cB cJ cE A M.2.2.2.1 ad H locs ls lc w) (hs : scS (w.length + 3) st) (hroom : cells + (w'.length - w.length) ≤ R.cells ∧ slots + (slW w' - slW w) ≤ R.slots)
    (k : Go p l e R s m args below meth c Q G cI cZ cB cJ cE A M (w.length + 3) ad (cells + (w'.length - w.length)) (slots + (slW w' - slW w)) pc' lc' st' w') : W p l e R s m args below meth c H locs cells slots Q (F0 m pc ls (st.map (cvV ad))) := by
  obtain ⟨hx, hb, hml, htw, hown, hK, hA, hAZ, hin, hon, hZs⟩ := C
  simp only [sstep] at h
  split at h
  · next v hv =>
    simp only [Option.some.injEq, Prod.mk.injEq] at h
    obtain ⟨rfl, rfl, rfl, rfl⟩ := h
    obtain ⟨own, h1, h2⟩ := hPo.2.2.2.1 _ _ _ hv
    have ho : own = M.2.1.cls := Option.some.inj (h1.symm.trans hon)
    subst ho
    exact lv_ldc2 hx hb hown (htw _ h2) (hd.d rfl) (k.z ad H locs ls (adX_r _ _) hR (scS_c (scV_long _ _) hs))
  · cases h
theorem ss_iload_n {pp : pP} {F : pF} {tr : List (String × Nat × Nat)} {xs : Nat → Int32} {L : Nat} {M : pM} (hF : ClsOK F) (hPo : PoolOK pp tr) (C : Cx p s m args meth c G cI cZ cB cJ cE A Z0 M) {pc : Nat} {lc : pL} {st : List Value} {w : pW} {pc' : Nat} {lc' : pL} {st' : List Value} {w' : pW} {ad : Nat → Nat} {ls : Array Slot} (hX : EXf xs L tr Z0 ad s) {i : Fin 4} (hd : DecAt M.2.2.1 pc (.iload_n i)) (h : sstep pp F xs L M.1 M.2.2.2.1 (isInit M.2.1) (.iload_n i) pc lc st w = some (pc', lc', st', w')) (hR : Rn s G cI cZ cB cJ cE A M.2.2.2.1 ad H locs ls lc w) (hs : scS (w.length + 3) st) (hroom : cells + (w'.length - w.length) ≤ R.cells ∧ slots + (slW w' - slW w) ≤ R.slots)
    (k : Go p l e R s m args below meth c Q G cI cZ cB cJ cE A M (w.length + 3) ad (cells + (w'.length - w.length)) (slots + (slW w' - slW w)) pc' lc' st' w') : W p l e R s m args below meth c H locs cells slots Q (F0 m pc ls (st.map (cvV ad))) := by
  obtain ⟨hx, hb, hml, htw, hown, hK, hA, hAZ, hin, hon, hZs⟩ := C
  simp only [sstep] at h
  split at h
  · next v hv =>
    simp only [Option.some.injEq, Prod.mk.injEq] at h
    obtain ⟨rfl, rfl, rfl, rfl⟩ := h
    exact lv_iload_n hx hb (hd.d rfl) rfl (lv_get hR.2.2.2.1 hv) (k.z ad H locs ls (adX_r _ _) hR (scS_c (scV_int _ _) hs))
  · cases h
theorem ss_iload {pp : pP} {F : pF} {tr : List (String × Nat × Nat)} {xs : Nat → Int32} {L : Nat} {M : pM} (hF : ClsOK F) (hPo : PoolOK pp tr) (C : Cx p s m args meth c G cI cZ cB cJ cE A Z0 M) {pc : Nat} {lc : pL} {st : List Value} {w : pW} {pc' : Nat} {lc' : pL} {st' : List Value} {w' : pW} {ad : Nat → Nat} {ls : Array Slot} (hX : EXf xs L tr Z0 ad s) {i : Nat} (hd : DecAt M.2.2.1 pc (.iload i)) (h : sstep pp F xs L M.1 M.2.2.2.1 (isInit M.2.1) (.iload i) pc lc st w = some (pc', lc', st', w')) (hR : Rn s G cI cZ cB cJ cE A M.2.2.2.1 ad H locs ls lc w) (hs : scS (w.length + 3) st) (hroom : cells + (w'.length - w.length) ≤ R.cells ∧ slots + (slW w' - slW w) ≤ R.slots)
    (k : Go p l e R s m args below meth c Q G cI cZ cB cJ cE A M (w.length + 3) ad (cells + (w'.length - w.length)) (slots + (slW w' - slW w)) pc' lc' st' w') : W p l e R s m args below meth c H locs cells slots Q (F0 m pc ls (st.map (cvV ad))) := by
  obtain ⟨hx, hb, hml, htw, hown, hK, hA, hAZ, hin, hon, hZs⟩ := C
  simp only [sstep] at h
  split at h
  · next v hv =>
    simp only [Option.some.injEq, Prod.mk.injEq] at h
    obtain ⟨rfl, rfl, rfl, rfl⟩ := h
    exact lv_iload hx hb (hd.d rfl) (lv_get hR.2.2.2.1 hv) (k.z ad H locs ls (adX_r _ _) hR (scS_c (scV_int _ _) hs))
  · cases h
theorem ss_lload_n {pp : pP} {F : pF} {tr : List (String × Nat × Nat)} {xs : Nat → Int32} {L : Nat} {M : pM} (hF : ClsOK F) (hPo : PoolOK pp tr) (C : Cx p s m args meth c G cI cZ cB cJ cE A Z0 M) {pc : Nat} {lc : pL} {st : List Value} {w : pW} {pc' : Nat} {lc' : pL} {st' : List Value} {w' : pW} {ad : Nat → Nat} {ls : Array Slot} (hX : EXf xs L tr Z0 ad s) {i : Fin 4} (hd : DecAt M.2.2.1 pc (.lload_n i)) (h : sstep pp F xs L M.1 M.2.2.2.1 (isInit M.2.1) (.lload_n i) pc lc st w = some (pc', lc', st', w')) (hR : Rn s G cI cZ cB cJ cE A M.2.2.2.1 ad H locs ls lc w) (hs : scS (w.length + 3) st) (hroom : cells + (w'.length - w.length) ≤ R.cells ∧ slots + (slW w' - slW w) ≤ R.slots)
    (k : Go p l e R s m args below meth c Q G cI cZ cB cJ cE A M (w.length + 3) ad (cells + (w'.length - w.length)) (slots + (slW w' - slW w)) pc' lc' st' w') : W p l e R s m args below meth c H locs cells slots Q (F0 m pc ls (st.map (cvV ad))) := by
  obtain ⟨hx, hb, hml, htw, hown, hK, hA, hAZ, hin, hon, hZs⟩ := C
  simp only [sstep] at h
  split at h
  · next v hv =>
    simp only [Option.some.injEq, Prod.mk.injEq] at h
    obtain ⟨rfl, rfl, rfl, rfl⟩ := h
    exact lv_lload_n hx hb (hd.d rfl) rfl (lv_get hR.2.2.2.1 hv) (k.z ad H locs ls (adX_r _ _) hR (scS_c (scV_long _ _) hs))
  · cases h
theorem ss_aload_n {pp : pP} {F : pF} {tr : List (String × Nat × Nat)} {xs : Nat → Int32} {L : Nat} {M : pM} (hF : ClsOK F) (hPo : PoolOK pp tr) (C : Cx p s m args meth c G cI cZ cB cJ cE A Z0 M) {pc : Nat} {lc : pL} {st : List Value} {w : pW} {pc' : Nat} {lc' : pL} {st' : List Value} {w' : pW} {ad : Nat → Nat} {ls : Array Slot} (hX : EXf xs L tr Z0 ad s) {i : Fin 4} (hd : DecAt M.2.2.1 pc (.aload_n i)) (h : sstep pp F xs L M.1 M.2.2.2.1 (isInit M.2.1) (.aload_n i) pc lc st w = some (pc', lc', st', w')) (hR : Rn s G cI cZ cB cJ cE A M.2.2.2.1 ad H locs ls lc w) (hs : scS (w.length + 3) st) (hroom : cells + (w'.length - w.length) ≤ R.cells ∧ slots + (slW w' - slW w) ≤ R.slots)
    (k : Go p l e R s m args below meth c Q G cI cZ cB cJ cE A M (w.length + 3) ad (cells + (w'.length - w.length)) (slots + (slW w' - slW w)) pc' lc' st' w') : W p l e R s m args below meth c H locs cells slots Q (F0 m pc ls (st.map (cvV ad))) := by
  obtain ⟨hx, hb, hml, htw, hown, hK, hA, hAZ, hin, hon, hZs⟩ := C
  simp only [sstep] at h
  split at h
  · next v hv =>
    simp only [Option.some.injEq, Prod.mk.injEq] at h
    obtain ⟨rfl, rfl, rfl, rfl⟩ := h
    exact lv_aload_n hx hb (hd.d rfl) rfl (lv_get hR.2.2.2.1 hv) (k.z ad H locs ls (adX_r _ _) hR (scS_c (lGet_sc hR.2.2.2.2.2 hv) hs))
  · next hv =>
    simp only [Option.some.injEq, Prod.mk.injEq] at h
    obtain ⟨rfl, rfl, rfl, rfl⟩ := h
    exact lv_aload_nN hx hb (hd.d rfl) rfl (lv_get hR.2.2.2.1 hv) (k.z ad H locs ls (adX_r _ _) hR (scS_c (scV_null _) hs))
  · cases h
theorem ss_aload {pp : pP} {F : pF} {tr : List (String × Nat × Nat)} {xs : Nat → Int32} {L : Nat} {M : pM} (hF : ClsOK F) (hPo : PoolOK pp tr) (C : Cx p s m args meth c G cI cZ cB cJ cE A Z0 M) {pc : Nat} {lc : pL} {st : List Value} {w : pW} {pc' : Nat} {lc' : pL} {st' : List Value} {w' : pW} {ad : Nat → Nat} {ls : Array Slot} (hX : EXf xs L tr Z0 ad s) {i : Nat} (hd : DecAt M.2.2.1 pc (.aload i)) (h : sstep pp F xs L M.1 M.2.2.2.1 (isInit M.2.1) (.aload i) pc lc st w = some (pc', lc', st', w')) (hR : Rn s G cI cZ cB cJ cE A M.2.2.2.1 ad H locs ls lc w) (hs : scS (w.length + 3) st) (hroom : cells + (w'.length - w.length) ≤ R.cells ∧ slots + (slW w' - slW w) ≤ R.slots)
    (k : Go p l e R s m args below meth c Q G cI cZ cB cJ cE A M (w.length + 3) ad (cells + (w'.length - w.length)) (slots + (slW w' - slW w)) pc' lc' st' w') : W p l e R s m args below meth c H locs cells slots Q (F0 m pc ls (st.map (cvV ad))) := by
  obtain ⟨hx, hb, hml, htw, hown, hK, hA, hAZ, hin, hon, hZs⟩ := C
  simp only [sstep] at h
  split at h
  · next v hv =>
    simp only [Option.some.injEq, Prod.mk.injEq] at h
    obtain ⟨rfl, rfl, rfl, rfl⟩ := h
    exact lv_aload hx hb (hd.d rfl) (lv_get hR.2.2.2.1 hv) (k.z ad H locs ls (adX_r _ _) hR (scS_c (lGet_sc hR.2.2.2.2.2 hv) hs))
  · next hv =>
    simp only [Option.some.injEq, Prod.mk.injEq] at h
    obtain ⟨rfl, rfl, rfl, rfl⟩ := h
    exact lv_aloadN hx hb (hd.d rfl) (lv_get hR.2.2.2.1 hv) (k.z ad H locs ls (adX_r _ _) hR (scS_c (scV_null _) hs))
  · cases h
theorem ss_istore_n {pp : pP} {F : pF} {tr : List (String × Nat × Nat)} {xs : Nat → Int32} {L : Nat} {M : pM} (hF : ClsOK F) (hPo : PoolOK pp tr) (C : Cx p s m args meth c G cI cZ cB cJ cE A Z0 M) {pc : Nat} {lc : pL} {st : List Value} {w : pW} {pc' : Nat} {lc' : pL} {st' : List Value} {w' : pW} {ad : Nat → Nat} {ls : Array Slot} (hX : EXf xs L tr Z0 ad s) {i : Fin 4} (hd : DecAt M.2.2.1 pc (.istore_n i)) (h : sstep pp F xs L M.1 M.2.2.2.1 (isInit M.2.1) (.istore_n i) pc lc st w = some (pc', lc', st', w')) (hR : Rn s G cI cZ cB cJ cE A M.2.2.2.1 ad H locs ls lc w) (hs : scS (w.length + 3) st) (hroom : cells + (w'.length - w.length) ≤ R.cells ∧ slots + (slW w' - slW w) ≤ R.slots)
    (k : Go p l e R s m args below meth c Q G cI cZ cB cJ cE A M (w.length + 3) ad (cells + (w'.length - w.length)) (slots + (slW w' - slW w)) pc' lc' st' w') : W p l e R s m args below meth c H locs cells slots Q (F0 m pc ls (st.map (cvV ad))) := by
  obtain ⟨hx, hb, hml, htw, hown, hK, hA, hAZ, hin, hon, hZs⟩ := C
  simp only [sstep] at h
  split at h
  · next x r =>
    split at h
    · next hn =>
      simp only [Option.some.injEq, Prod.mk.injEq] at h
      obtain ⟨rfl, rfl, rfl, rfl⟩ := h
      exact lv_istore_n hx hb (hd.d rfl) rfl hR.2.2.2.1 (of_decide_eq_true hn) (cvL_set1 ad lc _ (.int x)) (fun ls' hl' => k.z ad H locs ls' (adX_r _ _) ⟨hR.1, hR.2.1, hR.2.2.1, hl', hR.2.2.2.2.1, scL_set1 hR.2.2.2.2.2 _ (scS_h hs)⟩ (scS_t hs))
    · cases h
  · cases h
theorem ss_istore {pp : pP} {F : pF} {tr : List (String × Nat × Nat)} {xs : Nat → Int32} {L : Nat} {M : pM} (hF : ClsOK F) (hPo : PoolOK pp tr) (C : Cx p s m args meth c G cI cZ cB cJ cE A Z0 M) {pc : Nat} {lc : pL} {st : List Value} {w : pW} {pc' : Nat} {lc' : pL} {st' : List Value} {w' : pW} {ad : Nat → Nat} {ls : Array Slot} (hX : EXf xs L tr Z0 ad s) {i : Nat} (hd : DecAt M.2.2.1 pc (.istore i)) (h : sstep pp F xs L M.1 M.2.2.2.1 (isInit M.2.1) (.istore i) pc lc st w = some (pc', lc', st', w')) (hR : Rn s G cI cZ cB cJ cE A M.2.2.2.1 ad H locs ls lc w) (hs : scS (w.length + 3) st) (hroom : cells + (w'.length - w.length) ≤ R.cells ∧ slots + (slW w' - slW w) ≤ R.slots)
    (k : Go p l e R s m args below meth c Q G cI cZ cB cJ cE A M (w.length + 3) ad (cells + (w'.length - w.length)) (slots + (slW w' - slW w)) pc' lc' st' w') : W p l e R s m args below meth c H locs cells slots Q (F0 m pc ls (st.map (cvV ad))) := by
  obtain ⟨hx, hb, hml, htw, hown, hK, hA, hAZ, hin, hon, hZs⟩ := C
  simp only [sstep] at h
  split at h
  · next x r =>
    split at h
    · next hn =>
      simp only [Option.some.injEq, Prod.mk.injEq] at h
      obtain ⟨rfl, rfl, rfl, rfl⟩ := h
      exact lv_istore hx hb (hd.d rfl) hR.2.2.2.1 (of_decide_eq_true hn) (cvL_set1 ad lc _ (.int x)) (fun ls' hl' => k.z ad H locs ls' (adX_r _ _) ⟨hR.1, hR.2.1, hR.2.2.1, hl', hR.2.2.2.2.1, scL_set1 hR.2.2.2.2.2 _ (scS_h hs)⟩ (scS_t hs))
    · cases h
  · cases h
theorem ss_astore_n {pp : pP} {F : pF} {tr : List (String × Nat × Nat)} {xs : Nat → Int32} {L : Nat} {M : pM} (hF : ClsOK F) (hPo : PoolOK pp tr) (C : Cx p s m args meth c G cI cZ cB cJ cE A Z0 M) {pc : Nat} {lc : pL} {st : List Value} {w : pW} {pc' : Nat} {lc' : pL} {st' : List Value} {w' : pW} {ad : Nat → Nat} {ls : Array Slot} (hX : EXf xs L tr Z0 ad s) {i : Fin 4} (hd : DecAt M.2.2.1 pc (.astore_n i)) (h : sstep pp F xs L M.1 M.2.2.2.1 (isInit M.2.1) (.astore_n i) pc lc st w = some (pc', lc', st', w')) (hR : Rn s G cI cZ cB cJ cE A M.2.2.2.1 ad H locs ls lc w) (hs : scS (w.length + 3) st) (hroom : cells + (w'.length - w.length) ≤ R.cells ∧ slots + (slW w' - slW w) ≤ R.slots)
    (k : Go p l e R s m args below meth c Q G cI cZ cB cJ cE A M (w.length + 3) ad (cells + (w'.length - w.length)) (slots + (slW w' - slW w)) pc' lc' st' w') : W p l e R s m args below meth c H locs cells slots Q (F0 m pc ls (st.map (cvV ad))) := by
  obtain ⟨hx, hb, hml, htw, hown, hK, hA, hAZ, hin, hon, hZs⟩ := C
  simp only [sstep] at h
  split at h
  · next x r =>
    split at h
    · next hn =>
      simp only [Option.some.injEq, Prod.mk.injEq] at h
      obtain ⟨rfl, rfl, rfl, rfl⟩ := h
      exact lv_astore_n hx hb (hd.d rfl) rfl hR.2.2.2.1 (of_decide_eq_true hn) (cvL_set1 ad lc _ (.ref x)) (fun ls' hl' => k.z ad H locs ls' (adX_r _ _) ⟨hR.1, hR.2.1, hR.2.2.1, hl', hR.2.2.2.2.1, scL_set1 hR.2.2.2.2.2 _ (scS_h hs)⟩ (scS_t hs))
    · cases h
  · cases h
theorem ss_astore {pp : pP} {F : pF} {tr : List (String × Nat × Nat)} {xs : Nat → Int32} {L : Nat} {M : pM} (hF : ClsOK F) (hPo : PoolOK pp tr) (C : Cx p s m args meth c G cI cZ cB cJ cE A Z0 M) {pc : Nat} {lc : pL} {st : List Value} {w : pW} {pc' : Nat} {lc' : pL} {st' : List Value} {w' : pW} {ad : Nat → Nat} {ls : Array Slot} (hX : EXf xs L tr Z0 ad s) {i : Nat} (hd : DecAt M.2.2.1 pc (.astore i)) (h : sstep pp F xs L M.1 M.2.2.2.1 (isInit M.2.1) (.astore i) pc lc st w = some (pc', lc', st', w')) (hR : Rn s G cI cZ cB cJ cE A M.2.2.2.1 ad H locs ls lc w) (hs : scS (w.length + 3) st) (hroom : cells + (w'.length - w.length) ≤ R.cells ∧ slots + (slW w' - slW w) ≤ R.slots)
    (k : Go p l e R s m args below meth c Q G cI cZ cB cJ cE A M (w.length + 3) ad (cells + (w'.length - w.length)) (slots + (slW w' - slW w)) pc' lc' st' w') : W p l e R s m args below meth c H locs cells slots Q (F0 m pc ls (st.map (cvV ad))) := by
  obtain ⟨hx, hb, hml, htw, hown, hK, hA, hAZ, hin, hon, hZs⟩ := C
  simp only [sstep] at h
  split at h
  · next x r =>
    split at h
    · next hn =>
      simp only [Option.some.injEq, Prod.mk.injEq] at h
      obtain ⟨rfl, rfl, rfl, rfl⟩ := h
      exact lv_astore hx hb (hd.d rfl) hR.2.2.2.1 (of_decide_eq_true hn) (cvL_set1 ad lc _ (.ref x)) (fun ls' hl' => k.z ad H locs ls' (adX_r _ _) ⟨hR.1, hR.2.1, hR.2.2.1, hl', hR.2.2.2.2.1, scL_set1 hR.2.2.2.2.2 _ (scS_h hs)⟩ (scS_t hs))
    · cases h
  · cases h
theorem ss_lstore_n {pp : pP} {F : pF} {tr : List (String × Nat × Nat)} {xs : Nat → Int32} {L : Nat} {M : pM} (hF : ClsOK F) (hPo : PoolOK pp tr) (C : Cx p s m args meth c G cI cZ cB cJ cE A Z0 M) {pc : Nat} {lc : pL} {st : List Value} {w : pW} {pc' : Nat} {lc' : pL} {st' : List Value} {w' : pW} {ad : Nat → Nat} {ls : Array Slot} (hX : EXf xs L tr Z0 ad s) {i : Fin 4} (hd : DecAt M.2.2.1 pc (.lstore_n i)) (h : sstep pp F xs L M.1 M.2.2.2.1 (isInit M.2.1) (.lstore_n i) pc lc st w = some (pc', lc', st', w')) (hR : Rn s G cI cZ cB cJ cE A M.2.2.2.1 ad H locs ls lc w) (hs : scS (w.length + 3) st) (hroom : cells + (w'.length - w.length) ≤ R.cells ∧ slots + (slW w' - slW w) ≤ R.slots)
    (k : Go p l e R s m args below meth c Q G cI cZ cB cJ cE A M (w.length + 3) ad (cells + (w'.length - w.length)) (slots + (slW w' - slW w)) pc' lc' st' w') : W p l e R s m args below meth c H locs cells slots Q (F0 m pc ls (st.map (cvV ad))) := by
  obtain ⟨hx, hb, hml, htw, hown, hK, hA, hAZ, hin, hon, hZs⟩ := C
  simp only [sstep] at h
  split at h
  · next x r =>
    split at h
    · next hn =>
      simp only [Option.some.injEq, Prod.mk.injEq] at h
      obtain ⟨rfl, rfl, rfl, rfl⟩ := h
      exact lv_lstore_n hx hb (hd.d rfl) rfl hR.2.2.2.1 (of_decide_eq_true hn) (cvL_set2 ad lc _ (.long x)) (fun ls' hl' => k.z ad H locs ls' (adX_r _ _) ⟨hR.1, hR.2.1, hR.2.2.1, hl', hR.2.2.2.2.1, scL_set2 hR.2.2.2.2.2 _ (scS_h hs)⟩ (scS_t hs))
    · cases h
  · cases h
theorem ss_iinc {pp : pP} {F : pF} {tr : List (String × Nat × Nat)} {xs : Nat → Int32} {L : Nat} {M : pM} (hF : ClsOK F) (hPo : PoolOK pp tr) (C : Cx p s m args meth c G cI cZ cB cJ cE A Z0 M) {pc : Nat} {lc : pL} {st : List Value} {w : pW} {pc' : Nat} {lc' : pL} {st' : List Value} {w' : pW} {ad : Nat → Nat} {ls : Array Slot} (hX : EXf xs L tr Z0 ad s) {i : Nat} {n : Int} (hd : DecAt M.2.2.1 pc (.iinc i n)) (h : sstep pp F xs L M.1 M.2.2.2.1 (isInit M.2.1) (.iinc i n) pc lc st w = some (pc', lc', st', w')) (hR : Rn s G cI cZ cB cJ cE A M.2.2.2.1 ad H locs ls lc w) (hs : scS (w.length + 3) st) (hroom : cells + (w'.length - w.length) ≤ R.cells ∧ slots + (slW w' - slW w) ≤ R.slots)
    (k : Go p l e R s m args below meth c Q G cI cZ cB cJ cE A M (w.length + 3) ad (cells + (w'.length - w.length)) (slots + (slW w' - slW w)) pc' lc' st' w') : W p l e R s m args below meth c H locs cells slots Q (F0 m pc ls (st.map (cvV ad))) := by
  obtain ⟨hx, hb, hml, htw, hown, hK, hA, hAZ, hin, hon, hZs⟩ := C
  simp only [sstep] at h
  split at h
  · next x hv =>
    split at h
    · next hn =>
      simp only [Option.some.injEq, Prod.mk.injEq] at h
      obtain ⟨rfl, rfl, rfl, rfl⟩ := h
      obtain ⟨k0, hk0⟩ := List.getElem?_of_mem (List.mem_map.mpr ⟨(i, Value.int x), lGet_mem hv, rfl⟩ : (i, cvV ad (.int x)) ∈ cvL ad lc)
      exact lv_iinc hx hb (hd.d rfl) hR.2.2.2.1 hk0 rfl (of_decide_eq_true hn) (cvL_set1 ad lc i (.int (x + Int32.ofInt n))) (fun ls' hl' => k.z ad H locs ls' (adX_r _ _) ⟨hR.1, hR.2.1, hR.2.2.1, hl', hR.2.2.2.2.1, scL_set1 hR.2.2.2.2.2 _ (scV_int _ _)⟩ hs)
    · cases h
  · cases h
theorem ss_iadd {pp : pP} {F : pF} {tr : List (String × Nat × Nat)} {xs : Nat → Int32} {L : Nat} {M : pM} (hF : ClsOK F) (hPo : PoolOK pp tr) (C : Cx p s m args meth c G cI cZ cB cJ cE A Z0 M) {pc : Nat} {lc : pL} {st : List Value} {w : pW} {pc' : Nat} {lc' : pL} {st' : List Value} {w' : pW} {ad : Nat → Nat} {ls : Array Slot} (hX : EXf xs L tr Z0 ad s)  (hd : DecAt M.2.2.1 pc (.iadd)) (h : sstep pp F xs L M.1 M.2.2.2.1 (isInit M.2.1) (.iadd) pc lc st w = some (pc', lc', st', w')) (hR : Rn s G cI cZ cB cJ cE A M.2.2.2.1 ad H locs ls lc w) (hs : scS (w.length + 3) st) (hroom : cells + (w'.length - w.length) ≤ R.cells ∧ slots + (slW w' - slW w) ≤ R.slots)
    (k : Go p l e R s m args below meth c Q G cI cZ cB cJ cE A M (w.length + 3) ad (cells + (w'.length - w.length)) (slots + (slW w' - slW w)) pc' lc' st' w') : W p l e R s m args below meth c H locs cells slots Q (F0 m pc ls (st.map (cvV ad))) := by
  obtain ⟨hx, hb, hml, htw, hown, hK, hA, hAZ, hin, hon, hZs⟩ := C
  simp only [sstep] at h
  split at h
  · next y x r =>
    simp only [Option.some.injEq, Prod.mk.injEq] at h
    obtain ⟨rfl, rfl, rfl, rfl⟩ := h
    exact lv_iadd hx hb (hd.d rfl) (k.z ad H locs ls (adX_r _ _) hR (scS_c (scV_int _ _) (scS_t (scS_t hs))))
  · cases h
theorem ss_isub {pp : pP} {F : pF} {tr : List (String × Nat × Nat)} {xs : Nat → Int32} {L : Nat} {M : pM} (hF : ClsOK F) (hPo : PoolOK pp tr) (C : Cx p s m args meth c G cI cZ cB cJ cE A Z0 M) {pc : Nat} {lc : pL} {st : List Value} {w : pW} {pc' : Nat} {lc' : pL} {st' : List Value} {w' : pW} {ad : Nat → Nat} {ls : Array Slot} (hX : EXf xs L tr Z0 ad s)  (hd : DecAt M.2.2.1 pc (.isub)) (h : sstep pp F xs L M.1 M.2.2.2.1 (isInit M.2.1) (.isub) pc lc st w = some (pc', lc', st', w')) (hR : Rn s G cI cZ cB cJ cE A M.2.2.2.1 ad H locs ls lc w) (hs : scS (w.length + 3) st) (hroom : cells + (w'.length - w.length) ≤ R.cells ∧ slots + (slW w' - slW w) ≤ R.slots)
    (k : Go p l e R s m args below meth c Q G cI cZ cB cJ cE A M (w.length + 3) ad (cells + (w'.length - w.length)) (slots + (slW w' - slW w)) pc' lc' st' w') : W p l e R s m args below meth c H locs cells slots Q (F0 m pc ls (st.map (cvV ad))) := by
  obtain ⟨hx, hb, hml, htw, hown, hK, hA, hAZ, hin, hon, hZs⟩ := C
  simp only [sstep] at h
  split at h
  · next y x r =>
    simp only [Option.some.injEq, Prod.mk.injEq] at h
    obtain ⟨rfl, rfl, rfl, rfl⟩ := h
    exact lv_isub hx hb (hd.d rfl) (k.z ad H locs ls (adX_r _ _) hR (scS_c (scV_int _ _) (scS_t (scS_t hs))))
  · cases h
theorem ss_imul {pp : pP} {F : pF} {tr : List (String × Nat × Nat)} {xs : Nat → Int32} {L : Nat} {M : pM} (hF : ClsOK F) (hPo : PoolOK pp tr) (C : Cx p s m args meth c G cI cZ cB cJ cE A Z0 M) {pc : Nat} {lc : pL} {st : List Value} {w : pW} {pc' : Nat} {lc' : pL} {st' : List Value} {w' : pW} {ad : Nat → Nat} {ls : Array Slot} (hX : EXf xs L tr Z0 ad s)  (hd : DecAt M.2.2.1 pc (.imul)) (h : sstep pp F xs L M.1 M.2.2.2.1 (isInit M.2.1) (.imul) pc lc st w = some (pc', lc', st', w')) (hR : Rn s G cI cZ cB cJ cE A M.2.2.2.1 ad H locs ls lc w) (hs : scS (w.length + 3) st) (hroom : cells + (w'.length - w.length) ≤ R.cells ∧ slots + (slW w' - slW w) ≤ R.slots)
    (k : Go p l e R s m args below meth c Q G cI cZ cB cJ cE A M (w.length + 3) ad (cells + (w'.length - w.length)) (slots + (slW w' - slW w)) pc' lc' st' w') : W p l e R s m args below meth c H locs cells slots Q (F0 m pc ls (st.map (cvV ad))) := by
  obtain ⟨hx, hb, hml, htw, hown, hK, hA, hAZ, hin, hon, hZs⟩ := C
  simp only [sstep] at h
  split at h
  · next y x r =>
    simp only [Option.some.injEq, Prod.mk.injEq] at h
    obtain ⟨rfl, rfl, rfl, rfl⟩ := h
    exact lv_imul hx hb (hd.d rfl) (k.z ad H locs ls (adX_r _ _) hR (scS_c (scV_int _ _) (scS_t (scS_t hs))))
  · cases h
theorem ss_iand {pp : pP} {F : pF} {tr : List (String × Nat × Nat)} {xs : Nat → Int32} {L : Nat} {M : pM} (hF : ClsOK F) (hPo : PoolOK pp tr) (C : Cx p s m args meth c G cI cZ cB cJ cE A Z0 M) {pc : Nat} {lc : pL} {st : List Value} {w : pW} {pc' : Nat} {lc' : pL} {st' : List Value} {w' : pW} {ad : Nat → Nat} {ls : Array Slot} (hX : EXf xs L tr Z0 ad s)  (hd : DecAt M.2.2.1 pc (.iand)) (h : sstep pp F xs L M.1 M.2.2.2.1 (isInit M.2.1) (.iand) pc lc st w = some (pc', lc', st', w')) (hR : Rn s G cI cZ cB cJ cE A M.2.2.2.1 ad H locs ls lc w) (hs : scS (w.length + 3) st) (hroom : cells + (w'.length - w.length) ≤ R.cells ∧ slots + (slW w' - slW w) ≤ R.slots)
    (k : Go p l e R s m args below meth c Q G cI cZ cB cJ cE A M (w.length + 3) ad (cells + (w'.length - w.length)) (slots + (slW w' - slW w)) pc' lc' st' w') : W p l e R s m args below meth c H locs cells slots Q (F0 m pc ls (st.map (cvV ad))) := by
  obtain ⟨hx, hb, hml, htw, hown, hK, hA, hAZ, hin, hon, hZs⟩ := C
  simp only [sstep] at h
  split at h
  · next y x r =>
    simp only [Option.some.injEq, Prod.mk.injEq] at h
    obtain ⟨rfl, rfl, rfl, rfl⟩ := h
    exact lv_iand hx hb (hd.d rfl) (k.z ad H locs ls (adX_r _ _) hR (scS_c (scV_int _ _) (scS_t (scS_t hs))))
  · cases h
theorem ss_ior {pp : pP} {F : pF} {tr : List (String × Nat × Nat)} {xs : Nat → Int32} {L : Nat} {M : pM} (hF : ClsOK F) (hPo : PoolOK pp tr) (C : Cx p s m args meth c G cI cZ cB cJ cE A Z0 M) {pc : Nat} {lc : pL} {st : List Value} {w : pW} {pc' : Nat} {lc' : pL} {st' : List Value} {w' : pW} {ad : Nat → Nat} {ls : Array Slot} (hX : EXf xs L tr Z0 ad s)  (hd : DecAt M.2.2.1 pc (.ior)) (h : sstep pp F xs L M.1 M.2.2.2.1 (isInit M.2.1) (.ior) pc lc st w = some (pc', lc', st', w')) (hR : Rn s G cI cZ cB cJ cE A M.2.2.2.1 ad H locs ls lc w) (hs : scS (w.length + 3) st) (hroom : cells + (w'.length - w.length) ≤ R.cells ∧ slots + (slW w' - slW w) ≤ R.slots)
    (k : Go p l e R s m args below meth c Q G cI cZ cB cJ cE A M (w.length + 3) ad (cells + (w'.length - w.length)) (slots + (slW w' - slW w)) pc' lc' st' w') : W p l e R s m args below meth c H locs cells slots Q (F0 m pc ls (st.map (cvV ad))) := by
  obtain ⟨hx, hb, hml, htw, hown, hK, hA, hAZ, hin, hon, hZs⟩ := C
  simp only [sstep] at h
  split at h
  · next y x r =>
    simp only [Option.some.injEq, Prod.mk.injEq] at h
    obtain ⟨rfl, rfl, rfl, rfl⟩ := h
    exact lv_ior hx hb (hd.d rfl) (k.z ad H locs ls (adX_r _ _) hR (scS_c (scV_int _ _) (scS_t (scS_t hs))))
  · cases h
theorem ss_ixor {pp : pP} {F : pF} {tr : List (String × Nat × Nat)} {xs : Nat → Int32} {L : Nat} {M : pM} (hF : ClsOK F) (hPo : PoolOK pp tr) (C : Cx p s m args meth c G cI cZ cB cJ cE A Z0 M) {pc : Nat} {lc : pL} {st : List Value} {w : pW} {pc' : Nat} {lc' : pL} {st' : List Value} {w' : pW} {ad : Nat → Nat} {ls : Array Slot} (hX : EXf xs L tr Z0 ad s)  (hd : DecAt M.2.2.1 pc (.ixor)) (h : sstep pp F xs L M.1 M.2.2.2.1 (isInit M.2.1) (.ixor) pc lc st w = some (pc', lc', st', w')) (hR : Rn s G cI cZ cB cJ cE A M.2.2.2.1 ad H locs ls lc w) (hs : scS (w.length + 3) st) (hroom : cells + (w'.length - w.length) ≤ R.cells ∧ slots + (slW w' - slW w) ≤ R.slots)
    (k : Go p l e R s m args below meth c Q G cI cZ cB cJ cE A M (w.length + 3) ad (cells + (w'.length - w.length)) (slots + (slW w' - slW w)) pc' lc' st' w') : W p l e R s m args below meth c H locs cells slots Q (F0 m pc ls (st.map (cvV ad))) := by
  obtain ⟨hx, hb, hml, htw, hown, hK, hA, hAZ, hin, hon, hZs⟩ := C
  simp only [sstep] at h
  split at h
  · next y x r =>
    simp only [Option.some.injEq, Prod.mk.injEq] at h
    obtain ⟨rfl, rfl, rfl, rfl⟩ := h
    exact lv_ixor hx hb (hd.d rfl) (k.z ad H locs ls (adX_r _ _) hR (scS_c (scV_int _ _) (scS_t (scS_t hs))))
  · cases h
theorem ss_ishl {pp : pP} {F : pF} {tr : List (String × Nat × Nat)} {xs : Nat → Int32} {L : Nat} {M : pM} (hF : ClsOK F) (hPo : PoolOK pp tr) (C : Cx p s m args meth c G cI cZ cB cJ cE A Z0 M) {pc : Nat} {lc : pL} {st : List Value} {w : pW} {pc' : Nat} {lc' : pL} {st' : List Value} {w' : pW} {ad : Nat → Nat} {ls : Array Slot} (hX : EXf xs L tr Z0 ad s)  (hd : DecAt M.2.2.1 pc (.ishl)) (h : sstep pp F xs L M.1 M.2.2.2.1 (isInit M.2.1) (.ishl) pc lc st w = some (pc', lc', st', w')) (hR : Rn s G cI cZ cB cJ cE A M.2.2.2.1 ad H locs ls lc w) (hs : scS (w.length + 3) st) (hroom : cells + (w'.length - w.length) ≤ R.cells ∧ slots + (slW w' - slW w) ≤ R.slots)
    (k : Go p l e R s m args below meth c Q G cI cZ cB cJ cE A M (w.length + 3) ad (cells + (w'.length - w.length)) (slots + (slW w' - slW w)) pc' lc' st' w') : W p l e R s m args below meth c H locs cells slots Q (F0 m pc ls (st.map (cvV ad))) := by
  obtain ⟨hx, hb, hml, htw, hown, hK, hA, hAZ, hin, hon, hZs⟩ := C
  simp only [sstep] at h
  split at h
  · next y x r =>
    simp only [Option.some.injEq, Prod.mk.injEq] at h
    obtain ⟨rfl, rfl, rfl, rfl⟩ := h
    exact lv_ishl hx hb (hd.d rfl) (k.z ad H locs ls (adX_r _ _) hR (scS_c (scV_int _ _) (scS_t (scS_t hs))))
  · cases h
theorem ss_ishr {pp : pP} {F : pF} {tr : List (String × Nat × Nat)} {xs : Nat → Int32} {L : Nat} {M : pM} (hF : ClsOK F) (hPo : PoolOK pp tr) (C : Cx p s m args meth c G cI cZ cB cJ cE A Z0 M) {pc : Nat} {lc : pL} {st : List Value} {w : pW} {pc' : Nat} {lc' : pL} {st' : List Value} {w' : pW} {ad : Nat → Nat} {ls : Array Slot} (hX : EXf xs L tr Z0 ad s)  (hd : DecAt M.2.2.1 pc (.ishr)) (h : sstep pp F xs L M.1 M.2.2.2.1 (isInit M.2.1) (.ishr) pc lc st w = some (pc', lc', st', w')) (hR : Rn s G cI cZ cB cJ cE A M.2.2.2.1 ad H locs ls lc w) (hs : scS (w.length + 3) st) (hroom : cells + (w'.length - w.length) ≤ R.cells ∧ slots + (slW w' - slW w) ≤ R.slots)
    (k : Go p l e R s m args below meth c Q G cI cZ cB cJ cE A M (w.length + 3) ad (cells + (w'.length - w.length)) (slots + (slW w' - slW w)) pc' lc' st' w') : W p l e R s m args below meth c H locs cells slots Q (F0 m pc ls (st.map (cvV ad))) := by
  obtain ⟨hx, hb, hml, htw, hown, hK, hA, hAZ, hin, hon, hZs⟩ := C
  simp only [sstep] at h
  split at h
  · next y x r =>
    simp only [Option.some.injEq, Prod.mk.injEq] at h
    obtain ⟨rfl, rfl, rfl, rfl⟩ := h
    exact lv_ishr hx hb (hd.d rfl) (k.z ad H locs ls (adX_r _ _) hR (scS_c (scV_int _ _) (scS_t (scS_t hs))))
  · cases h
theorem ss_iushr {pp : pP} {F : pF} {tr : List (String × Nat × Nat)} {xs : Nat → Int32} {L : Nat} {M : pM} (hF : ClsOK F) (hPo : PoolOK pp tr) (C : Cx p s m args meth c G cI cZ cB cJ cE A Z0 M) {pc : Nat} {lc : pL} {st : List Value} {w : pW} {pc' : Nat} {lc' : pL} {st' : List Value} {w' : pW} {ad : Nat → Nat} {ls : Array Slot} (hX : EXf xs L tr Z0 ad s)  (hd : DecAt M.2.2.1 pc (.iushr)) (h : sstep pp F xs L M.1 M.2.2.2.1 (isInit M.2.1) (.iushr) pc lc st w = some (pc', lc', st', w')) (hR : Rn s G cI cZ cB cJ cE A M.2.2.2.1 ad H locs ls lc w) (hs : scS (w.length + 3) st) (hroom : cells + (w'.length - w.length) ≤ R.cells ∧ slots + (slW w' - slW w) ≤ R.slots)
    (k : Go p l e R s m args below meth c Q G cI cZ cB cJ cE A M (w.length + 3) ad (cells + (w'.length - w.length)) (slots + (slW w' - slW w)) pc' lc' st' w') : W p l e R s m args below meth c H locs cells slots Q (F0 m pc ls (st.map (cvV ad))) := by
  obtain ⟨hx, hb, hml, htw, hown, hK, hA, hAZ, hin, hon, hZs⟩ := C
  simp only [sstep] at h
  split at h
  · next y x r =>
    simp only [Option.some.injEq, Prod.mk.injEq] at h
    obtain ⟨rfl, rfl, rfl, rfl⟩ := h
    exact lv_iushr hx hb (hd.d rfl) rfl (k.z ad H locs ls (adX_r _ _) hR (scS_c (scV_int _ _) (scS_t (scS_t hs))))
  · cases h
theorem ss_lor {pp : pP} {F : pF} {tr : List (String × Nat × Nat)} {xs : Nat → Int32} {L : Nat} {M : pM} (hF : ClsOK F) (hPo : PoolOK pp tr) (C : Cx p s m args meth c G cI cZ cB cJ cE A Z0 M) {pc : Nat} {lc : pL} {st : List Value} {w : pW} {pc' : Nat} {lc' : pL} {st' : List Value} {w' : pW} {ad : Nat → Nat} {ls : Array Slot} (hX : EXf xs L tr Z0 ad s)  (hd : DecAt M.2.2.1 pc (.lor)) (h : sstep pp F xs L M.1 M.2.2.2.1 (isInit M.2.1) (.lor) pc lc st w = some (pc', lc', st', w')) (hR : Rn s G cI cZ cB cJ cE A M.2.2.2.1 ad H locs ls lc w) (hs : scS (w.length + 3) st) (hroom : cells + (w'.length - w.length) ≤ R.cells ∧ slots + (slW w' - slW w) ≤ R.slots)
    (k : Go p l e R s m args below meth c Q G cI cZ cB cJ cE A M (w.length + 3) ad (cells + (w'.length - w.length)) (slots + (slW w' - slW w)) pc' lc' st' w') : W p l e R s m args below meth c H locs cells slots Q (F0 m pc ls (st.map (cvV ad))) := by
  obtain ⟨hx, hb, hml, htw, hown, hK, hA, hAZ, hin, hon, hZs⟩ := C
  simp only [sstep] at h
  split at h
  · next y x r =>
    simp only [Option.some.injEq, Prod.mk.injEq] at h
    obtain ⟨rfl, rfl, rfl, rfl⟩ := h
    exact lv_lor hx hb (hd.d rfl) (k.z ad H locs ls (adX_r _ _) hR (scS_c (scV_long _ _) (scS_t (scS_t hs))))
  · cases h
theorem ss_lshl {pp : pP} {F : pF} {tr : List (String × Nat × Nat)} {xs : Nat → Int32} {L : Nat} {M : pM} (hF : ClsOK F) (hPo : PoolOK pp tr) (C : Cx p s m args meth c G cI cZ cB cJ cE A Z0 M) {pc : Nat} {lc : pL} {st : List Value} {w : pW} {pc' : Nat} {lc' : pL} {st' : List Value} {w' : pW} {ad : Nat → Nat} {ls : Array Slot} (hX : EXf xs L tr Z0 ad s)  (hd : DecAt M.2.2.1 pc (.lshl)) (h : sstep pp F xs L M.1 M.2.2.2.1 (isInit M.2.1) (.lshl) pc lc st w = some (pc', lc', st', w')) (hR : Rn s G cI cZ cB cJ cE A M.2.2.2.1 ad H locs ls lc w) (hs : scS (w.length + 3) st) (hroom : cells + (w'.length - w.length) ≤ R.cells ∧ slots + (slW w' - slW w) ≤ R.slots)
    (k : Go p l e R s m args below meth c Q G cI cZ cB cJ cE A M (w.length + 3) ad (cells + (w'.length - w.length)) (slots + (slW w' - slW w)) pc' lc' st' w') : W p l e R s m args below meth c H locs cells slots Q (F0 m pc ls (st.map (cvV ad))) := by
  obtain ⟨hx, hb, hml, htw, hown, hK, hA, hAZ, hin, hon, hZs⟩ := C
  simp only [sstep] at h
  split at h
  · next y x r =>
    simp only [Option.some.injEq, Prod.mk.injEq] at h
    obtain ⟨rfl, rfl, rfl, rfl⟩ := h
    exact lv_lshl hx hb (hd.d rfl) rfl (k.z ad H locs ls (adX_r _ _) hR (scS_c (scV_long _ _) (scS_t (scS_t hs))))
  · cases h
theorem ss_lcmp {pp : pP} {F : pF} {tr : List (String × Nat × Nat)} {xs : Nat → Int32} {L : Nat} {M : pM} (hF : ClsOK F) (hPo : PoolOK pp tr) (C : Cx p s m args meth c G cI cZ cB cJ cE A Z0 M) {pc : Nat} {lc : pL} {st : List Value} {w : pW} {pc' : Nat} {lc' : pL} {st' : List Value} {w' : pW} {ad : Nat → Nat} {ls : Array Slot} (hX : EXf xs L tr Z0 ad s)  (hd : DecAt M.2.2.1 pc (.lcmp)) (h : sstep pp F xs L M.1 M.2.2.2.1 (isInit M.2.1) (.lcmp) pc lc st w = some (pc', lc', st', w')) (hR : Rn s G cI cZ cB cJ cE A M.2.2.2.1 ad H locs ls lc w) (hs : scS (w.length + 3) st) (hroom : cells + (w'.length - w.length) ≤ R.cells ∧ slots + (slW w' - slW w) ≤ R.slots)
    (k : Go p l e R s m args below meth c Q G cI cZ cB cJ cE A M (w.length + 3) ad (cells + (w'.length - w.length)) (slots + (slW w' - slW w)) pc' lc' st' w') : W p l e R s m args below meth c H locs cells slots Q (F0 m pc ls (st.map (cvV ad))) := by
  obtain ⟨hx, hb, hml, htw, hown, hK, hA, hAZ, hin, hon, hZs⟩ := C
  simp only [sstep] at h
  split at h
  · next y x r =>
    simp only [Option.some.injEq, Prod.mk.injEq] at h
    obtain ⟨rfl, rfl, rfl, rfl⟩ := h
    exact W.lcmp hx hb (hd.d rfl) (k.z ad H locs ls (adX_r _ _) hR (scS_c (scV_int _ _) (scS_t (scS_t hs))))
  · cases h
theorem ss_idiv {pp : pP} {F : pF} {tr : List (String × Nat × Nat)} {xs : Nat → Int32} {L : Nat} {M : pM} (hF : ClsOK F) (hPo : PoolOK pp tr) (C : Cx p s m args meth c G cI cZ cB cJ cE A Z0 M) {pc : Nat} {lc : pL} {st : List Value} {w : pW} {pc' : Nat} {lc' : pL} {st' : List Value} {w' : pW} {ad : Nat → Nat} {ls : Array Slot} (hX : EXf xs L tr Z0 ad s)  (hd : DecAt M.2.2.1 pc (.idiv)) (h : sstep pp F xs L M.1 M.2.2.2.1 (isInit M.2.1) (.idiv) pc lc st w = some (pc', lc', st', w')) (hR : Rn s G cI cZ cB cJ cE A M.2.2.2.1 ad H locs ls lc w) (hs : scS (w.length + 3) st) (hroom : cells + (w'.length - w.length) ≤ R.cells ∧ slots + (slW w' - slW w) ≤ R.slots)
    (k : Go p l e R s m args below meth c Q G cI cZ cB cJ cE A M (w.length + 3) ad (cells + (w'.length - w.length)) (slots + (slW w' - slW w)) pc' lc' st' w') : W p l e R s m args below meth c H locs cells slots Q (F0 m pc ls (st.map (cvV ad))) := by
  obtain ⟨hx, hb, hml, htw, hown, hK, hA, hAZ, hin, hon, hZs⟩ := C
  simp only [sstep] at h
  split at h
  · next y x r =>
    split at h
    · cases h
    · next hne =>
      simp only [Option.some.injEq, Prod.mk.injEq] at h
      obtain ⟨rfl, rfl, rfl, rfl⟩ := h
      exact lv_idiv hx hb (hd.d rfl) hne (k.z ad H locs ls (adX_r _ _) hR (scS_c (scV_int _ _) (scS_t (scS_t hs))))
  · cases h
theorem ss_irem {pp : pP} {F : pF} {tr : List (String × Nat × Nat)} {xs : Nat → Int32} {L : Nat} {M : pM} (hF : ClsOK F) (hPo : PoolOK pp tr) (C : Cx p s m args meth c G cI cZ cB cJ cE A Z0 M) {pc : Nat} {lc : pL} {st : List Value} {w : pW} {pc' : Nat} {lc' : pL} {st' : List Value} {w' : pW} {ad : Nat → Nat} {ls : Array Slot} (hX : EXf xs L tr Z0 ad s)  (hd : DecAt M.2.2.1 pc (.irem)) (h : sstep pp F xs L M.1 M.2.2.2.1 (isInit M.2.1) (.irem) pc lc st w = some (pc', lc', st', w')) (hR : Rn s G cI cZ cB cJ cE A M.2.2.2.1 ad H locs ls lc w) (hs : scS (w.length + 3) st) (hroom : cells + (w'.length - w.length) ≤ R.cells ∧ slots + (slW w' - slW w) ≤ R.slots)
    (k : Go p l e R s m args below meth c Q G cI cZ cB cJ cE A M (w.length + 3) ad (cells + (w'.length - w.length)) (slots + (slW w' - slW w)) pc' lc' st' w') : W p l e R s m args below meth c H locs cells slots Q (F0 m pc ls (st.map (cvV ad))) := by
  obtain ⟨hx, hb, hml, htw, hown, hK, hA, hAZ, hin, hon, hZs⟩ := C
  simp only [sstep] at h
  split at h
  · next y x r =>
    split at h
    · cases h
    · next hne =>
      simp only [Option.some.injEq, Prod.mk.injEq] at h
      obtain ⟨rfl, rfl, rfl, rfl⟩ := h
      exact lv_irem hx hb (hd.d rfl) hne (k.z ad H locs ls (adX_r _ _) hR (scS_c (scV_int _ _) (scS_t (scS_t hs))))
  · cases h
theorem ss_ineg {pp : pP} {F : pF} {tr : List (String × Nat × Nat)} {xs : Nat → Int32} {L : Nat} {M : pM} (hF : ClsOK F) (hPo : PoolOK pp tr) (C : Cx p s m args meth c G cI cZ cB cJ cE A Z0 M) {pc : Nat} {lc : pL} {st : List Value} {w : pW} {pc' : Nat} {lc' : pL} {st' : List Value} {w' : pW} {ad : Nat → Nat} {ls : Array Slot} (hX : EXf xs L tr Z0 ad s)  (hd : DecAt M.2.2.1 pc (.ineg)) (h : sstep pp F xs L M.1 M.2.2.2.1 (isInit M.2.1) (.ineg) pc lc st w = some (pc', lc', st', w')) (hR : Rn s G cI cZ cB cJ cE A M.2.2.2.1 ad H locs ls lc w) (hs : scS (w.length + 3) st) (hroom : cells + (w'.length - w.length) ≤ R.cells ∧ slots + (slW w' - slW w) ≤ R.slots)
    (k : Go p l e R s m args below meth c Q G cI cZ cB cJ cE A M (w.length + 3) ad (cells + (w'.length - w.length)) (slots + (slW w' - slW w)) pc' lc' st' w') : W p l e R s m args below meth c H locs cells slots Q (F0 m pc ls (st.map (cvV ad))) := by
  obtain ⟨hx, hb, hml, htw, hown, hK, hA, hAZ, hin, hon, hZs⟩ := C
  simp only [sstep] at h
  split at h
  · next x r =>
    simp only [Option.some.injEq, Prod.mk.injEq] at h
    obtain ⟨rfl, rfl, rfl, rfl⟩ := h
    exact lv_ineg hx hb (hd.d rfl) (k.z ad H locs ls (adX_r _ _) hR (scS_c (scV_int _ _) (scS_t hs)))
  · cases h
theorem ss_i2l {pp : pP} {F : pF} {tr : List (String × Nat × Nat)} {xs : Nat → Int32} {L : Nat} {M : pM} (hF : ClsOK F) (hPo : PoolOK pp tr) (C : Cx p s m args meth c G cI cZ cB cJ cE A Z0 M) {pc : Nat} {lc : pL} {st : List Value} {w : pW} {pc' : Nat} {lc' : pL} {st' : List Value} {w' : pW} {ad : Nat → Nat} {ls : Array Slot} (hX : EXf xs L tr Z0 ad s)  (hd : DecAt M.2.2.1 pc (.i2l)) (h : sstep pp F xs L M.1 M.2.2.2.1 (isInit M.2.1) (.i2l) pc lc st w = some (pc', lc', st', w')) (hR : Rn s G cI cZ cB cJ cE A M.2.2.2.1 ad H locs ls lc w) (hs : scS (w.length + 3) st) (hroom : cells + (w'.length - w.length) ≤ R.cells ∧ slots + (slW w' - slW w) ≤ R.slots)
    (k : Go p l e R s m args below meth c Q G cI cZ cB cJ cE A M (w.length + 3) ad (cells + (w'.length - w.length)) (slots + (slW w' - slW w)) pc' lc' st' w') : W p l e R s m args below meth c H locs cells slots Q (F0 m pc ls (st.map (cvV ad))) := by
  obtain ⟨hx, hb, hml, htw, hown, hK, hA, hAZ, hin, hon, hZs⟩ := C
  simp only [sstep] at h
  split at h
  · next x r =>
    simp only [Option.some.injEq, Prod.mk.injEq] at h
    obtain ⟨rfl, rfl, rfl, rfl⟩ := h
    exact lv_i2l hx hb (hd.d rfl) rfl (k.z ad H locs ls (adX_r _ _) hR (scS_c (scV_long _ _) (scS_t hs)))
  · cases h
theorem ss_i2b {pp : pP} {F : pF} {tr : List (String × Nat × Nat)} {xs : Nat → Int32} {L : Nat} {M : pM} (hF : ClsOK F) (hPo : PoolOK pp tr) (C : Cx p s m args meth c G cI cZ cB cJ cE A Z0 M) {pc : Nat} {lc : pL} {st : List Value} {w : pW} {pc' : Nat} {lc' : pL} {st' : List Value} {w' : pW} {ad : Nat → Nat} {ls : Array Slot} (hX : EXf xs L tr Z0 ad s)  (hd : DecAt M.2.2.1 pc (.i2b)) (h : sstep pp F xs L M.1 M.2.2.2.1 (isInit M.2.1) (.i2b) pc lc st w = some (pc', lc', st', w')) (hR : Rn s G cI cZ cB cJ cE A M.2.2.2.1 ad H locs ls lc w) (hs : scS (w.length + 3) st) (hroom : cells + (w'.length - w.length) ≤ R.cells ∧ slots + (slW w' - slW w) ≤ R.slots)
    (k : Go p l e R s m args below meth c Q G cI cZ cB cJ cE A M (w.length + 3) ad (cells + (w'.length - w.length)) (slots + (slW w' - slW w)) pc' lc' st' w') : W p l e R s m args below meth c H locs cells slots Q (F0 m pc ls (st.map (cvV ad))) := by
  obtain ⟨hx, hb, hml, htw, hown, hK, hA, hAZ, hin, hon, hZs⟩ := C
  simp only [sstep] at h
  split at h
  · next x r =>
    simp only [Option.some.injEq, Prod.mk.injEq] at h
    obtain ⟨rfl, rfl, rfl, rfl⟩ := h
    exact lv_i2b hx hb (hd.d rfl) rfl (k.z ad H locs ls (adX_r _ _) hR (scS_c (scV_int _ _) (scS_t hs)))
  · cases h
theorem ss_i2c {pp : pP} {F : pF} {tr : List (String × Nat × Nat)} {xs : Nat → Int32} {L : Nat} {M : pM} (hF : ClsOK F) (hPo : PoolOK pp tr) (C : Cx p s m args meth c G cI cZ cB cJ cE A Z0 M) {pc : Nat} {lc : pL} {st : List Value} {w : pW} {pc' : Nat} {lc' : pL} {st' : List Value} {w' : pW} {ad : Nat → Nat} {ls : Array Slot} (hX : EXf xs L tr Z0 ad s)  (hd : DecAt M.2.2.1 pc (.i2c)) (h : sstep pp F xs L M.1 M.2.2.2.1 (isInit M.2.1) (.i2c) pc lc st w = some (pc', lc', st', w')) (hR : Rn s G cI cZ cB cJ cE A M.2.2.2.1 ad H locs ls lc w) (hs : scS (w.length + 3) st) (hroom : cells + (w'.length - w.length) ≤ R.cells ∧ slots + (slW w' - slW w) ≤ R.slots)
    (k : Go p l e R s m args below meth c Q G cI cZ cB cJ cE A M (w.length + 3) ad (cells + (w'.length - w.length)) (slots + (slW w' - slW w)) pc' lc' st' w') : W p l e R s m args below meth c H locs cells slots Q (F0 m pc ls (st.map (cvV ad))) := by
  obtain ⟨hx, hb, hml, htw, hown, hK, hA, hAZ, hin, hon, hZs⟩ := C
  simp only [sstep] at h
  split at h
  · next x r =>
    simp only [Option.some.injEq, Prod.mk.injEq] at h
    obtain ⟨rfl, rfl, rfl, rfl⟩ := h
    exact lv_i2c hx hb (hd.d rfl) rfl (k.z ad H locs ls (adX_r _ _) hR (scS_c (scV_int _ _) (scS_t hs)))
  · cases h
theorem ss_dup {pp : pP} {F : pF} {tr : List (String × Nat × Nat)} {xs : Nat → Int32} {L : Nat} {M : pM} (hF : ClsOK F) (hPo : PoolOK pp tr) (C : Cx p s m args meth c G cI cZ cB cJ cE A Z0 M) {pc : Nat} {lc : pL} {st : List Value} {w : pW} {pc' : Nat} {lc' : pL} {st' : List Value} {w' : pW} {ad : Nat → Nat} {ls : Array Slot} (hX : EXf xs L tr Z0 ad s)  (hd : DecAt M.2.2.1 pc (.dup)) (h : sstep pp F xs L M.1 M.2.2.2.1 (isInit M.2.1) (.dup) pc lc st w = some (pc', lc', st', w')) (hR : Rn s G cI cZ cB cJ cE A M.2.2.2.1 ad H locs ls lc w) (hs : scS (w.length + 3) st) (hroom : cells + (w'.length - w.length) ≤ R.cells ∧ slots + (slW w' - slW w) ≤ R.slots)
    (k : Go p l e R s m args below meth c Q G cI cZ cB cJ cE A M (w.length + 3) ad (cells + (w'.length - w.length)) (slots + (slW w' - slW w)) pc' lc' st' w') : W p l e R s m args below meth c H locs cells slots Q (F0 m pc ls (st.map (cvV ad))) := by
  obtain ⟨hx, hb, hml, htw, hown, hK, hA, hAZ, hin, hon, hZs⟩ := C
  simp only [sstep] at h
  split at h
  · next v r =>
    split at h
    · next hc =>
      simp only [Option.some.injEq, Prod.mk.injEq] at h
      obtain ⟨rfl, rfl, rfl, rfl⟩ := h
      exact lv_dup hx hb (hd.d rfl) (cat1_cv hc) (k.z ad H locs ls (adX_r _ _) hR (scS_c (scS_h hs) hs))
    · cases h
  · cases h
theorem ss_pop {pp : pP} {F : pF} {tr : List (String × Nat × Nat)} {xs : Nat → Int32} {L : Nat} {M : pM} (hF : ClsOK F) (hPo : PoolOK pp tr) (C : Cx p s m args meth c G cI cZ cB cJ cE A Z0 M) {pc : Nat} {lc : pL} {st : List Value} {w : pW} {pc' : Nat} {lc' : pL} {st' : List Value} {w' : pW} {ad : Nat → Nat} {ls : Array Slot} (hX : EXf xs L tr Z0 ad s)  (hd : DecAt M.2.2.1 pc (.pop)) (h : sstep pp F xs L M.1 M.2.2.2.1 (isInit M.2.1) (.pop) pc lc st w = some (pc', lc', st', w')) (hR : Rn s G cI cZ cB cJ cE A M.2.2.2.1 ad H locs ls lc w) (hs : scS (w.length + 3) st) (hroom : cells + (w'.length - w.length) ≤ R.cells ∧ slots + (slW w' - slW w) ≤ R.slots)
    (k : Go p l e R s m args below meth c Q G cI cZ cB cJ cE A M (w.length + 3) ad (cells + (w'.length - w.length)) (slots + (slW w' - slW w)) pc' lc' st' w') : W p l e R s m args below meth c H locs cells slots Q (F0 m pc ls (st.map (cvV ad))) := by
  obtain ⟨hx, hb, hml, htw, hown, hK, hA, hAZ, hin, hon, hZs⟩ := C
  simp only [sstep] at h
  split at h
  · next v r =>
    split at h
    · next hc =>
      simp only [Option.some.injEq, Prod.mk.injEq] at h
      obtain ⟨rfl, rfl, rfl, rfl⟩ := h
      exact lv_pop hx hb (hd.d rfl) (cat1_cv hc) (k.z ad H locs ls (adX_r _ _) hR (scS_t hs))
    · cases h
  · cases h
theorem ss_dup2 {pp : pP} {F : pF} {tr : List (String × Nat × Nat)} {xs : Nat → Int32} {L : Nat} {M : pM} (hF : ClsOK F) (hPo : PoolOK pp tr) (C : Cx p s m args meth c G cI cZ cB cJ cE A Z0 M) {pc : Nat} {lc : pL} {st : List Value} {w : pW} {pc' : Nat} {lc' : pL} {st' : List Value} {w' : pW} {ad : Nat → Nat} {ls : Array Slot} (hX : EXf xs L tr Z0 ad s)  (hd : DecAt M.2.2.1 pc (.dup2)) (h : sstep pp F xs L M.1 M.2.2.2.1 (isInit M.2.1) (.dup2) pc lc st w = some (pc', lc', st', w')) (hR : Rn s G cI cZ cB cJ cE A M.2.2.2.1 ad H locs ls lc w) (hs : scS (w.length + 3) st) (hroom : cells + (w'.length - w.length) ≤ R.cells ∧ slots + (slW w' - slW w) ≤ R.slots)
    (k : Go p l e R s m args below meth c Q G cI cZ cB cJ cE A M (w.length + 3) ad (cells + (w'.length - w.length)) (slots + (slW w' - slW w)) pc' lc' st' w') : W p l e R s m args below meth c H locs cells slots Q (F0 m pc ls (st.map (cvV ad))) := by
  obtain ⟨hx, hb, hml, htw, hown, hK, hA, hAZ, hin, hon, hZs⟩ := C
  simp only [sstep] at h
  split at h
  · next v u r =>
    split at h
    · next hc =>
      simp only [Bool.and_eq_true] at hc
      simp only [Option.some.injEq, Prod.mk.injEq] at h
      obtain ⟨rfl, rfl, rfl, rfl⟩ := h
      exact lv_dup2_11 hx hb (hd.d rfl) (cat1_cv hc.1) (cat1_cv hc.2) (k.z ad H locs ls (adX_r _ _) hR (scS_c (scS_h hs) (scS_c (scS_h (scS_t hs)) hs)))
    · cases h
  · cases h
theorem ss_ifCond {pp : pP} {F : pF} {tr : List (String × Nat × Nat)} {xs : Nat → Int32} {L : Nat} {M : pM} (hF : ClsOK F) (hPo : PoolOK pp tr) (C : Cx p s m args meth c G cI cZ cB cJ cE A Z0 M) {pc : Nat} {lc : pL} {st : List Value} {w : pW} {pc' : Nat} {lc' : pL} {st' : List Value} {w' : pW} {ad : Nat → Nat} {ls : Array Slot} (hX : EXf xs L tr Z0 ad s) {cc : Jvm.ClassFile.Cond} {off : Int} (hd : DecAt M.2.2.1 pc (.ifCond cc off)) (h : sstep pp F xs L M.1 M.2.2.2.1 (isInit M.2.1) (.ifCond cc off) pc lc st w = some (pc', lc', st', w')) (hR : Rn s G cI cZ cB cJ cE A M.2.2.2.1 ad H locs ls lc w) (hs : scS (w.length + 3) st) (hroom : cells + (w'.length - w.length) ≤ R.cells ∧ slots + (slW w' - slW w) ≤ R.slots)
    (k : Go p l e R s m args below meth c Q G cI cZ cB cJ cE A M (w.length + 3) ad (cells + (w'.length - w.length)) (slots + (slW w' - slW w)) pc' lc' st' w') : W p l e R s m args below meth c H locs cells slots Q (F0 m pc ls (st.map (cvV ad))) := by
  obtain ⟨hx, hb, hml, htw, hown, hK, hA, hAZ, hin, hon, hZs⟩ := C
  simp only [sstep] at h
  split at h
  · next x r t ht =>
    simp only [Option.some.injEq, Prod.mk.injEq] at h
    obtain ⟨rfl, rfl, rfl, rfl⟩ := h
    have k1 := k.z ad H locs ls (adX_r _ _) hR (scS_t hs)
    clear k
    cases cc
    · exact lv_if_eq hx hb (hd.d rfl) (jmp_eq ht) (fun hc => by rw [show icmpB .eq x 0 = true by simpa [icmpB] using hc, if_pos rfl] at k1; exact k1) (fun hc => by rw [show icmpB .eq x 0 = false by simpa [icmpB] using hc, if_neg (by decide)] at k1; exact k1)
    · exact lv_if_ne hx hb (hd.d rfl) (jmp_eq ht) (fun hc => by rw [show icmpB .ne x 0 = true by simpa [icmpB] using hc, if_pos rfl] at k1; exact k1) (fun hc => by rw [show icmpB .ne x 0 = false by simpa [icmpB] using hc, if_neg (by decide)] at k1; exact k1)
    · exact lv_if_lt hx hb (hd.d rfl) (jmp_eq ht) (fun hc => by rw [show icmpB .lt x 0 = true by simpa [icmpB] using hc, if_pos rfl] at k1; exact k1) (fun hc => by rw [show icmpB .lt x 0 = false by simpa [icmpB] using hc, if_neg (by decide)] at k1; exact k1)
    · exact lv_if_ge hx hb (hd.d rfl) (jmp_eq ht) (fun hc => by rw [show icmpB .ge x 0 = true by simpa [icmpB] using hc, if_pos rfl] at k1; exact k1) (fun hc => by rw [show icmpB .ge x 0 = false by simpa [icmpB] using hc, if_neg (by decide)] at k1; exact k1)
    · exact lv_if_gt hx hb (hd.d rfl) (jmp_eq ht) (fun hc => by rw [show icmpB .gt x 0 = true by simpa [icmpB] using hc, if_pos rfl] at k1; exact k1) (fun hc => by rw [show icmpB .gt x 0 = false by simpa [icmpB] using hc, if_neg (by decide)] at k1; exact k1)
    · exact lv_if_le hx hb (hd.d rfl) (jmp_eq ht) (fun hc => by rw [show icmpB .le x 0 = true by simpa [icmpB] using hc, if_pos rfl] at k1; exact k1) (fun hc => by rw [show icmpB .le x 0 = false by simpa [icmpB] using hc, if_neg (by decide)] at k1; exact k1)
  · cases h
theorem ss_if_icmp {pp : pP} {F : pF} {tr : List (String × Nat × Nat)} {xs : Nat → Int32} {L : Nat} {M : pM} (hF : ClsOK F) (hPo : PoolOK pp tr) (C : Cx p s m args meth c G cI cZ cB cJ cE A Z0 M) {pc : Nat} {lc : pL} {st : List Value} {w : pW} {pc' : Nat} {lc' : pL} {st' : List Value} {w' : pW} {ad : Nat → Nat} {ls : Array Slot} (hX : EXf xs L tr Z0 ad s) {cc : Jvm.ClassFile.Cond} {off : Int} (hd : DecAt M.2.2.1 pc (.if_icmp cc off)) (h : sstep pp F xs L M.1 M.2.2.2.1 (isInit M.2.1) (.if_icmp cc off) pc lc st w = some (pc', lc', st', w')) (hR : Rn s G cI cZ cB cJ cE A M.2.2.2.1 ad H locs ls lc w) (hs : scS (w.length + 3) st) (hroom : cells + (w'.length - w.length) ≤ R.cells ∧ slots + (slW w' - slW w) ≤ R.slots)
    (k : Go p l e R s m args below meth c Q G cI cZ cB cJ cE A M (w.length + 3) ad (cells + (w'.length - w.length)) (slots + (slW w' - slW w)) pc' lc' st' w') : W p l e R s m args below meth c H locs cells slots Q (F0 m pc ls (st.map (cvV ad))) := by
  obtain ⟨hx, hb, hml, htw, hown, hK, hA, hAZ, hin, hon, hZs⟩ := C
  simp only [sstep] at h
  split at h
  · next y x r t ht =>
    simp only [Option.some.injEq, Prod.mk.injEq] at h
    obtain ⟨rfl, rfl, rfl, rfl⟩ := h
    have k1 := k.z ad H locs ls (adX_r _ _) hR (scS_t (scS_t hs))
    clear k
    cases cc
    · exact lv_icmp_eq hx hb (hd.d rfl) (jmp_eq ht) (fun hc => by rw [show icmpB .eq x y = true by simpa [icmpB] using hc, if_pos rfl] at k1; exact k1) (fun hc => by rw [show icmpB .eq x y = false by simpa [icmpB] using hc, if_neg (by decide)] at k1; exact k1)
    · exact lv_icmp_ne hx hb (hd.d rfl) (jmp_eq ht) (fun hc => by rw [show icmpB .ne x y = true by simpa [icmpB] using hc, if_pos rfl] at k1; exact k1) (fun hc => by rw [show icmpB .ne x y = false by simpa [icmpB] using hc, if_neg (by decide)] at k1; exact k1)
    · exact lv_icmp_lt hx hb (hd.d rfl) (jmp_eq ht) (fun hc => by rw [show icmpB .lt x y = true by simpa [icmpB] using hc, if_pos rfl] at k1; exact k1) (fun hc => by rw [show icmpB .lt x y = false by simpa [icmpB] using hc, if_neg (by decide)] at k1; exact k1)
    · exact lv_icmp_ge hx hb (hd.d rfl) (jmp_eq ht) (fun hc => by rw [show icmpB .ge x y = true by simpa [icmpB] using hc, if_pos rfl] at k1; exact k1) (fun hc => by rw [show icmpB .ge x y = false by simpa [icmpB] using hc, if_neg (by decide)] at k1; exact k1)
    · exact lv_icmp_gt hx hb (hd.d rfl) (jmp_eq ht) (fun hc => by rw [show icmpB .gt x y = true by simpa [icmpB] using hc, if_pos rfl] at k1; exact k1) (fun hc => by rw [show icmpB .gt x y = false by simpa [icmpB] using hc, if_neg (by decide)] at k1; exact k1)
    · exact lv_icmp_le hx hb (hd.d rfl) (jmp_eq ht) (fun hc => by rw [show icmpB .le x y = true by simpa [icmpB] using hc, if_pos rfl] at k1; exact k1) (fun hc => by rw [show icmpB .le x y = false by simpa [icmpB] using hc, if_neg (by decide)] at k1; exact k1)
  · cases h
theorem ss_goto {pp : pP} {F : pF} {tr : List (String × Nat × Nat)} {xs : Nat → Int32} {L : Nat} {M : pM} (hF : ClsOK F) (hPo : PoolOK pp tr) (C : Cx p s m args meth c G cI cZ cB cJ cE A Z0 M) {pc : Nat} {lc : pL} {st : List Value} {w : pW} {pc' : Nat} {lc' : pL} {st' : List Value} {w' : pW} {ad : Nat → Nat} {ls : Array Slot} (hX : EXf xs L tr Z0 ad s) {off : Int} (hd : DecAt M.2.2.1 pc (.goto off)) (h : sstep pp F xs L M.1 M.2.2.2.1 (isInit M.2.1) (.goto off) pc lc st w = some (pc', lc', st', w')) (hR : Rn s G cI cZ cB cJ cE A M.2.2.2.1 ad H locs ls lc w) (hs : scS (w.length + 3) st) (hroom : cells + (w'.length - w.length) ≤ R.cells ∧ slots + (slW w' - slW w) ≤ R.slots)
    (k : Go p l e R s m args below meth c Q G cI cZ cB cJ cE A M (w.length + 3) ad (cells + (w'.length - w.length)) (slots + (slW w' - slW w)) pc' lc' st' w') : W p l e R s m args below meth c H locs cells slots Q (F0 m pc ls (st.map (cvV ad))) := by
  obtain ⟨hx, hb, hml, htw, hown, hK, hA, hAZ, hin, hon, hZs⟩ := C
  simp only [sstep] at h
  split at h
  · next t ht =>
    simp only [Option.some.injEq, Prod.mk.injEq] at h
    obtain ⟨rfl, rfl, rfl, rfl⟩ := h
    exact lv_goto hx hb (hd.d rfl) (jmp_eq ht) (k.z ad H locs ls (adX_r _ _) hR hs)
  · cases h
theorem ss_ifnonnull {pp : pP} {F : pF} {tr : List (String × Nat × Nat)} {xs : Nat → Int32} {L : Nat} {M : pM} (hF : ClsOK F) (hPo : PoolOK pp tr) (C : Cx p s m args meth c G cI cZ cB cJ cE A Z0 M) {pc : Nat} {lc : pL} {st : List Value} {w : pW} {pc' : Nat} {lc' : pL} {st' : List Value} {w' : pW} {ad : Nat → Nat} {ls : Array Slot} (hX : EXf xs L tr Z0 ad s) {off : Int} (hd : DecAt M.2.2.1 pc (.ifnonnull off)) (h : sstep pp F xs L M.1 M.2.2.2.1 (isInit M.2.1) (.ifnonnull off) pc lc st w = some (pc', lc', st', w')) (hR : Rn s G cI cZ cB cJ cE A M.2.2.2.1 ad H locs ls lc w) (hs : scS (w.length + 3) st) (hroom : cells + (w'.length - w.length) ≤ R.cells ∧ slots + (slW w' - slW w) ≤ R.slots)
    (k : Go p l e R s m args below meth c Q G cI cZ cB cJ cE A M (w.length + 3) ad (cells + (w'.length - w.length)) (slots + (slW w' - slW w)) pc' lc' st' w') : W p l e R s m args below meth c H locs cells slots Q (F0 m pc ls (st.map (cvV ad))) := by
  obtain ⟨hx, hb, hml, htw, hown, hK, hA, hAZ, hin, hon, hZs⟩ := C
  simp only [sstep] at h
  split at h
  · next a r t ht =>
    simp only [Option.some.injEq, Prod.mk.injEq] at h
    obtain ⟨rfl, rfl, rfl, rfl⟩ := h
    exact lv_ifnonnull hx hb (hd.d rfl) (jmp_eq ht) (k.z ad H locs ls (adX_r _ _) hR (scS_t hs))
  · simp only [Option.some.injEq, Prod.mk.injEq] at h
    obtain ⟨rfl, rfl, rfl, rfl⟩ := h
    exact lv_ifnonnullN hx hb (hd.d rfl) (k.z ad H locs ls (adX_r _ _) hR (scS_t hs))
  · cases h
theorem ss_tableswitch {pp : pP} {F : pF} {tr : List (String × Nat × Nat)} {xs : Nat → Int32} {L : Nat} {M : pM} (hF : ClsOK F) (hPo : PoolOK pp tr) (C : Cx p s m args meth c G cI cZ cB cJ cE A Z0 M) {pc : Nat} {lc : pL} {st : List Value} {w : pW} {pc' : Nat} {lc' : pL} {st' : List Value} {w' : pW} {ad : Nat → Nat} {ls : Array Slot} (hX : EXf xs L tr Z0 ad s) {df lo hi : Int} {offs : Array Int} (hd : DecAt M.2.2.1 pc (.tableswitch df lo hi offs)) (h : sstep pp F xs L M.1 M.2.2.2.1 (isInit M.2.1) (.tableswitch df lo hi offs) pc lc st w = some (pc', lc', st', w')) (hR : Rn s G cI cZ cB cJ cE A M.2.2.2.1 ad H locs ls lc w) (hs : scS (w.length + 3) st) (hroom : cells + (w'.length - w.length) ≤ R.cells ∧ slots + (slW w' - slW w) ≤ R.slots)
    (k : Go p l e R s m args below meth c Q G cI cZ cB cJ cE A M (w.length + 3) ad (cells + (w'.length - w.length)) (slots + (slW w' - slW w)) pc' lc' st' w') : W p l e R s m args below meth c H locs cells slots Q (F0 m pc ls (st.map (cvV ad))) := by
  obtain ⟨hx, hb, hml, htw, hown, hK, hA, hAZ, hin, hon, hZs⟩ := C
  simp only [sstep] at h
  obtain ⟨len, hd, -⟩ := hd
  split at h
  · next x r =>
    split at h
    · next t ht =>
      simp only [Option.some.injEq, Prod.mk.injEq] at h
      obtain ⟨rfl, rfl, rfl, rfl⟩ := h
      unfold tsw at ht
      split at ht
      · next hc => exact lv_tableOut hx hb hd hc (jmp_eq ht) (k.z ad H locs ls (adX_r _ _) hR (scS_t hs))
      · next hc =>
        split at ht
        · next o ho => exact lv_tableIn hx hb hd (fun q => hc (Or.inl q)) (fun q => hc (Or.inr q)) ho (jmp_eq ht) (k.z ad H locs ls (adX_r _ _) hR (scS_t hs))
        · cases ht
    · cases h
  · cases h
theorem ss_lookupswitch {pp : pP} {F : pF} {tr : List (String × Nat × Nat)} {xs : Nat → Int32} {L : Nat} {M : pM} (hF : ClsOK F) (hPo : PoolOK pp tr) (C : Cx p s m args meth c G cI cZ cB cJ cE A Z0 M) {pc : Nat} {lc : pL} {st : List Value} {w : pW} {pc' : Nat} {lc' : pL} {st' : List Value} {w' : pW} {ad : Nat → Nat} {ls : Array Slot} (hX : EXf xs L tr Z0 ad s) {df : Int} {ps : Array (Int × Int)} (hd : DecAt M.2.2.1 pc (.lookupswitch df ps)) (h : sstep pp F xs L M.1 M.2.2.2.1 (isInit M.2.1) (.lookupswitch df ps) pc lc st w = some (pc', lc', st', w')) (hR : Rn s G cI cZ cB cJ cE A M.2.2.2.1 ad H locs ls lc w) (hs : scS (w.length + 3) st) (hroom : cells + (w'.length - w.length) ≤ R.cells ∧ slots + (slW w' - slW w) ≤ R.slots)
    (k : Go p l e R s m args below meth c Q G cI cZ cB cJ cE A M (w.length + 3) ad (cells + (w'.length - w.length)) (slots + (slW w' - slW w)) pc' lc' st' w') : W p l e R s m args below meth c H locs cells slots Q (F0 m pc ls (st.map (cvV ad))) := by
  obtain ⟨hx, hb, hml, htw, hown, hK, hA, hAZ, hin, hon, hZs⟩ := C
  simp only [sstep] at h
  obtain ⟨len, hd, -⟩ := hd
  split at h
  · next x r =>
    split at h
    · next hc =>
      split at h
      · next t ht =>
        simp only [Option.some.injEq, Prod.mk.injEq] at h
        obtain ⟨rfl, rfl, rfl, rfl⟩ := h
        exact lv_lookup hx hb hd hc rfl (jmp_eq ht) (k.z ad H locs ls (adX_r _ _) hR (scS_t hs))
      · cases h
    · cases h
  · cases h
theorem own_eq {pp : pP} {M : pM} {own : String} (h1 : owns[M.1]? = some own) (hon : owns[M.1]? = some M.2.1.cls) : own = M.2.1.cls := Option.some.inj (h1.symm.trans hon)
theorem own_cls {i : Nat} {a C : String} {T : u_T} {N : Nat} (h : owns[i]? = some a) (hc : classes[i]? = some (C, T, N)) : C = a := by
  have hi : i < 12 := (List.getElem?_eq_some_iff.mp hc).1
  match i, hi, h, hc with
  | 0, _, h, hc => cases h; cases hc; rfl
  | 1, _, h, hc => cases h; cases hc; rfl
  | 2, _, h, hc => cases h; cases hc; rfl
  | 3, _, h, hc => cases h; cases hc; rfl
  | 4, _, h, hc => cases h; cases hc; rfl
  | 5, _, h, hc => cases h; cases hc; rfl
  | 6, _, h, hc => cases h; cases hc; rfl
  | 7, _, h, hc => cases h; cases hc; rfl
  | 8, _, h, hc => cases h; cases hc; rfl
  | 9, _, h, hc => cases h; cases hc; rfl
  | 10, _, h, hc => cases h; cases hc; rfl
  | 11, _, h, hc => cases h; cases hc; rfl
theorem get_sc {n : Nat} {w : pW} {j ci k : Nat} {fs : List Value} {v : Value} (hw : scW n w) (h : w[j]? = some (.inr (ci, fs))) (hv : fs[k]? = some v) : scV n v := hw _ (List.mem_of_getElem? h) v (List.mem_of_getElem? hv)
theorem ctL_ty (cI cZ cB cJ cE : ClassId) (t : Nat) (ht : t < 5) : ∃ ty : FieldType, (tyL cI cZ cB cJ cE)[t]? = some (ctL cI cZ cB cJ cE t, ty) := by
  match t, ht with
  | 0, _ => exact ⟨_, rfl⟩
  | 1, _ => exact ⟨_, rfl⟩
  | 2, _ => exact ⟨_, rfl⟩
  | 3, _ => exact ⟨_, rfl⟩
  | 4, _ => exact ⟨_, rfl⟩
theorem aldI_some {xs : Nat → Int32} {L : Nat} {w : pW} {a : Nat} {i : Int32} {ts : List Nat} {v : Int32} (h : aldI xs L w a i ts = some v) : (∃ (j t n : Nat) (f : Nat → Int32), a = j + 3 ∧ w[j]? = some (.inl (t, n, .inl f)) ∧ t ∈ ts ∧ vp_in i n ∧ v = f i.toNatClampNeg) ∨ (a = 0 ∧ 0 ∈ ts ∧ vp_in i L ∧ v = xs i.toNatClampNeg) := by
  unfold aldI at h
  split at h
  · next t n f hw =>
    split at h
    · next hc =>
      simp only [Bool.and_eq_true, List.contains_iff_mem] at hc
      obtain ⟨j, h1, h2⟩ := wAt_some hw
      exact Or.inl ⟨j, t, n, f, h1, h2, hc.1, inB_in hc.2, (Option.some.inj h).symm⟩
    · cases h
  · cases h
  · split at h
    · next hc =>
      simp only [Bool.and_eq_true, List.contains_iff_mem, beq_iff_eq] at hc
      exact Or.inr ⟨hc.1.1, hc.1.2, inB_in hc.2, (Option.some.inj h).symm⟩
    · cases h
theorem astI_some {w w' : pW} {a : Nat} {i x : Int32} {ts : List Nat} (h : astI w a i x ts = some w') : ∃ (j t n : Nat) (f : Nat → Int32), a = j + 3 ∧ w[j]? = some (.inl (t, n, .inl f)) ∧ t ∈ ts ∧ vp_in i n ∧ w' = w.set j (.inl (t, n, .inl (upd f i.toNatClampNeg (naI t x)))) := by
  unfold astI at h
  split at h
  · next t n f hw =>
    split at h
    · next hc =>
      simp only [Bool.and_eq_true, List.contains_iff_mem] at hc
      obtain ⟨j, h1, h2⟩ := wAt_some hw
      subst h1
      exact ⟨j, t, n, f, rfl, h2, hc.1, inB_in hc.2, (Option.some.inj h).symm⟩
    · cases h
  · cases h
/-- behind a store of a cell of the same size -/
theorem Rn.set {nL : Nat} {ad : Nat → Nat} {ls : Array Slot} {lc : pL} {w : pW} {j : Nat} {x : pE} {H1 : Heap} {locs1 : List Loc} (hR : Rn s G cI cZ cB cJ cE A nL ad H locs ls lc w) (hx : scE (w.length + 3) x) (h1 : va_P G classes ((cW ad (ctL cI cZ cB cJ cE) w).set j (ad (j + 3), cvE ad (ctL cI cZ cB cJ cE) x)) H1) (h2 : va_D A ((cW ad (ctL cI cZ cB cJ cE) w).set j (ad (j + 3), cvE ad (ctL cI cZ cB cJ cE) x))) (h3 : va_S A s.heap H1 locs1) : Rn s G cI cZ cB cJ cE A nL ad H1 locs1 ls lc (w.set j x) := by
  refine ⟨by rw [cW_set]; exact h1, by rw [cW_set]; exact h2, h3, hR.2.2.2.1, ?_, ?_⟩
  · rw [List.length_set]
    exact scW_set hR.2.2.2.2.1 hx
  · rw [List.length_set]
    exact hR.2.2.2.2.2
theorem ss_getfield {pp : pP} {F : pF} {tr : List (String × Nat × Nat)} {xs : Nat → Int32} {L : Nat} {M : pM} (hF : ClsOK F) (hPo : PoolOK pp tr) (C : Cx p s m args meth c G cI cZ cB cJ cE A Z0 M) {pc : Nat} {lc : pL} {st : List Value} {w : pW} {pc' : Nat} {lc' : pL} {st' : List Value} {w' : pW} {ad : Nat → Nat} {ls : Array Slot} (hX : EXf xs L tr Z0 ad s) {i : Nat} (hd : DecAt M.2.2.1 pc (.getfield i)) (h : sstep pp F xs L M.1 M.2.2.2.1 (isInit M.2.1) (.getfield i) pc lc st w = some (pc', lc', st', w')) (hR : Rn s G cI cZ cB cJ cE A M.2.2.2.1 ad H locs ls lc w) (hs : scS (w.length + 3) st) (hroom : cells + (w'.length - w.length) ≤ R.cells ∧ slots + (slW w' - slW w) ≤ R.slots)
    (k : Go p l e R s m args below meth c Q G cI cZ cB cJ cE A M (w.length + 3) ad (cells + (w'.length - w.length)) (slots + (slW w' - slW w)) pc' lc' st' w') : W p l e R s m args below meth c H locs cells slots Q (F0 m pc ls (st.map (cvV ad))) := by
  obtain ⟨hx, hb, hml, htw, hown, hK, hA, hAZ, hin, hon, hZs⟩ := C
  simp only [sstep] at h
  split at h
  · next a r ci kf hp =>
    split at h
    · next v hv =>
      simp only [Option.some.injEq, Prod.mk.injEq] at h
      obtain ⟨rfl, rfl, rfl, rfl⟩ := h
      unfold getF at hv
      split at hv
      · next cj fs hw =>
        split at hv
        · next hc =>
          have hc : cj = ci := by simpa using hc
          subst hc
          obtain ⟨j, rfl, hj⟩ := wAt_some hw
          obtain ⟨own, h1, Cn, T, N, hcl, hkN, hlk⟩ := hPo.1 _ _ _ _ hp
          have ho := own_eq (pp := pp) h1 hon
          subst ho
          obtain ⟨ty0, c1, c2, c3, c4, -⟩ := hF cj Cn T N hcl
          have hv' : (fs.map (cvV ad))[kf]? = some (cvV ad v) := by rw [List.getElem?_map, hv]; rfl
          have kk := k.z ad H locs ls (adX_r _ _) hR (scS_c (get_sc hR.2.2.2.2.1 hj hv) (scS_t hs))
          rcases hlk with hlk | ⟨host, hlk, hcne⟩
          · exact va_get hx hb htw c1 hown hK.1 hR.1 j (cW_at hj) hcl kf hkN (htw _ hlk) (by rw [c4 kf hkN]; exact fun _ h => h) hv' (hd.d rfl) kk
          · exact va_getN hx hb htw c1 hown hK.1 hR.1 j (cW_at hj) hcl kf hkN (va_Nw.use rfl (hK.2.1 _ hlk)) (by rw [c4 kf hkN]; exact fun _ h => h) hv' (hd.d rfl) kk
        · cases hv
      · cases hv
    · cases h
  · cases h
theorem ss_putfield {pp : pP} {F : pF} {tr : List (String × Nat × Nat)} {xs : Nat → Int32} {L : Nat} {M : pM} (hF : ClsOK F) (hPo : PoolOK pp tr) (C : Cx p s m args meth c G cI cZ cB cJ cE A Z0 M) {pc : Nat} {lc : pL} {st : List Value} {w : pW} {pc' : Nat} {lc' : pL} {st' : List Value} {w' : pW} {ad : Nat → Nat} {ls : Array Slot} (hX : EXf xs L tr Z0 ad s) {i : Nat} (hd : DecAt M.2.2.1 pc (.putfield i)) (h : sstep pp F xs L M.1 M.2.2.2.1 (isInit M.2.1) (.putfield i) pc lc st w = some (pc', lc', st', w')) (hR : Rn s G cI cZ cB cJ cE A M.2.2.2.1 ad H locs ls lc w) (hs : scS (w.length + 3) st) (hroom : cells + (w'.length - w.length) ≤ R.cells ∧ slots + (slW w' - slW w) ≤ R.slots)
    (k : Go p l e R s m args below meth c Q G cI cZ cB cJ cE A M (w.length + 3) ad (cells + (w'.length - w.length)) (slots + (slW w' - slW w)) pc' lc' st' w') : W p l e R s m args below meth c H locs cells slots Q (F0 m pc ls (st.map (cvV ad))) := by
  obtain ⟨hx, hb, hml, htw, hown, hK, hA, hAZ, hin, hon, hZs⟩ := C
  simp only [sstep] at h
  split at h
  · next v a r ci kf hp =>
    split at h
    · next w1 hv =>
      simp only [Option.some.injEq, Prod.mk.injEq] at h
      obtain ⟨rfl, rfl, rfl, rfl⟩ := h
      unfold putF at hv
      split at hv
      · next cj fs ty fin hw hty =>
        split at hv
        · next hc =>
          simp only [Bool.and_eq_true, decide_eq_true_eq, beq_iff_eq, Bool.or_eq_true, Bool.not_eq_true'] at hc
          obtain ⟨⟨⟨rfl, hok⟩, hkl⟩, hfi⟩ := hc
          obtain ⟨j, rfl, hj⟩ := wAt_some hw
          obtain ⟨own, h1, Cn, T, N, hcl, hkN, hlk⟩ := hPo.1 _ _ _ _ hp
          have ho := own_eq (pp := pp) h1 hon
          subst ho
          obtain ⟨ty0, c1, c2, c3, c4, c5, c6, c7, c8, c9⟩ := hF cj Cn T N hcl
          have h8 := (c8 kf hkN).symm.trans hty
          simp only [Option.some.injEq, Prod.mk.injEq] at h8
          obtain ⟨rfl, h8⟩ := h8
          obtain ⟨hn, hfit⟩ := okPut_ok hok ad
          have hw1 := Option.some.inj hv
          have hw1 : w1 = w.set j (.inr (cj, fs.set kf v)) := hw1.symm
          subst hw1
          have hsc : scE (w.length + 3) (.inr (cj, fs.set kf v)) := fun x hx => by
            rcases List.mem_or_eq_of_mem_set hx with h | h
            · exact hR.2.2.2.2.1 _ (List.mem_of_getElem? hj) x h
            · rw [h]; exact scS_h hs
          have kk := k.zs (by rw [List.length_set]) (slW_set hj (by simp [slE]))
          have ee : cvE ad (ctL cI cZ cB cJ cE) (.inr (cj, fs.set kf v)) = .inr (cj, (fs.map (cvV ad)).set kf (cvV ad v)) := by simp only [cvE, List.map_set]
          have fin1 : ∀ (H1 : Heap) (locs1 : List Loc), va_P G classes ((cW ad (ctL cI cZ cB cJ cE) w).set j (ad (j + 3), .inr (cj, (fs.map (cvV ad)).set kf (cvV ad v)))) H1 → va_D A ((cW ad (ctL cI cZ cB cJ cE) w).set j (ad (j + 3), .inr (cj, (fs.map (cvV ad)).set kf (cvV ad v)))) → va_S A s.heap H1 locs1 → W p l e R s m args below meth c H1 locs1 cells slots Q (F0 m (pc + 3) ls (r.map (cvV ad))) := by
            intro H1 locs1 q1 q2 q3
            refine kk ad H1 locs1 ls (adX_r _ _) (hR.set hsc (by rw [ee]; exact q1) (by rw [ee]; exact q2) q3) ?_
            rw [List.length_set]
            exact scS_t (scS_t hs)
          by_cases hff : fin = true
          · subst hff
            rcases hfi with hfi | ⟨hini, hoc⟩
            · cases hfi
            · rcases hlk with hlk | ⟨host, hlk, hcne⟩
              · have hdecl : (T kf).1 = M.2.1.cls := by
                  rw [c4 kf hkN]
                  subst hoc
                  exact own_cls hon hcl
                exact va_putF hx hb htw c1 ty0 c2 c3 hown hK.1 hR.1 hR.2.1 hR.2.2.1 j (cW_at hj) hcl kf hkN (htw _ hlk) (by rw [c4 kf hkN]; exact fun _ h => h) h8 (by rw [hin]; simpa [isInit] using hini) hdecl (c2 kf hkN) hn hfit (by rw [List.length_map]; exact hkl) (hd.d rfl) fin1
              · have hcn : Cn = M.2.1.cls := by
                  subst hoc
                  exact own_cls hon hcl
                exact absurd hcn hcne
          · have hff : fin = false := by simpa using hff
            subst hff
            rcases hlk with hlk | ⟨host, hlk, hcne⟩
            · exact va_put hx hb htw c1 ty0 c2 c3 hown hK.1 hR.1 hR.2.1 hR.2.2.1 j (cW_at hj) hcl kf hkN (htw _ hlk) (by rw [c4 kf hkN]; exact fun _ h => h) h8 (c2 kf hkN) hn hfit (by rw [List.length_map]; exact hkl) (hd.d rfl) fin1
            · exact va_putN hx hb htw c1 ty0 c2 c3 hown hK.1 hR.1 hR.2.1 hR.2.2.1 j (cW_at hj) hcl kf hkN (va_Nw.use rfl (hK.2.1 _ hlk)) (by rw [c4 kf hkN]; exact fun _ h => h) h8 (c2 kf hkN) hn hfit (by rw [List.length_map]; exact hkl) (hd.d rfl) fin1
        · cases hv
      · cases hv
    · cases h
  · cases h
theorem ss_iaload {pp : pP} {F : pF} {tr : List (String × Nat × Nat)} {xs : Nat → Int32} {L : Nat} {M : pM} (hF : ClsOK F) (hPo : PoolOK pp tr) (C : Cx p s m args meth c G cI cZ cB cJ cE A Z0 M) {pc : Nat} {lc : pL} {st : List Value} {w : pW} {pc' : Nat} {lc' : pL} {st' : List Value} {w' : pW} {ad : Nat → Nat} {ls : Array Slot} (hX : EXf xs L tr Z0 ad s)  (hd : DecAt M.2.2.1 pc (.iaload)) (h : sstep pp F xs L M.1 M.2.2.2.1 (isInit M.2.1) (.iaload) pc lc st w = some (pc', lc', st', w')) (hR : Rn s G cI cZ cB cJ cE A M.2.2.2.1 ad H locs ls lc w) (hs : scS (w.length + 3) st) (hroom : cells + (w'.length - w.length) ≤ R.cells ∧ slots + (slW w' - slW w) ≤ R.slots)
    (k : Go p l e R s m args below meth c Q G cI cZ cB cJ cE A M (w.length + 3) ad (cells + (w'.length - w.length)) (slots + (slW w' - slW w)) pc' lc' st' w') : W p l e R s m args below meth c H locs cells slots Q (F0 m pc ls (st.map (cvV ad))) := by
  obtain ⟨hx, hb, hml, htw, hown, hK, hA, hAZ, hin, hon, hZs⟩ := C
  simp only [sstep] at h
  split at h
  · next i a r =>
    split at h
    · next v hv =>
      simp only [Option.some.injEq, Prod.mk.injEq] at h
      obtain ⟨rfl, rfl, rfl, rfl⟩ := h
      have kk := k.z ad H locs ls (adX_r _ _) hR (scS_c (scV_int _ _) (scS_t (scS_t hs)))
      rcases aldI_some hv with ⟨j, t, n, f, rfl, hj, ht, hin', rfl⟩ | ⟨rfl, h0, hin', rfl⟩
      · have ht : t = 0 := by simpa using ht
        subst ht
        exact va_iald hx hb hK.1 hR.1 j 0 (cW_at hj) rfl hin' (hd.d rfl) kk
      · exact va_sld hx hb hX.2.1 (Nat.lt_of_lt_of_le hX.1 hZs) (fun q => absurd (hAZ _ q) (Nat.not_le.mpr hX.1)) hR.2.2.1 hin' (hd.d rfl) kk
    · cases h
  · cases h
theorem ss_baload {pp : pP} {F : pF} {tr : List (String × Nat × Nat)} {xs : Nat → Int32} {L : Nat} {M : pM} (hF : ClsOK F) (hPo : PoolOK pp tr) (C : Cx p s m args meth c G cI cZ cB cJ cE A Z0 M) {pc : Nat} {lc : pL} {st : List Value} {w : pW} {pc' : Nat} {lc' : pL} {st' : List Value} {w' : pW} {ad : Nat → Nat} {ls : Array Slot} (hX : EXf xs L tr Z0 ad s)  (hd : DecAt M.2.2.1 pc (.baload)) (h : sstep pp F xs L M.1 M.2.2.2.1 (isInit M.2.1) (.baload) pc lc st w = some (pc', lc', st', w')) (hR : Rn s G cI cZ cB cJ cE A M.2.2.2.1 ad H locs ls lc w) (hs : scS (w.length + 3) st) (hroom : cells + (w'.length - w.length) ≤ R.cells ∧ slots + (slW w' - slW w) ≤ R.slots)
    (k : Go p l e R s m args below meth c Q G cI cZ cB cJ cE A M (w.length + 3) ad (cells + (w'.length - w.length)) (slots + (slW w' - slW w)) pc' lc' st' w') : W p l e R s m args below meth c H locs cells slots Q (F0 m pc ls (st.map (cvV ad))) := by
  obtain ⟨hx, hb, hml, htw, hown, hK, hA, hAZ, hin, hon, hZs⟩ := C
  simp only [sstep] at h
  split at h
  · next i a r =>
    split at h
    · next v hv =>
      simp only [Option.some.injEq, Prod.mk.injEq] at h
      obtain ⟨rfl, rfl, rfl, rfl⟩ := h
      have kk := k.z ad H locs ls (adX_r _ _) hR (scS_c (scV_int _ _) (scS_t (scS_t hs)))
      rcases aldI_some hv with ⟨j, t, n, f, rfl, hj, ht, hin', rfl⟩ | ⟨rfl, h0, hin', rfl⟩
      · have ht : t = 1 ∨ t = 2 := by simpa using ht
        rcases ht with rfl | rfl
        · exact va_zald hx hb hK.1 hR.1 j 1 (cW_at hj) rfl hin' (hd.d rfl) kk
        · exact va_bald hx hb hK.1 hR.1 j 2 (cW_at hj) rfl hin' (hd.d rfl) kk
      · simp at h0
    · cases h
  · cases h
theorem ss_laload {pp : pP} {F : pF} {tr : List (String × Nat × Nat)} {xs : Nat → Int32} {L : Nat} {M : pM} (hF : ClsOK F) (hPo : PoolOK pp tr) (C : Cx p s m args meth c G cI cZ cB cJ cE A Z0 M) {pc : Nat} {lc : pL} {st : List Value} {w : pW} {pc' : Nat} {lc' : pL} {st' : List Value} {w' : pW} {ad : Nat → Nat} {ls : Array Slot} (hX : EXf xs L tr Z0 ad s)  (hd : DecAt M.2.2.1 pc (.laload)) (h : sstep pp F xs L M.1 M.2.2.2.1 (isInit M.2.1) (.laload) pc lc st w = some (pc', lc', st', w')) (hR : Rn s G cI cZ cB cJ cE A M.2.2.2.1 ad H locs ls lc w) (hs : scS (w.length + 3) st) (hroom : cells + (w'.length - w.length) ≤ R.cells ∧ slots + (slW w' - slW w) ≤ R.slots)
    (k : Go p l e R s m args below meth c Q G cI cZ cB cJ cE A M (w.length + 3) ad (cells + (w'.length - w.length)) (slots + (slW w' - slW w)) pc' lc' st' w') : W p l e R s m args below meth c H locs cells slots Q (F0 m pc ls (st.map (cvV ad))) := by
  obtain ⟨hx, hb, hml, htw, hown, hK, hA, hAZ, hin, hon, hZs⟩ := C
  simp only [sstep] at h
  split at h
  · next i a r =>
    split at h
    · next n f hw =>
      split at h
      · next hc =>
        simp only [Option.some.injEq, Prod.mk.injEq] at h
        obtain ⟨rfl, rfl, rfl, rfl⟩ := h
        obtain ⟨j, rfl, hj⟩ := wAt_some hw
        exact va_lald hx hb hK.1 hR.1 j 3 (cW_at hj) rfl (inB_in hc) (hd.d rfl) (k.z ad H locs ls (adX_r _ _) hR (scS_c (scV_long _ _) (scS_t (scS_t hs))))
      · cases h
    · cases h
  · cases h
theorem cv_rf (ad : Nat → Nat) (o : Option Nat) : va_rf (o.map ad) = cvV ad (va_rf o) := by cases o <;> rfl
theorem sc_rf {n : Nat} {o : Option Nat} (h : ∀ r, o = some r → r < n) : scV n (va_rf o) := by
  cases o with
  | none => exact scV_null n
  | some r => exact fun i hi => by cases hi; exact h r rfl
theorem ss_aaload {pp : pP} {F : pF} {tr : List (String × Nat × Nat)} {xs : Nat → Int32} {L : Nat} {M : pM} (hF : ClsOK F) (hPo : PoolOK pp tr) (C : Cx p s m args meth c G cI cZ cB cJ cE A Z0 M) {pc : Nat} {lc : pL} {st : List Value} {w : pW} {pc' : Nat} {lc' : pL} {st' : List Value} {w' : pW} {ad : Nat → Nat} {ls : Array Slot} (hX : EXf xs L tr Z0 ad s)  (hd : DecAt M.2.2.1 pc (.aaload)) (h : sstep pp F xs L M.1 M.2.2.2.1 (isInit M.2.1) (.aaload) pc lc st w = some (pc', lc', st', w')) (hR : Rn s G cI cZ cB cJ cE A M.2.2.2.1 ad H locs ls lc w) (hs : scS (w.length + 3) st) (hroom : cells + (w'.length - w.length) ≤ R.cells ∧ slots + (slW w' - slW w) ≤ R.slots)
    (k : Go p l e R s m args below meth c Q G cI cZ cB cJ cE A M (w.length + 3) ad (cells + (w'.length - w.length)) (slots + (slW w' - slW w)) pc' lc' st' w') : W p l e R s m args below meth c H locs cells slots Q (F0 m pc ls (st.map (cvV ad))) := by
  obtain ⟨hx, hb, hml, htw, hown, hK, hA, hAZ, hin, hon, hZs⟩ := C
  simp only [sstep] at h
  split at h
  · next i a r =>
    split at h
    · next n f hw =>
      split at h
      · next hc =>
        simp only [Option.some.injEq, Prod.mk.injEq] at h
        obtain ⟨rfl, rfl, rfl, rfl⟩ := h
        obtain ⟨j, rfl, hj⟩ := wAt_some hw
        refine va_aldq (C := "IceTunes$Evening") hx hb hK.1 hR.1 j 4 (cW_at hj) rfl (inB_in hc) (hd.d rfl) ?_
        rw [cv_rf]
        exact k.z ad H locs ls (adX_r _ _) hR (scS_c (sc_rf (hR.2.2.2.2.1 _ (List.mem_of_getElem? hj) _)) (scS_t (scS_t hs)))
      · cases h
    · cases h
  · cases h
theorem ss_iastore {pp : pP} {F : pF} {tr : List (String × Nat × Nat)} {xs : Nat → Int32} {L : Nat} {M : pM} (hF : ClsOK F) (hPo : PoolOK pp tr) (C : Cx p s m args meth c G cI cZ cB cJ cE A Z0 M) {pc : Nat} {lc : pL} {st : List Value} {w : pW} {pc' : Nat} {lc' : pL} {st' : List Value} {w' : pW} {ad : Nat → Nat} {ls : Array Slot} (hX : EXf xs L tr Z0 ad s)  (hd : DecAt M.2.2.1 pc (.iastore)) (h : sstep pp F xs L M.1 M.2.2.2.1 (isInit M.2.1) (.iastore) pc lc st w = some (pc', lc', st', w')) (hR : Rn s G cI cZ cB cJ cE A M.2.2.2.1 ad H locs ls lc w) (hs : scS (w.length + 3) st) (hroom : cells + (w'.length - w.length) ≤ R.cells ∧ slots + (slW w' - slW w) ≤ R.slots)
    (k : Go p l e R s m args below meth c Q G cI cZ cB cJ cE A M (w.length + 3) ad (cells + (w'.length - w.length)) (slots + (slW w' - slW w)) pc' lc' st' w') : W p l e R s m args below meth c H locs cells slots Q (F0 m pc ls (st.map (cvV ad))) := by
  obtain ⟨hx, hb, hml, htw, hown, hK, hA, hAZ, hin, hon, hZs⟩ := C
  simp only [sstep] at h
  split at h
  · next x i a r =>
    split at h
    · next w1 hv =>
      simp only [Option.some.injEq, Prod.mk.injEq] at h
      obtain ⟨rfl, rfl, rfl, rfl⟩ := h
      obtain ⟨j, t, n, f, rfl, hj, ht, hin', rfl⟩ := astI_some hv
      have kk : ∀ (H1 : Heap) (locs1 : List Loc), va_P G classes ((cW ad (ctL cI cZ cB cJ cE) w).set j (ad (j + 3), .inl (ctL cI cZ cB cJ cE t, n, .inl (upd f i.toNatClampNeg (naI t x))))) H1 → va_D A ((cW ad (ctL cI cZ cB cJ cE) w).set j (ad (j + 3), .inl (ctL cI cZ cB cJ cE t, n, .inl (upd f i.toNatClampNeg (naI t x))))) → va_S A s.heap H1 locs1 → W p l e R s m args below meth c H1 locs1 cells slots Q (F0 m (pc + 1) ls (r.map (cvV ad))) := by
        intro H1 locs1 q1 q2 q3
        refine (k.zs (w' := w.set j (.inl (t, n, .inl (upd f i.toNatClampNeg (naI t x))))) (by rw [List.length_set]) (slW_set hj rfl)) ad H1 locs1 ls (adX_r _ _) (hR.set (x := .inl (t, n, .inl (upd f i.toNatClampNeg (naI t x)))) trivial q1 q2 q3) ?_
        rw [List.length_set]
        exact scS_t (scS_t (scS_t hs))
      have ht : t = 0 := by simpa using ht
      subst ht
      exact va_iast hx hb hK.1 hR.1 hR.2.1 hR.2.2.1 j 0 (cW_at hj) rfl hin' (hd.d rfl) kk
    · cases h
  · cases h
theorem ss_bastore {pp : pP} {F : pF} {tr : List (String × Nat × Nat)} {xs : Nat → Int32} {L : Nat} {M : pM} (hF : ClsOK F) (hPo : PoolOK pp tr) (C : Cx p s m args meth c G cI cZ cB cJ cE A Z0 M) {pc : Nat} {lc : pL} {st : List Value} {w : pW} {pc' : Nat} {lc' : pL} {st' : List Value} {w' : pW} {ad : Nat → Nat} {ls : Array Slot} (hX : EXf xs L tr Z0 ad s)  (hd : DecAt M.2.2.1 pc (.bastore)) (h : sstep pp F xs L M.1 M.2.2.2.1 (isInit M.2.1) (.bastore) pc lc st w = some (pc', lc', st', w')) (hR : Rn s G cI cZ cB cJ cE A M.2.2.2.1 ad H locs ls lc w) (hs : scS (w.length + 3) st) (hroom : cells + (w'.length - w.length) ≤ R.cells ∧ slots + (slW w' - slW w) ≤ R.slots)
    (k : Go p l e R s m args below meth c Q G cI cZ cB cJ cE A M (w.length + 3) ad (cells + (w'.length - w.length)) (slots + (slW w' - slW w)) pc' lc' st' w') : W p l e R s m args below meth c H locs cells slots Q (F0 m pc ls (st.map (cvV ad))) := by
  obtain ⟨hx, hb, hml, htw, hown, hK, hA, hAZ, hin, hon, hZs⟩ := C
  simp only [sstep] at h
  split at h
  · next x i a r =>
    split at h
    · next w1 hv =>
      simp only [Option.some.injEq, Prod.mk.injEq] at h
      obtain ⟨rfl, rfl, rfl, rfl⟩ := h
      obtain ⟨j, t, n, f, rfl, hj, ht, hin', rfl⟩ := astI_some hv
      have kk : ∀ (H1 : Heap) (locs1 : List Loc), va_P G classes ((cW ad (ctL cI cZ cB cJ cE) w).set j (ad (j + 3), .inl (ctL cI cZ cB cJ cE t, n, .inl (upd f i.toNatClampNeg (naI t x))))) H1 → va_D A ((cW ad (ctL cI cZ cB cJ cE) w).set j (ad (j + 3), .inl (ctL cI cZ cB cJ cE t, n, .inl (upd f i.toNatClampNeg (naI t x))))) → va_S A s.heap H1 locs1 → W p l e R s m args below meth c H1 locs1 cells slots Q (F0 m (pc + 1) ls (r.map (cvV ad))) := by
        intro H1 locs1 q1 q2 q3
        refine (k.zs (w' := w.set j (.inl (t, n, .inl (upd f i.toNatClampNeg (naI t x))))) (by rw [List.length_set]) (slW_set hj rfl)) ad H1 locs1 ls (adX_r _ _) (hR.set (x := .inl (t, n, .inl (upd f i.toNatClampNeg (naI t x)))) trivial q1 q2 q3) ?_
        rw [List.length_set]
        exact scS_t (scS_t (scS_t hs))
      have ht : t = 1 ∨ t = 2 := by simpa using ht
      rcases ht with rfl | rfl
      · exact va_zast hx hb hK.1 hR.1 hR.2.1 hR.2.2.1 j 1 (cW_at hj) rfl hin' (hd.d rfl) kk
      · exact va_bast hx hb hK.1 hR.1 hR.2.1 hR.2.2.1 j 2 (cW_at hj) rfl hin' (hd.d rfl) kk
    · cases h
  · cases h
theorem ss_lastore {pp : pP} {F : pF} {tr : List (String × Nat × Nat)} {xs : Nat → Int32} {L : Nat} {M : pM} (hF : ClsOK F) (hPo : PoolOK pp tr) (C : Cx p s m args meth c G cI cZ cB cJ cE A Z0 M) {pc : Nat} {lc : pL} {st : List Value} {w : pW} {pc' : Nat} {lc' : pL} {st' : List Value} {w' : pW} {ad : Nat → Nat} {ls : Array Slot} (hX : EXf xs L tr Z0 ad s)  (hd : DecAt M.2.2.1 pc (.lastore)) (h : sstep pp F xs L M.1 M.2.2.2.1 (isInit M.2.1) (.lastore) pc lc st w = some (pc', lc', st', w')) (hR : Rn s G cI cZ cB cJ cE A M.2.2.2.1 ad H locs ls lc w) (hs : scS (w.length + 3) st) (hroom : cells + (w'.length - w.length) ≤ R.cells ∧ slots + (slW w' - slW w) ≤ R.slots)
    (k : Go p l e R s m args below meth c Q G cI cZ cB cJ cE A M (w.length + 3) ad (cells + (w'.length - w.length)) (slots + (slW w' - slW w)) pc' lc' st' w') : W p l e R s m args below meth c H locs cells slots Q (F0 m pc ls (st.map (cvV ad))) := by
  obtain ⟨hx, hb, hml, htw, hown, hK, hA, hAZ, hin, hon, hZs⟩ := C
  simp only [sstep] at h
  split at h
  · next x i a r =>
    split at h
    · next n f hw =>
      split at h
      · next hc =>
        simp only [Option.some.injEq, Prod.mk.injEq] at h
        obtain ⟨rfl, rfl, rfl, rfl⟩ := h
        obtain ⟨j, rfl, hj⟩ := wAt_some hw
        refine va_last hx hb hK.1 hR.1 hR.2.1 hR.2.2.1 j 3 (cW_at hj) rfl (inB_in hc) (hd.d rfl) (fun H1 locs1 q1 q2 q3 => ?_)
        have kk := k.zs (w' := w.set j (.inl (3, n, .inr (.inl (vp_updL f i.toNatClampNeg x))))) (by rw [List.length_set]) (slW_set hj rfl)
        refine kk ad H1 locs1 ls (adX_r _ _) (hR.set (x := .inl (3, n, .inr (.inl (vp_updL f i.toNatClampNeg x)))) trivial q1 q2 q3) ?_
        rw [List.length_set]
        exact scS_t (scS_t (scS_t hs))
      · cases h
    · cases h
  · cases h
theorem ss_aastore {pp : pP} {F : pF} {tr : List (String × Nat × Nat)} {xs : Nat → Int32} {L : Nat} {M : pM} (hF : ClsOK F) (hPo : PoolOK pp tr) (C : Cx p s m args meth c G cI cZ cB cJ cE A Z0 M) {pc : Nat} {lc : pL} {st : List Value} {w : pW} {pc' : Nat} {lc' : pL} {st' : List Value} {w' : pW} {ad : Nat → Nat} {ls : Array Slot} (hX : EXf xs L tr Z0 ad s)  (hd : DecAt M.2.2.1 pc (.aastore)) (h : sstep pp F xs L M.1 M.2.2.2.1 (isInit M.2.1) (.aastore) pc lc st w = some (pc', lc', st', w')) (hR : Rn s G cI cZ cB cJ cE A M.2.2.2.1 ad H locs ls lc w) (hs : scS (w.length + 3) st) (hroom : cells + (w'.length - w.length) ≤ R.cells ∧ slots + (slW w' - slW w) ≤ R.slots)
    (k : Go p l e R s m args below meth c Q G cI cZ cB cJ cE A M (w.length + 3) ad (cells + (w'.length - w.length)) (slots + (slW w' - slW w)) pc' lc' st' w') : W p l e R s m args below meth c H locs cells slots Q (F0 m pc ls (st.map (cvV ad))) := by
  obtain ⟨hx, hb, hml, htw, hown, hK, hA, hAZ, hin, hon, hZs⟩ := C
  simp only [sstep] at h
  split at h
  · next v i a r =>
    split at h
    · next n f fs hw hw2 =>
      split at h
      · next hc =>
        simp only [Option.some.injEq, Prod.mk.injEq] at h
        obtain ⟨rfl, rfl, rfl, rfl⟩ := h
        obtain ⟨j, rfl, hj⟩ := wAt_some hw
        obtain ⟨j2, rfl, hj2⟩ := wAt_some hw2
        refine va_astq (r := (RX2, TX2, 7)) hx hb hK.1 hR.1 hR.2.1 hR.2.2.1 j 4 j2 2 (cW_at hj) rfl (cW_at hj2) rfl (inB_in hc) (hd.d rfl) (fun H1 locs1 q1 q2 q3 => ?_)
        have kk := k.zs (w' := w.set j (.inl (4, n, .inr (.inr (.inr (.inr (va_up f i.toNatClampNeg (some (j2 + 3))))))))) (by rw [List.length_set]) (slW_set hj rfl)
        have ee : cvE ad (ctL cI cZ cB cJ cE) (.inl (4, n, .inr (.inr (.inr (.inr (va_up f i.toNatClampNeg (some (j2 + 3)))))))) = .inl (cE, n, .inr (.inr (.inr (.inr (va_up (fun j => (f j).map ad) i.toNatClampNeg (some (ad (j2 + 3)))))))) := by
          simp only [cvE, cvA, ctL]
          congr 7
          funext q
          by_cases hq : q = i.toNatClampNeg
          · simp [va_up, hq]
          · simp [va_up, hq]
        refine kk ad H1 locs1 ls (adX_r _ _) (hR.set (x := .inl (4, n, .inr (.inr (.inr (.inr (va_up f i.toNatClampNeg (some (j2 + 3)))))))) ?_ (by rw [ee]; exact q1) (by rw [ee]; exact q2) q3) ?_
        · intro q r' hq
          by_cases hq2 : q = i.toNatClampNeg
          · simp only [va_up, hq2, if_true, Option.some.injEq] at hq
            have := scS_h hs _ rfl
            rw [← hq]; exact this
          · simp only [va_up, hq2, if_false] at hq
            exact hR.2.2.2.2.1 _ (List.mem_of_getElem? hj) q r' hq
        · rw [List.length_set]
          exact scS_t (scS_t (scS_t hs))
      · cases h
    · cases h
  · cases h
theorem ss_arraylength {pp : pP} {F : pF} {tr : List (String × Nat × Nat)} {xs : Nat → Int32} {L : Nat} {M : pM} (hF : ClsOK F) (hPo : PoolOK pp tr) (C : Cx p s m args meth c G cI cZ cB cJ cE A Z0 M) {pc : Nat} {lc : pL} {st : List Value} {w : pW} {pc' : Nat} {lc' : pL} {st' : List Value} {w' : pW} {ad : Nat → Nat} {ls : Array Slot} (hX : EXf xs L tr Z0 ad s)  (hd : DecAt M.2.2.1 pc (.arraylength)) (h : sstep pp F xs L M.1 M.2.2.2.1 (isInit M.2.1) (.arraylength) pc lc st w = some (pc', lc', st', w')) (hR : Rn s G cI cZ cB cJ cE A M.2.2.2.1 ad H locs ls lc w) (hs : scS (w.length + 3) st) (hroom : cells + (w'.length - w.length) ≤ R.cells ∧ slots + (slW w' - slW w) ≤ R.slots)
    (k : Go p l e R s m args below meth c Q G cI cZ cB cJ cE A M (w.length + 3) ad (cells + (w'.length - w.length)) (slots + (slW w' - slW w)) pc' lc' st' w') : W p l e R s m args below meth c H locs cells slots Q (F0 m pc ls (st.map (cvV ad))) := by
  obtain ⟨hx, hb, hml, htw, hown, hK, hA, hAZ, hin, hon, hZs⟩ := C
  simp only [sstep] at h
  split at h
  · next a r =>
    split at h
    · next n hv =>
      simp only [Option.some.injEq, Prod.mk.injEq] at h
      obtain ⟨rfl, rfl, rfl, rfl⟩ := h
      have kk := k.z ad H locs ls (adX_r _ _) hR (scS_c (scV_int _ _) (scS_t hs))
      unfold alen at hv
      split at hv
      · next t n' x hw =>
        obtain ⟨j, rfl, hj⟩ := wAt_some hw
        obtain ⟨t', ty, ht⟩ : ∃ (t' : Nat) (ty : FieldType), (tyL cI cZ cB cJ cE)[t']? = some (ctL cI cZ cB cJ cE t, ty) := by
          match t with
          | 0 => exact ⟨0, _, rfl⟩
          | 1 => exact ⟨1, _, rfl⟩
          | 2 => exact ⟨2, _, rfl⟩
          | 3 => exact ⟨3, _, rfl⟩
          | _ + 4 => exact ⟨4, _, rfl⟩
        have hn := Option.some.inj hv
        subst hn
        have e1 : (cvA ad (n', x)).1 = n' := by rcases x with f | f | f | f | f <;> rfl
        exact va_alen hx hb hK.1 hR.1 j t' (cW_at hj) ht (by show Int32.ofNat (cvA ad (n', x)).1 = _; rw [e1]) (hd.d rfl) kk
      · cases hv
      · split at hv
        · next h0 =>
          have h0 : a = 0 := by simpa using h0
          subst h0
          have hn := Option.some.inj hv
          subst hn
          exact va_slen hx hb hX.2.1 (Nat.lt_of_lt_of_le hX.1 hZs) (fun q => absurd (hAZ _ q) (Nat.not_le.mpr hX.1)) hR.2.2.1 (hd.d rfl) kk
        · cases hv
    · cases h
  · cases h
/-- a new cell -/
def adN (ad : Nat → Nat) (i q : Nat) : Nat → Nat := fun j => if j = i then q else ad j
theorem adN_x (ad : Nat → Nat) (i q : Nat) : adX i ad (adN ad i q) := fun j hj => by simp only [adN]; rw [if_neg (by omega)]
theorem cW_new {ad : Nat → Nat} {ct : Nat → ClassId} {w : pW} {e : pE} {q : Nat} (hw : scW (w.length + 3) w) (he : ∀ ad1 ad2 : Nat → Nat, cvE ad1 ct e = cvE ad2 ct e) : cW (adN ad (w.length + 3) q) ct (w ++ [e]) = cW ad ct w ++ [(q, cvE ad ct e)] := by
  rw [cW_push, cW_x (adN_x ad (w.length + 3) q) hw (Nat.le_refl _), he (adN ad (w.length + 3) q) ad]
  simp only [adN, if_true]
theorem Rn.push {nL : Nat} {ad : Nat → Nat} {ls : Array Slot} {lc : pL} {w : pW} {x : pE} {q : Nat} {H1 : Heap} {locs1 : List Loc} (hR : Rn s G cI cZ cB cJ cE A nL ad H locs ls lc w) (hsc : ∀ n, scE n x) (he : ∀ ad1 ad2 : Nat → Nat, cvE ad1 (ctL cI cZ cB cJ cE) x = cvE ad2 (ctL cI cZ cB cJ cE) x) (h1 : va_P G classes (cW ad (ctL cI cZ cB cJ cE) w ++ [(q, cvE ad (ctL cI cZ cB cJ cE) x)]) H1) (h2 : va_D A (cW ad (ctL cI cZ cB cJ cE) w ++ [(q, cvE ad (ctL cI cZ cB cJ cE) x)])) (h3 : va_S A s.heap H1 locs1) : Rn s G cI cZ cB cJ cE A nL (adN ad (w.length + 3) q) H1 locs1 ls lc (w ++ [x]) := by
  have hle : w.length + 3 ≤ (w ++ [x]).length + 3 := by simp
  refine ⟨by rw [cW_new hR.2.2.2.2.1 he]; exact h1, by rw [cW_new hR.2.2.2.2.1 he]; exact h2, h3, ?_, ?_, scL_up hle hR.2.2.2.2.2⟩
  · rw [cL_x (adN_x ad _ q) hR.2.2.2.2.2]
    exact hR.2.2.2.1
  · intro y hy
    rcases List.mem_append.mp hy with h | h
    · exact scE_up hle (hR.2.2.2.2.1 y h)
    · rw [List.mem_singleton.mp h]; exact hsc _
theorem scS_new {w : pW} {x : pE} {st : List Value} (hs : scS (w.length + 3) st) : scS ((w ++ [x]).length + 3) (.ref (w.length + 3) :: st) := scS_c (fun i hi => by cases hi; simp) (scS_up (by simp) hs)
theorem cS_new {ad : Nat → Nat} {w : pW} {st : List Value} {q : Nat} (hs : scS (w.length + 3) st) : (Value.ref (w.length + 3) :: st).map (cvV (adN ad (w.length + 3) q)) = .ref q :: st.map (cvV ad) := by
  rw [List.map_cons, cS_x (adN_x ad _ q) hs]
  simp [cvV, adN]
theorem dflt_sc (n : Nat) (ty : FieldType) : scV n (dflt ty) := by cases ty <;> (intro i hi; cases hi)
theorem dflt_cv (ad : Nat → Nat) (ty : FieldType) : cvV ad (dflt ty) = dflt ty := by cases ty <;> rfl
theorem ss_new {pp : pP} {F : pF} {tr : List (String × Nat × Nat)} {xs : Nat → Int32} {L : Nat} {M : pM} (hF : ClsOK F) (hPo : PoolOK pp tr) (C : Cx p s m args meth c G cI cZ cB cJ cE A Z0 M) {pc : Nat} {lc : pL} {st : List Value} {w : pW} {pc' : Nat} {lc' : pL} {st' : List Value} {w' : pW} {ad : Nat → Nat} {ls : Array Slot} (hX : EXf xs L tr Z0 ad s) {i : Nat} (hd : DecAt M.2.2.1 pc (.new i)) (h : sstep pp F xs L M.1 M.2.2.2.1 (isInit M.2.1) (.new i) pc lc st w = some (pc', lc', st', w')) (hR : Rn s G cI cZ cB cJ cE A M.2.2.2.1 ad H locs ls lc w) (hs : scS (w.length + 3) st) (hroom : cells + (w'.length - w.length) ≤ R.cells ∧ slots + (slW w' - slW w) ≤ R.slots)
    (k : Go p l e R s m args below meth c Q G cI cZ cB cJ cE A M (w.length + 3) ad (cells + (w'.length - w.length)) (slots + (slW w' - slW w)) pc' lc' st' w') : W p l e R s m args below meth c H locs cells slots Q (F0 m pc ls (st.map (cvV ad))) := by
  obtain ⟨hx, hb, hml, htw, hown, hK, hA, hAZ, hin, hon, hZs⟩ := C
  simp only [sstep] at h
  split at h
  · next ci hp =>
    simp only [Option.some.injEq, Prod.mk.injEq] at h
    obtain ⟨rfl, rfl, rfl, rfl⟩ := h
    obtain ⟨own, h1, Cn, T, N, hcl, hlk⟩ := hPo.2.1 _ _ _ hp
    have ho := own_eq (pp := pp) h1 hon
    subst ho
    obtain ⟨ty0, c1, c2, c3, c4, c5, c6, c7, c8, c9⟩ := hF ci Cn T N hcl
    have hfs : ∀ j, j < N → defaultValue (ty0 j) = vp_V ((F.getD ci []).map (fun q => dflt q.1)) j := by
      intro j hj
      show defaultValue (ty0 j) = ((F.getD ci []).map (fun q => dflt q.1)).getD j .null
      rw [List.getD_eq_getElem?_getD (l := (F.getD ci []).map (fun q => dflt q.1)), List.getElem?_map, c8 j hj]
      exact c9 j hj
    have he : ∀ ad1 ad2 : Nat → Nat, cvE ad1 (ctL cI cZ cB cJ cE) (.inr (ci, (F.getD ci []).map (fun q => dflt q.1))) = cvE ad2 (ctL cI cZ cB cJ cE) (.inr (ci, (F.getD ci []).map (fun q => dflt q.1))) := by
      intro ad1 ad2
      simp only [cvE, List.map_map]
      congr 2
      exact List.map_congr_left (fun q _ => by simp only [Function.comp, dflt_cv])
    have ee : cvE ad (ctL cI cZ cB cJ cE) (.inr (ci, (F.getD ci []).map (fun q => dflt q.1))) = .inr (ci, (F.getD ci []).map (fun q => dflt q.1)) := by
      simp only [cvE, List.map_map]
      congr 2
      exact List.map_congr_left (fun q _ => by simp only [Function.comp, dflt_cv])
    have e1 : (w ++ [.inr (ci, (F.getD ci []).map (fun q => dflt q.1))] : pW).length - w.length = 1 := by simp
    have e2 : slW (w ++ [.inr (ci, (F.getD ci []).map (fun q => dflt q.1))]) - slW w = N := by rw [slW_push]; simp only [slE, List.length_map, c7]; omega
    rw [e1, e2] at k hroom
    refine va_new hx hb htw c1 ty0 c2 hown (htw _ hlk) (htw _ c5) (htw _ c6) hK.1 hR.1 hR.2.1 hR.2.2.1 hA hcl hfs hroom.1 hroom.2 (hd.d rfl) (fun q H1 q1 q2 q3 => ?_)
    have kk := k (adN ad (w.length + 3) q) H1 locs ls (adN_x _ _ _) (hR.push (x := .inr (ci, (F.getD ci []).map (fun q => dflt q.1))) (fun n v hv => by obtain ⟨z, -, rfl⟩ := List.mem_map.mp hv; exact dflt_sc n _) he (by rw [ee]; exact q1) (by rw [ee]; exact q2) q3) (scS_new hs)
    rw [cS_new hs] at kk
    exact kk
  · cases h
theorem bytes_ok {n k : Nat} (h : n ≤ 4000) (hk : k ≤ 8) : n * k ≤ 536870912 := Nat.le_trans (Nat.mul_le_mul h hk) (by decide)
theorem wm_ac_byte : Cond.arrayClass Jvm.ClassFile.FieldType.byte ∈ wt := wm_287
theorem wm_ac_int : Cond.arrayClass Jvm.ClassFile.FieldType.int ∈ wt := wm_288
theorem wm_ac_boolean : Cond.arrayClass Jvm.ClassFile.FieldType.boolean ∈ wt := wm_289
theorem wm_ac_long : Cond.arrayClass Jvm.ClassFile.FieldType.long ∈ wt := wm_1463
theorem ss_newarray {pp : pP} {F : pF} {tr : List (String × Nat × Nat)} {xs : Nat → Int32} {L : Nat} {M : pM} (hF : ClsOK F) (hPo : PoolOK pp tr) (C : Cx p s m args meth c G cI cZ cB cJ cE A Z0 M) {pc : Nat} {lc : pL} {st : List Value} {w : pW} {pc' : Nat} {lc' : pL} {st' : List Value} {w' : pW} {ad : Nat → Nat} {ls : Array Slot} (hX : EXf xs L tr Z0 ad s) {t : ArrayType} (hd : DecAt M.2.2.1 pc (.newarray t)) (h : sstep pp F xs L M.1 M.2.2.2.1 (isInit M.2.1) (.newarray t) pc lc st w = some (pc', lc', st', w')) (hR : Rn s G cI cZ cB cJ cE A M.2.2.2.1 ad H locs ls lc w) (hs : scS (w.length + 3) st) (hroom : cells + (w'.length - w.length) ≤ R.cells ∧ slots + (slW w' - slW w) ≤ R.slots)
    (k : Go p l e R s m args below meth c Q G cI cZ cB cJ cE A M (w.length + 3) ad (cells + (w'.length - w.length)) (slots + (slW w' - slW w)) pc' lc' st' w') : W p l e R s m args below meth c H locs cells slots Q (F0 m pc ls (st.map (cvV ad))) := by
  obtain ⟨hx, hb, hml, htw, hown, hK, hA, hAZ, hin, hon, hZs⟩ := C
  simp only [sstep] at h
  split at h
  · next n r =>
    split at h
    · next hc =>
      simp only [Bool.and_eq_true, decide_eq_true_eq] at hc
      have hpos : ¬ n < 0 := by simpa using hc.1
      split at h
      · simp only [Option.some.injEq, Prod.mk.injEq] at h
        obtain ⟨rfl, rfl, rfl, rfl⟩ := h
        have e1 : (w ++ [.inl (0, n.toNatClampNeg, .inl (fun _ => 0))] : pW).length - w.length = 1 := by simp
        have e2 : slW (w ++ [.inl (0, n.toNatClampNeg, .inl (fun _ => 0))]) - slW w = n.toNatClampNeg := by rw [slW_push]; simp only [slE]; omega
        rw [e1, e2] at k hroom
        refine new_a (atype := .int) hx hb (htw _ wm_ac_int) rfl hK 0 rfl hR.1 hR.2.1 hR.2.2.1 hA (a0 := (n.toNatClampNeg, .inl (fun _ => 0))) (fun _ => rfl) hpos rfl (bytes_ok hc.2 (by decide)) hroom.1 hroom.2 (hd.d rfl) (fun q H1 q1 q2 q3 => ?_)
        have kk := k (adN ad (w.length + 3) q) H1 locs ls (adN_x _ _ _) (hR.push (x := .inl (0, n.toNatClampNeg, .inl (fun _ => 0))) (fun _ => trivial) (fun _ _ => rfl) q1 q2 q3) (scS_new (scS_t hs))
        rw [cS_new (scS_t hs)] at kk
        exact kk
      · simp only [Option.some.injEq, Prod.mk.injEq] at h
        obtain ⟨rfl, rfl, rfl, rfl⟩ := h
        have e1 : (w ++ [.inl (1, n.toNatClampNeg, .inl (fun _ => 0))] : pW).length - w.length = 1 := by simp
        have e2 : slW (w ++ [.inl (1, n.toNatClampNeg, .inl (fun _ => 0))]) - slW w = n.toNatClampNeg := by rw [slW_push]; simp only [slE]; omega
        rw [e1, e2] at k hroom
        refine new_a (atype := .boolean) hx hb (htw _ wm_ac_boolean) rfl hK 1 rfl hR.1 hR.2.1 hR.2.2.1 hA (a0 := (n.toNatClampNeg, .inl (fun _ => 0))) (fun _ => rfl) hpos rfl (bytes_ok hc.2 (by decide)) hroom.1 hroom.2 (hd.d rfl) (fun q H1 q1 q2 q3 => ?_)
        have kk := k (adN ad (w.length + 3) q) H1 locs ls (adN_x _ _ _) (hR.push (x := .inl (1, n.toNatClampNeg, .inl (fun _ => 0))) (fun _ => trivial) (fun _ _ => rfl) q1 q2 q3) (scS_new (scS_t hs))
        rw [cS_new (scS_t hs)] at kk
        exact kk
      · simp only [Option.some.injEq, Prod.mk.injEq] at h
        obtain ⟨rfl, rfl, rfl, rfl⟩ := h
        have e1 : (w ++ [.inl (2, n.toNatClampNeg, .inl (fun _ => 0))] : pW).length - w.length = 1 := by simp
        have e2 : slW (w ++ [.inl (2, n.toNatClampNeg, .inl (fun _ => 0))]) - slW w = n.toNatClampNeg := by rw [slW_push]; simp only [slE]; omega
        rw [e1, e2] at k hroom
        refine new_a (atype := .byte) hx hb (htw _ wm_ac_byte) rfl hK 2 rfl hR.1 hR.2.1 hR.2.2.1 hA (a0 := (n.toNatClampNeg, .inl (fun _ => 0))) (fun _ => rfl) hpos rfl (bytes_ok hc.2 (by decide)) hroom.1 hroom.2 (hd.d rfl) (fun q H1 q1 q2 q3 => ?_)
        have kk := k (adN ad (w.length + 3) q) H1 locs ls (adN_x _ _ _) (hR.push (x := .inl (2, n.toNatClampNeg, .inl (fun _ => 0))) (fun _ => trivial) (fun _ _ => rfl) q1 q2 q3) (scS_new (scS_t hs))
        rw [cS_new (scS_t hs)] at kk
        exact kk
      · simp only [Option.some.injEq, Prod.mk.injEq] at h
        obtain ⟨rfl, rfl, rfl, rfl⟩ := h
        have e1 : (w ++ [.inl (3, n.toNatClampNeg, .inr (.inl (fun _ => 0)))] : pW).length - w.length = 1 := by simp
        have e2 : slW (w ++ [.inl (3, n.toNatClampNeg, .inr (.inl (fun _ => 0)))]) - slW w = n.toNatClampNeg := by rw [slW_push]; simp only [slE]; omega
        rw [e1, e2] at k hroom
        refine new_a (atype := .long) hx hb (htw _ wm_ac_long) rfl hK 3 rfl hR.1 hR.2.1 hR.2.2.1 hA (a0 := (n.toNatClampNeg, .inr (.inl (fun _ => 0)))) (fun _ => rfl) hpos rfl (bytes_ok hc.2 (by decide)) hroom.1 hroom.2 (hd.d rfl) (fun q H1 q1 q2 q3 => ?_)
        have kk := k (adN ad (w.length + 3) q) H1 locs ls (adN_x _ _ _) (hR.push (x := .inl (3, n.toNatClampNeg, .inr (.inl (fun _ => 0)))) (fun _ => trivial) (fun _ _ => rfl) q1 q2 q3) (scS_new (scS_t hs))
        rw [cS_new (scS_t hs)] at kk
        exact kk
      · cases h
    · cases h
  · cases h
theorem ss_anewarray {pp : pP} {F : pF} {tr : List (String × Nat × Nat)} {xs : Nat → Int32} {L : Nat} {M : pM} (hF : ClsOK F) (hPo : PoolOK pp tr) (C : Cx p s m args meth c G cI cZ cB cJ cE A Z0 M) {pc : Nat} {lc : pL} {st : List Value} {w : pW} {pc' : Nat} {lc' : pL} {st' : List Value} {w' : pW} {ad : Nat → Nat} {ls : Array Slot} (hX : EXf xs L tr Z0 ad s) {i : Nat} (hd : DecAt M.2.2.1 pc (.anewarray i)) (h : sstep pp F xs L M.1 M.2.2.2.1 (isInit M.2.1) (.anewarray i) pc lc st w = some (pc', lc', st', w')) (hR : Rn s G cI cZ cB cJ cE A M.2.2.2.1 ad H locs ls lc w) (hs : scS (w.length + 3) st) (hroom : cells + (w'.length - w.length) ≤ R.cells ∧ slots + (slW w' - slW w) ≤ R.slots)
    (k : Go p l e R s m args below meth c Q G cI cZ cB cJ cE A M (w.length + 3) ad (cells + (w'.length - w.length)) (slots + (slW w' - slW w)) pc' lc' st' w') : W p l e R s m args below meth c H locs cells slots Q (F0 m pc ls (st.map (cvV ad))) := by
  obtain ⟨hx, hb, hml, htw, hown, hK, hA, hAZ, hin, hon, hZs⟩ := C
  simp only [sstep] at h
  split at h
  · next n r hp =>
    split at h
    · next hc =>
      simp only [Bool.and_eq_true, decide_eq_true_eq] at hc
      have hpos : ¬ n < 0 := by simpa using hc.1
      simp only [Option.some.injEq, Prod.mk.injEq] at h
      obtain ⟨rfl, rfl, rfl, rfl⟩ := h
      obtain ⟨own, h1, Cn, T, N, hcl, hlk⟩ := hPo.2.1 _ _ _ hp
      have ho := own_eq (pp := pp) h1 hon
      subst ho
      cases hcl
      have e1 : (w ++ [.inl (4, n.toNatClampNeg, .inr (.inr (.inr (.inr (fun _ => none)))))] : pW).length - w.length = 1 := by simp
      have e2 : slW (w ++ [.inl (4, n.toNatClampNeg, .inr (.inr (.inr (.inr (fun _ => none)))))]) - slW w = n.toNatClampNeg := by rw [slW_push]; simp only [slE]; omega
      rw [e1, e2] at k hroom
      refine new_q hx hb hown (htw _ hlk) hK hR.1 hR.2.1 hR.2.2.1 hA hpos rfl (bytes_ok hc.2 (by decide)) hroom.1 hroom.2 (hd.d rfl) (fun q H1 q1 q2 q3 => ?_)
      have kk := k (adN ad (w.length + 3) q) H1 locs ls (adN_x _ _ _) (hR.push (x := .inl (4, n.toNatClampNeg, .inr (.inr (.inr (.inr (fun _ => none)))))) (fun _ _ _ h => by cases h) (fun _ _ => rfl) q1 q2 q3) (scS_new (scS_t hs))
      rw [cS_new (scS_t hs)] at kk
      exact kk
    · cases h
  · cases h
end STEP
end
section
/-! one instruction, any; then runs -/
section RUN
variable {p : Program} {l : Launch} {e : Env} {R : Room} {s : State} {m : MethodId} {args : Array Value} {below : List Frame} {meth : Method} {c : Code} {H : Heap} {locs : List Loc} {cells slots : Nat} {Q : State → Prop}
variable {G : va_G} {cI cZ cB cJ cE : ClassId} {A : Nat → Prop} {Z0 : Nat}
theorem sstep_ok {pp : pP} {F : pF} {tr : List (String × Nat × Nat)} {xs : Nat → Int32} {L : Nat} {M : pM} (hF : ClsOK F) (hPo : PoolOK pp tr) (C : Cx p s m args meth c G cI cZ cB cJ cE A Z0 M) {pc : Nat} {lc : pL} {st : List Value} {w : pW} {pc' : Nat} {lc' : pL} {st' : List Value} {w' : pW} {ad : Nat → Nat} {ls : Array Slot} (hX : EXf xs L tr Z0 ad s) {ins : Instr} (hd : DecAt M.2.2.1 pc ins) (h : sstep pp F xs L M.1 M.2.2.2.1 (isInit M.2.1) ins pc lc st w = some (pc', lc', st', w')) (hR : Rn s G cI cZ cB cJ cE A M.2.2.2.1 ad H locs ls lc w) (hs : scS (w.length + 3) st) (hroom : cells + (w'.length - w.length) ≤ R.cells ∧ slots + (slW w' - slW w) ≤ R.slots)
    (k : Go p l e R s m args below meth c Q G cI cZ cB cJ cE A M (w.length + 3) ad (cells + (w'.length - w.length)) (slots + (slW w' - slW w)) pc' lc' st' w') : W p l e R s m args below meth c H locs cells slots Q (F0 m pc ls (st.map (cvV ad))) := by
  cases ins with
  | iconst n => exact ss_iconst hF hPo C hX hd h hR hs hroom k
  | bipush n => exact ss_bipush hF hPo C hX hd h hR hs hroom k
  | sipush n => exact ss_sipush hF hPo C hX hd h hR hs hroom k
  | lconst n => exact ss_lconst hF hPo C hX hd h hR hs hroom k
  | ldc i => exact ss_ldc hF hPo C hX hd h hR hs hroom k
  | ldc_w i => exact ss_ldc_w hF hPo C hX hd h hR hs hroom k
  | ldc2_w i => exact ss_ldc2_w hF hPo C hX hd h hR hs hroom k
  | iload_n i => exact ss_iload_n hF hPo C hX hd h hR hs hroom k
  | iload i => exact ss_iload hF hPo C hX hd h hR hs hroom k
  | lload_n i => exact ss_lload_n hF hPo C hX hd h hR hs hroom k
  | aload_n i => exact ss_aload_n hF hPo C hX hd h hR hs hroom k
  | aload i => exact ss_aload hF hPo C hX hd h hR hs hroom k
  | istore_n i => exact ss_istore_n hF hPo C hX hd h hR hs hroom k
  | istore i => exact ss_istore hF hPo C hX hd h hR hs hroom k
  | astore_n i => exact ss_astore_n hF hPo C hX hd h hR hs hroom k
  | astore i => exact ss_astore hF hPo C hX hd h hR hs hroom k
  | lstore_n i => exact ss_lstore_n hF hPo C hX hd h hR hs hroom k
  | iinc i n => exact ss_iinc hF hPo C hX hd h hR hs hroom k
  | iadd => exact ss_iadd hF hPo C hX hd h hR hs hroom k
  | isub => exact ss_isub hF hPo C hX hd h hR hs hroom k
  | imul => exact ss_imul hF hPo C hX hd h hR hs hroom k
  | iand => exact ss_iand hF hPo C hX hd h hR hs hroom k
  | ior => exact ss_ior hF hPo C hX hd h hR hs hroom k
  | ixor => exact ss_ixor hF hPo C hX hd h hR hs hroom k
  | ishl => exact ss_ishl hF hPo C hX hd h hR hs hroom k
  | ishr => exact ss_ishr hF hPo C hX hd h hR hs hroom k
  | iushr => exact ss_iushr hF hPo C hX hd h hR hs hroom k
  | lor => exact ss_lor hF hPo C hX hd h hR hs hroom k
  | lshl => exact ss_lshl hF hPo C hX hd h hR hs hroom k
  | lcmp => exact ss_lcmp hF hPo C hX hd h hR hs hroom k
  | idiv => exact ss_idiv hF hPo C hX hd h hR hs hroom k
  | irem => exact ss_irem hF hPo C hX hd h hR hs hroom k
  | ineg => exact ss_ineg hF hPo C hX hd h hR hs hroom k
  | i2l => exact ss_i2l hF hPo C hX hd h hR hs hroom k
  | i2b => exact ss_i2b hF hPo C hX hd h hR hs hroom k
  | i2c => exact ss_i2c hF hPo C hX hd h hR hs hroom k
  | dup => exact ss_dup hF hPo C hX hd h hR hs hroom k
  | pop => exact ss_pop hF hPo C hX hd h hR hs hroom k
  | dup2 => exact ss_dup2 hF hPo C hX hd h hR hs hroom k
  | ifCond cc off => exact ss_ifCond hF hPo C hX hd h hR hs hroom k
  | if_icmp cc off => exact ss_if_icmp hF hPo C hX hd h hR hs hroom k
  | goto off => exact ss_goto hF hPo C hX hd h hR hs hroom k
  | ifnonnull off => exact ss_ifnonnull hF hPo C hX hd h hR hs hroom k
  | tableswitch df lo hi offs => exact ss_tableswitch hF hPo C hX hd h hR hs hroom k
  | lookupswitch df ps => exact ss_lookupswitch hF hPo C hX hd h hR hs hroom k
  | getfield i => exact ss_getfield hF hPo C hX hd h hR hs hroom k
  | putfield i => exact ss_putfield hF hPo C hX hd h hR hs hroom k
  | iaload => exact ss_iaload hF hPo C hX hd h hR hs hroom k
  | baload => exact ss_baload hF hPo C hX hd h hR hs hroom k
  | laload => exact ss_laload hF hPo C hX hd h hR hs hroom k
  | aaload => exact ss_aaload hF hPo C hX hd h hR hs hroom k
  | iastore => exact ss_iastore hF hPo C hX hd h hR hs hroom k
  | bastore => exact ss_bastore hF hPo C hX hd h hR hs hroom k
  | lastore => exact ss_lastore hF hPo C hX hd h hR hs hroom k
  | aastore => exact ss_aastore hF hPo C hX hd h hR hs hroom k
  | arraylength => exact ss_arraylength hF hPo C hX hd h hR hs hroom k
  | new i => exact ss_new hF hPo C hX hd h hR hs hroom k
  | newarray t => exact ss_newarray hF hPo C hX hd h hR hs hroom k
  | anewarray i => exact ss_anewarray hF hPo C hX hd h hR hs hroom k
  | _ => exact absurd h (by simp [sstep])
theorem lArgs_cv (ad : Nat → Nat) : ∀ (as : List Value) (i : Nat), lv_args i (as.map (cvV ad)) = cvL ad (lArgs i as)
  | [], _ => rfl
  | v :: r, i => by
    simp only [List.map_cons, lv_args, lArgs, cvL, cat_cv]
    rw [lArgs_cv ad r]
    rfl
theorem lg_len : ∀ (as : List Value), (lg_sl as).length = cats as
  | [] => rfl
  | v :: r => by
    have ih := lg_len r
    simp only [lg_sl, cats] at ih
    simp only [lg_sl, cats, List.flatMap_cons, List.length_append, List.map_cons, List.sum_cons, ih]
    congr 1
    rcases lv_cat v with h | h <;> simp [h]
theorem lArgs_sc {n : Nat} : ∀ {as : List Value} {i : Nat}, scS n as → scL n (lArgs i as)
  | [], _, _ => fun _ h => by cases h
  | v :: r, i, h => fun q hq => by
    rcases List.mem_cons.mp hq with rfl | hq
    · exact scS_h h
    · exact lArgs_sc (scS_t h) q hq
def szOK (w w' : pW) : Prop := w.length ≤ w'.length ∧ slW w ≤ slW w'
theorem szOK.r (w : pW) : szOK w w := ⟨Nat.le_refl _, Nat.le_refl _⟩
theorem szOK.t {a b c : pW} (h : szOK a b) (k : szOK b c) : szOK a c := ⟨Nat.le_trans h.1 k.1, Nat.le_trans h.2 k.2⟩
theorem szOK.push (w : pW) (x : pE) : szOK w (w ++ [x]) := ⟨by simp, by rw [slW_push]; omega⟩
theorem szOK.set {w : pW} {i : Nat} {x y : pE} (h : w[i]? = some y) (he : slE x = slE y) : szOK w (w.set i x) := ⟨by simp, Nat.le_of_eq (slW_set h he).symm⟩
theorem putF_sz {F : pF} {ini : Bool} {own : Nat} {w w' : pW} {a ci k : Nat} {v : Value} (h : putF F ini own w a ci k v = some w') : szOK w w' := by
  unfold putF at h
  split at h
  · next cj fs ty fin hw hty =>
    split at h
    · obtain ⟨j, rfl, hj⟩ := wAt_some hw
      have := Option.some.inj h
      rw [← this]
      exact szOK.set hj (by simp [slE])
    · cases h
  · cases h
theorem astI_sz {w w' : pW} {a : Nat} {i x : Int32} {ts : List Nat} (h : astI w a i x ts = some w') : szOK w w' := by
  obtain ⟨j, t, n, f, rfl, hj, -, -, rfl⟩ := astI_some h
  exact szOK.set hj rfl
theorem acpy_sz {w w' : pW} {a0 a : Nat} {sp dp n : Int32} (h : acpy w a0 sp a dp n = some w') : szOK w w' := by
  unfold acpy at h
  split at h
  · next n0 f n1 g h0 h1 =>
    split at h
    · obtain ⟨j, rfl, hj⟩ := wAt_some h1
      have := Option.some.inj h
      rw [← this]
      exact szOK.set hj rfl
    · cases h
  · cases h
set_option maxHeartbeats 4000000 in
theorem sstep_sz {pp : pP} {F : pF} {xs : Nat → Int32} {L own nL : Nat} {ini : Bool} {ins : Instr} {pc : Nat} {lc : pL} {st : List Value} {w : pW} {pc' : Nat} {lc' : pL} {st' : List Value} {w' : pW} (h : sstep pp F xs L own nL ini ins pc lc st w = some (pc', lc', st', w')) : szOK w w' := by
  unfold sstep at h
  split at h
  all_goals (repeat' split at h)
  all_goals first
    | (cases h; done)
    | (simp only [Option.some.injEq, Prod.mk.injEq] at h; obtain ⟨-, -, -, rfl⟩ := h; exact szOK.r _)
    | (simp only [Option.some.injEq, Prod.mk.injEq] at h; obtain ⟨-, -, -, rfl⟩ := h; exact szOK.push _ _)
    | (next hv => simp only [Option.some.injEq, Prod.mk.injEq] at h; obtain ⟨-, -, -, rfl⟩ := h; exact putF_sz hv)
    | (next hv => simp only [Option.some.injEq, Prod.mk.injEq] at h; obtain ⟨-, -, -, rfl⟩ := h; exact astI_sz hv)
    | (next hw _ => simp only [Option.some.injEq, Prod.mk.injEq] at h; obtain ⟨-, -, -, rfl⟩ := h; obtain ⟨j, rfl, hj⟩ := wAt_some hw; exact szOK.set hj rfl)
    | (next hw _ _ => simp only [Option.some.injEq, Prod.mk.injEq] at h; obtain ⟨-, -, -, rfl⟩ := h; obtain ⟨j, rfl, hj⟩ := wAt_some hw; exact szOK.set hj rfl)
end RUN
end
section
/-! THE MACHINE DOES WHAT THE PURE ONE DOES: runs -/
def MOK (M : pM) (na : Nat) : Prop := (∀ pc ins, instrAt M pc = some ins → DecAt M.2.2.1 pc ins) ∧ Cond.code M.2.1 M.2.2.1 M.2.2.2.1 M.2.2.2.2.1 ∈ wt ∧ plainName M.2.1.cls = true ∧ owns[M.1]? = some M.2.1.cls ∧ (M.2.1.cls ≠ "java/lang/invoke/MethodHandle" ∧ M.2.1.cls ≠ "java/lang/invoke/VarHandle" ∧ (parseMethodDescriptor M.2.1.desc).map (fun d => d.parameters.length) = some na) ∧ Cond.initialized M.2.1.cls ∈ wt ∧ M.2.2.2.1 ≤ 40
def LnkOK (own : String) (i : Nat) (y : MethodName) : Prop := Cond.methodLink own i y ∈ wt ∨ ∃ host : String, Cond.methodLinkNest own i y host ∈ nw
def CallsOK (pp : pP) (Gm : pG) : Prop := (∀ (j : Nat) (M : pM) (na : Nat), Gm[j]? = some (M, na) → MOK M na) ∧
  (∀ (o i j : Nat) (M : pM) (na : Nat), pp.2.2.2 o i = some (0, j) → Gm[j]? = some (M, na) → ∃ own, owns[o]? = some own ∧ LnkOK own i M.2.1 ∧ Cond.instanceMethod M.2.1 ∈ wt ∧ Cond.selects M.2.1.cls M.2.1 M.2.1 ∈ wt ∧ M.1 < 12) ∧
  (∀ (o i j : Nat) (M : pM) (na : Nat), pp.2.2.2 o i = some (6, j) → Gm[j]? = some (M, na) → ∃ own, owns[o]? = some own ∧ LnkOK own i M.2.1 ∧ Cond.static M.2.1 ∈ wt) ∧
  (∀ (o i j : Nat) (M : pM) (na : Nat), pp.2.2.2 o i = some (7, j) → Gm[j]? = some (M, na) → ∃ own, owns[o]? = some own ∧ LnkOK own i M.2.1 ∧ Cond.instanceMethod M.2.1 ∈ wt ∧ M.2.2.2.2.1 = none) ∧
  (∀ (o i j : Nat), pp.2.2.2 o i = some (2, j) → ∃ own, owns[o]? = some own ∧ Cond.methodLink own i Lib.objectInit ∈ wt ∧ Cond.instanceMethod Lib.objectInit ∈ wt ∧ Cond.code Lib.objectInit ⟨#[0xb1]⟩ 1 none ∈ wt) ∧
  (∀ (o i j : Nat), pp.2.2.2 o i = some (1, j) → ∃ own, owns[o]? = some own ∧ Cond.methodLink own i arraycopyName ∈ wt ∧ Cond.native arraycopyName ∈ wt ∧ Cond.static arraycopyName ∈ wt ∧ Cond.initialized "java/lang/System" ∈ wt) ∧
  (∀ (o i j : Nat), pp.2.2.2 o i = some (8, j) → ∃ own, owns[o]? = some own ∧ Cond.methodLink own i Lib.Math.max.name ∈ wt ∧ Cond.static Lib.Math.max.name ∈ wt ∧ Cond.initialized "java/lang/Math" ∈ wt ∧ Cond.code Lib.Math.max.name Lib.Math.max.code 2 (some .int) ∈ wt) ∧
  (∀ (o i j : Nat), pp.2.2.2 o i = some (9, j) → ∃ own, owns[o]? = some own ∧ Cond.methodLink own i Lib.Math.min.name ∈ wt ∧ Cond.static Lib.Math.min.name ∈ wt ∧ Cond.initialized "java/lang/Math" ∈ wt ∧ Cond.code Lib.Math.min.name Lib.Math.min.code 2 (some .int) ∈ wt)
/-- facts of the texts stay -/
def SXok (Z0 : Nat) (SX : pX) : Prop := ∀ (ad ad' : Nat → Nat) (s U : State), adX 3 ad ad' → (s.WarmedH U.vm ∨ s.vm = U.vm) → (∀ q, q < Z0 → U.heap[q]? = s.heap[q]?) → SX ad s → SX ad' U
theorem EXf.mv {xs : Nat → Int32} {L : Nat} {tr : List (String × Nat × Nat)} {Z0 : Nat} {ad ad' : Nat → Nat} {s U : State} (h : EXf xs L tr Z0 ad s) (ha : adX 3 ad ad') (hW : s.WarmedH U.vm ∨ s.vm = U.vm) (hh : ∀ q, q < Z0 → U.heap[q]? = s.heap[q]?) : EXf xs L tr Z0 ad' U := by
  obtain ⟨h1, h2, h3⟩ := h
  have e0 : ad' 0 = ad 0 := ha 0 (by decide)
  have hal : s.vm.Alike U.vm := by
    rcases hW with h | h
    · exact h.alike
    · rw [h]; exact Vm.Alike.refl _
  refine ⟨by rw [e0]; exact h1, by rw [e0]; exact (h2.moved hal).kept (hh _ h1), fun own i a ht => ?_⟩
  obtain ⟨g1, txt, g2⟩ := h3 own i a ht
  refine ⟨g1, txt, ?_⟩
  rw [ha a g1]
  rcases hW with h | h
  · exact g2.warm h
  · exact vk_R.same h.symm g2
def PreP (SX : pX) (xs : Nat → Int32) (L : Nat) (tr : List (String × Nat × Nat)) (Z0 : Nat) (G : va_G) (cI cZ cB cJ cE : ClassId) (ad : Nat → Nat) (w : pW) (sz : Nat) (U : State) : Prop :=
  U.heap.size = sz ∧ va_P G classes (cW ad (ctL cI cZ cB cJ cE) w) U.heap ∧ kx G cI cZ cB cJ cE U ∧ va_D (fun q => Z0 ≤ q) (cW ad (ctL cI cZ cB cJ cE) w) ∧ EXf xs L tr Z0 ad U ∧ SX ad U ∧ Z0 ≤ sz
theorem PreP.blind {SX : pX} {xs : Nat → Int32} {L : Nat} {tr : List (String × Nat × Nat)} {Z0 : Nat} (hSX : SXok Z0 SX) {G : va_G} {cI cZ cB cJ cE : ClassId} {ad : Nat → Nat} {w : pW} {sz : Nat} {av : List Value} : FrameBlind (va_Pc av (PreP SX xs L tr Z0 G cI cZ cB cJ cE ad w sz)) := fun a U g mk q =>
  ⟨q.1, q.2.1, q.2.2.1, ⟨va_K.moved (u := U) (U := U.calling g mk a) (Vm.Alike.refl U.vm) q.2.2.2.1.1, nx_same (s := U) (U := U.calling g mk a) rfl q.2.2.2.1.2.1, va_AO.moved (u := U) (U := U.calling g mk a) (Vm.Alike.refl U.vm) q.2.2.2.1.2.2⟩, q.2.2.2.2.1, EXf.mv (U := U.calling g mk a) q.2.2.2.2.2.1 (adX_r _ _) (Or.inr rfl) (fun _ _ => rfl), hSX ad ad U (U.calling g mk a) (adX_r _ _) (Or.inr rfl) (fun _ _ => rfl) q.2.2.2.2.2.2.1, q.2.2.2.2.2.2.2⟩
def QP (G : va_G) (cI cZ cB cJ cE : ClassId) (ad : Nat → Nat) (w : pW) (sz : Nat) (v : Option Value) (w' : pW) : Array Value → State → Outcome → State → Prop := fun _ st oc t =>
  (∃ ad' : Nat → Nat, adX (w.length + 3) ad ad' ∧ oc = .returned (v.map (cvV ad')) ∧ va_P G classes (cW ad' (ctL cI cZ cB cJ cE) w') t.heap ∧ va_D (va_A (cW ad (ctL cI cZ cB cJ cE) w) sz) (cW ad' (ctL cI cZ cB cJ cE) w') ∧ scW (w'.length + 3) w' ∧ ∀ x, v = some x → scV (w'.length + 3) x) ∧ va_F (va_A (cW ad (ctL cI cZ cB cJ cE) w) sz) st t
section SIM
variable {p : Program} {l : Launch} {e : Env} {R : Room} {s : State} {m : MethodId} {args : Array Value} {below : List Frame} {meth : Method} {c : Code} {H : Heap} {locs : List Loc} {cells slots : Nat} {Q : State → Prop}
variable {G : va_G} {cI cZ cB cJ cE : ClassId} {A : Nat → Prop} {Z0 : Nat}
/-- a call, whatever it answers -/
theorem va_callX {pc : Nat} {ls : Array Slot} {rest st0 : List Value} {A0 A1 : Nat → Prop} {H0 : Heap} {mc ms : Nat} {free : Addr → Prop} {Qa : State → Outcome → State → Prop} (hr : va_Run p l e R s m args below meth c H locs cells slots mc ms (F0 m pc ls st0) rest Qa free) (hS : va_S A0 H0 H locs) (hA : ∀ q, q < H.size → A1 q → A0 q) (hf : ∀ q, free q → A0 q) (hF : ∀ st oc t, Qa st oc t → va_F A1 st t)
    (kk : ∀ (v : Option Value) (st t : State) (H1 : Heap) (locs1 : List Loc), t.heap = H1 → Qa st (.returned v) t → H.size ≤ H1.size → (∀ q : Nat, q < H.size → ¬ A1 q → H1[q]? = H[q]?) → va_S A0 H0 H1 locs1 → W p l e R s m args below meth c H1 locs1 (cells + mc) (slots + ms) Q (F0 m (pc + 3) ls (v.toList ++ rest))) : W p l e R s m args below meth c H locs cells slots Q (F0 m pc ls st0) := by
  intro T hT X
  obtain ⟨v, st₀, t, T', L, h0, X', hL, e1, e2, hq, st⟩ := hr T hT X
  obtain ⟨hz, hk⟩ := hF _ _ _ hq
  rw [h0] at hz hk
  obtain ⟨t2, a1, b1⟩ := kk v st₀ t T'.heap (locs ++ L) e1.symm hq (by rw [e1]; exact hz) (fun q h1 h2 => by rw [e1]; exact hk q h1 h2)
    ⟨Nat.le_trans hS.1 (by rw [e1]; exact hz), fun q h1 h2 => by rw [e1, hk q (Nat.lt_of_lt_of_le h1 hS.1) (fun z => h2 (hA q (Nat.lt_of_lt_of_le h1 hS.1) z))]; exact hS.2.1 q h1 h2, fun q hq => by
      rcases List.mem_append.mp hq with h | h
      · exact hS.2.2 q h
      · exact hf _ (hL q h)⟩ T' rfl X'
  exact ⟨t2, st t2 a1, b1⟩
theorem astep_sz {pp : pP} {F : pF} {Gm : pG} {tx : pT} {xs : Nat → Int32} {L : Nat} {M : pM} {d : Nat} {ins : Instr} {pc : Nat} {lc : pL} {st : List Value} {w : pW} {pc' : Nat} {lc' : pL} {st' : List Value} {w' : pW} (h : astep pp F Gm tx xs L M d ins pc lc st w = some (.inr (.inl (pc', lc', st', w')))) : szOK w w' := by
  have key : (sstep pp F xs L M.1 M.2.2.2.1 (isInit M.2.1) ins pc lc st w).map (fun c => (Sum.inr (Sum.inl c) : pA)) = some (.inr (.inl (pc', lc', st', w'))) → szOK w w' := by
    intro h
    cases hs : sstep pp F xs L M.1 M.2.2.2.1 (isInit M.2.1) ins pc lc st w with
    | none => rw [hs] at h; cases h
    | some c1 =>
      rw [hs] at h
      simp only [Option.map_some, Option.some.injEq, Sum.inr.injEq, Sum.inl.injEq] at h
      subst h
      exact sstep_sz hs
  have kr : ∀ x : Option (Option Value), x.map (fun v => (Sum.inl v : pA)) = some (.inr (.inl (pc', lc', st', w'))) → szOK w w' := by
    intro x h
    cases x <;> cases h
  unfold astep at h
  split at h
  · exact kr _ h
  · exact kr _ h
  · exact kr _ h
  · exact kr _ h
  · unfold acallV at h
    repeat' split at h
    all_goals first
      | (cases h; done)
      | (simp only [Option.some.injEq, Sum.inr.injEq, Sum.inl.injEq, Prod.mk.injEq] at h; obtain ⟨-, -, -, rfl⟩ := h; exact szOK.r _)
  · unfold acallS at h
    repeat' split at h
    all_goals first
      | (cases h; done)
      | (simp only [Option.some.injEq, Sum.inr.injEq, Sum.inl.injEq, Prod.mk.injEq] at h; obtain ⟨-, -, -, rfl⟩ := h; exact szOK.r _)
      | (next hv => simp only [Option.some.injEq, Sum.inr.injEq, Sum.inl.injEq, Prod.mk.injEq] at h; obtain ⟨-, -, -, rfl⟩ := h; exact acpy_sz hv)
  · unfold acallI at h
    repeat' split at h
    all_goals first
      | (cases h; done)
      | (simp only [Option.some.injEq, Sum.inr.injEq, Sum.inl.injEq, Prod.mk.injEq] at h; obtain ⟨-, -, -, rfl⟩ := h; exact szOK.r _)
  · exact key h
theorem run_sz {pp : pP} {F : pF} {Gm : pG} {tx : pT} {xs : Nat → Int32} {L : Nat} : ∀ (n d : Nat) (M : pM) (pc : Nat) (lc : pL) (st : List Value) (w : pW) (v : Option Value) (w' : pW), run pp F Gm tx xs L n d M pc lc st w = some (v, w') → szOK w w' := by
  intro n
  induction n with
  | zero => intro d M pc lc st w v w' h; cases h
  | succ n ih =>
    intro d M pc lc st w v w' h
    simp only [run] at h
    split at h
    · cases h
    · split at h
      · simp only [Option.some.injEq, Prod.mk.injEq] at h
        rw [← h.2]
        exact szOK.r _
      · next hA => exact (astep_sz hA).t (ih _ _ _ _ _ _ _ _ h)
      · split at h
        · cases h
        · split at h
          · next hc => exact (ih _ _ _ _ _ _ _ _ hc).t (ih _ _ _ _ _ _ _ _ h)
          · cases h
      · cases h
/-- what a run of n steps gives the machine -/
def Sim (l : Launch) (pp : pP) (F : pF) (Gm : pG) (tx : pT) (xs : Nat → Int32) (L : Nat) (SX : pX) (tr : List (String × Nat × Nat)) (Z0 : Nat) (G : va_G) (cI cZ cB cJ cE : ClassId) (n : Nat) : Prop :=
  ∀ (d : Nat) (M : pM) (pc : Nat) (lc : pL) (st : List Value) (w : pW) (v : Option Value) (w' : pW), (∀ pc ins, instrAt M pc = some ins → DecAt M.2.2.1 pc ins) → run pp F Gm tx xs L n d M pc lc st w = some (v, w') →
  ∀ (p : Program) (e : Env) (R : Room) (s : State) (m : MethodId) (args : Array Value) (below : List Frame) (meth : Method) (c : Code) (H : Heap) (locs : List Loc) (cells slots : Nat) (Q : State → Prop) (A : Nat → Prop) (ls : Array Slot) (ad : Nat → Nat),
    Cx p s m args meth c G cI cZ cB cJ cE A Z0 M → EXf xs L tr Z0 ad s → SX ad s → d ≤ R.frames ∧ 60 * d ≤ R.locals → cells + (w'.length - w.length) ≤ R.cells ∧ slots + (slW w' - slW w) ≤ R.slots → Rn s G cI cZ cB cJ cE A M.2.2.2.1 ad H locs ls lc w → scS (w.length + 3) st →
    (∀ (ad' : Nat → Nat) (H1 : Heap) (locs1 : List Loc) (pc1 : Nat) (ls1 : Array Slot) (ins : Instr) (st1 : List Value), adX (w.length + 3) ad ad' → DecAt M.2.2.1 pc1 ins → aret M ins st1 = some v → va_P G classes (cW ad' (ctL cI cZ cB cJ cE) w') H1 → va_D A (cW ad' (ctL cI cZ cB cJ cE) w') → va_S A s.heap H1 locs1 → scW (w'.length + 3) w' → scS (w'.length + 3) st1 →
      W p l e R s m args below meth c H1 locs1 (cells + (w'.length - w.length)) (slots + (slW w' - slW w)) Q (F0 m pc1 ls1 (st1.map (cvV ad')))) →
    W p l e R s m args below meth c H locs cells slots Q (F0 m pc ls (st.map (cvV ad)))
theorem aret_ins {M : pM} {ins : Instr} {st : List Value} {v : Option Value} (h : aret M ins st = some v) : (ins = .ireturn ∧ ∃ (x : Int32) (ty : FieldType), st = [.int x] ∧ v = some (.int x) ∧ M.2.2.2.2.1 = some ty ∧ narrow ty (.int x) = .int x) ∨ (ins = .lreturn ∧ ∃ x : Int64, st = [.long x] ∧ v = some (.long x) ∧ M.2.2.2.2.1 = some .long) ∨ (ins = .areturn ∧ ∃ (x : Nat) (C : String), st = [.ref x] ∧ v = some (.ref x) ∧ M.2.2.2.2.1 = some (.object C)) ∨ (ins = .return_ ∧ st = [] ∧ v = none ∧ M.2.2.2.2.1 = none) := by
  unfold aret at h
  split at h
  · next x hm => exact Or.inl ⟨rfl, x, .int, rfl, (Option.some.inj h).symm, hm, rfl⟩
  · next x hm =>
    split at h
    · next hx =>
      refine Or.inl ⟨rfl, x, .boolean, rfl, (Option.some.inj h).symm, hm, ?_⟩
      rcases hx with rfl | rfl <;> decide
    · cases h
  · next x hm => exact Or.inr (Or.inl ⟨rfl, x, rfl, (Option.some.inj h).symm, hm⟩)
  · next x C hm => exact Or.inr (Or.inr (Or.inl ⟨rfl, x, C, rfl, (Option.some.inj h).symm, hm⟩))
  · next hm => exact Or.inr (Or.inr (Or.inr ⟨rfl, rfl, (Option.some.inj h).symm, hm⟩))
  · cases h
theorem va_A.z {ad : Nat → Nat} {ct : Nat → ClassId} {w : pW} {sz Z0 : Nat} (hD : va_D (fun q => Z0 ≤ q) (cW ad ct w)) (hz : Z0 ≤ sz) : ∀ q, va_A (cW ad ct w) sz q → Z0 ≤ q := by
  intro q h
  rcases h with ⟨k, e, h⟩ | h
  · exact hD.2 k (q, e) h
  · exact Nat.le_trans hz h
/-- a run is a contract -/
theorem met_of {l : Launch} {pp : pP} {F : pF} {Gm : pG} {tx : pT} {xs : Nat → Int32} {L : Nat} {SX : pX} {tr : List (String × Nat × Nat)} {Z0 : Nat} {G : va_G} {cI cZ cB cJ cE : ClassId} {n : Nat} (hS : Sim l pp F Gm tx xs L SX tr Z0 G cI cZ cB cJ cE n) {d : Nat} {M : pM} {na : Nat} {as : List Value} {w : pW} {v : Option Value} {w' : pW} (hM : MOK M na) (hr : run pp F Gm tx xs L n d M 0 (lArgs 0 as) [] w = some (v, w')) (hc : cats as ≤ M.2.2.2.1) (hsw : scW (w.length + 3) w) (hsa : scS (w.length + 3) as) (ad : Nat → Nat) (sz : Nat) :
    Met l M.2.1 (.code M.2.1 M.2.2.1 M.2.2.2.1 M.2.2.2.2.1 :: wt) { frames := d, cells := w'.length - w.length, slots := slW w' - slW w, locals := 60 * d } (va_Pc (as.map (cvV ad)) (PreP SX xs L tr Z0 G cI cZ cB cJ cE ad w sz)) (QP G cI cZ cB cJ cE ad w sz v w') (w'.length - w.length) (slW w' - slW w) (va_A (cW ad (ctL cI cZ cB cJ cE) w) sz) := by
  refine Met.ofW (cc := M.2.2.1) (maxL := M.2.2.2.1) (ret := M.2.2.2.2.1) hM.2.2.1 rfl ?_
  intro p e s m args below meth c s₁ B hml hv
  obtain ⟨ha, hsz, hP, hK, hD, hX, hSx, hZ⟩ := hv
  subst hsz
  have hlocks := B.notSynchronized
  have hts := atoms_spec (ws := .code M.2.1 M.2.2.1 M.2.2.2.1 M.2.2.2.2.1 :: wt) B.pre
  have hlen : (lg_sl (as.map (cvV ad))).length ≤ M.2.2.2.1 := by rw [lg_len]; unfold cats; rw [cats_cv]; exact hc
  have hl := lv_entry (as.map (cvV ad)) hlen
  have hfr : entryFrame m args M.2.2.2.1 = F0 m 0 ((lg_sl (as.map (cvV ad)) ++ List.replicate (M.2.2.2.1 - (lg_sl (as.map (cvV ad))).length) Slot.unset).toArray) [] := by rw [ha]; exact lg_entry_eq m (as.map (cvV ad)) M.2.2.2.1
  rw [hfr]
  rw [lArgs_cv] at hl
  have C : Cx p s m args meth c G cI cZ cB cJ cE (va_A (cW ad (ctL cI cZ cB cJ cE) w) s.heap.size) Z0 M := ⟨B.exec, B.bytes, hml, fun w hw => hts w (List.mem_cons_of_mem _ hw), findClass_of_methodNamed B.named, hK, fun q h => Or.inr h, va_A.z hD hZ, (name_of_methodNamed B.named B.method).1, hM.2.2.2.1, hZ⟩
  refine hS d M 0 (lArgs 0 as) [] w v w' hM.1 hr p e _ s m args below meth c s.heap [] 0 0 _ (va_A (cW ad (ctL cI cZ cB cJ cE) w) s.heap.size) _ ad C hX hSx ⟨Nat.le_refl _, Nat.le_refl _⟩ ⟨Nat.le_of_eq (Nat.zero_add _), Nat.le_of_eq (Nat.zero_add _)⟩ ⟨hP, hD.self, va_S.rf, hl, hsw, lArgs_sc hsa⟩ (fun _ h => by cases h) ?_
  intro ad' H1 locs1 pc1 ls1 ins st1 hadx hd hret q1 q2 q3 q4 q5
  rw [Nat.zero_add, Nat.zero_add]
  have hq : ∀ t : State, t.heap = H1 → (∀ x, v = some x → scV (w'.length + 3) x) → QP G cI cZ cB cJ cE ad w s.heap.size v w' args s (.returned (v.map (cvV ad'))) t := fun t ht hx => ⟨⟨ad', hadx, rfl, by rw [ht]; exact q1, q2, q4, hx⟩, q3.F ht⟩
  rcases aret_ins hret with ⟨rfl, x, ty, rfl, rfl, hm, hn⟩ | ⟨rfl, x, rfl, rfl, hm⟩ | ⟨rfl, x, Cn, rfl, rfl, hm⟩ | ⟨rfl, rfl, rfl, hm⟩
  · exact W.zret B.exec B.bytes (B.returns.trans hm) hn (fun t ht _ => hq t ht (fun y hy => by cases hy; exact scV_int _ _)) q3.2.2 (hd.d rfl)
  · exact W.lret B.exec B.bytes (B.returns.trans hm) (fun t ht _ => hq t ht (fun y hy => by cases hy; exact scV_long _ _)) q3.2.2 (hd.d rfl)
  · exact W.aret B.exec B.bytes (B.returns.trans hm) (Or.inl ⟨Cn, rfl⟩) (Or.inr ⟨_, rfl⟩) (fun t ht _ => hq t ht (fun y hy => by cases hy; exact scS_h q5)) q3.2.2 (hd.d rfl)
  · exact W.vret B.exec B.bytes (B.returns.trans hm) (fun t ht _ => hq t ht (fun y hy => by cases hy)) q3.2.2 (hd.d rfl)
end SIM
end
section
/-! calls, and the theorem -/
section CALL
variable {p : Program} {l : Launch} {e : Env} {R : Room} {s : State} {m : MethodId} {args : Array Value} {below : List Frame} {meth : Method} {c : Code} {H : Heap} {locs : List Loc} {cells slots : Nat} {Q : State → Prop}
variable {G : va_G} {cI cZ cB cJ cE : ClassId} {A : Nat → Prop} {Z0 : Nat}
theorem below_same {M : pM} {nL : Nat} {ad : Nat → Nat} {ls : Array Slot} {lc : pL} {w : pW} (C : Cx p s m args meth c G cI cZ cB cJ cE A Z0 M) (hR : Rn s G cI cZ cB cJ cE A nL ad H locs ls lc w) : ∀ q, q < Z0 → H[q]? = s.heap[q]? := by
  obtain ⟨hx, hb, hml, htw, hown, hK, hA, hAZ, hin, hon, hZs⟩ := C
  intro q hq
  exact hR.2.2.1.2.1 q (Nat.lt_of_lt_of_le hq hZs) (fun z => absurd (hAZ q z) (Nat.not_le.mpr hq))
theorem pre_of {SX : pX} {xs : Nat → Int32} {L : Nat} {tr : List (String × Nat × Nat)} (hSX : SXok Z0 SX) {M : pM} {nL : Nat} {ad : Nat → Nat} {ls : Array Slot} {lc : pL} {w : pW} (C : Cx p s m args meth c G cI cZ cB cJ cE A Z0 M) (hX : EXf xs L tr Z0 ad s) (hSx : SX ad s) (hR : Rn s G cI cZ cB cJ cE A nL ad H locs ls lc w) (av : List Value) : ∀ U : State, U.heap = H → s.WarmedH U.vm → va_Pc av (PreP SX xs L tr Z0 G cI cZ cB cJ cE ad w H.size) av.toArray U := by
  have hbel := below_same C hR
  obtain ⟨hx, hb, hml, htw, hown, hK, hA, hAZ, hin, hon, hZs⟩ := C
  intro U hU hW
  refine ⟨rfl, by rw [hU], by rw [hU]; exact hR.1, ⟨va_K.moved hW.alike hK.1, nx_warm hW hK.2.1, va_AO.moved hW.alike hK.2.2⟩, hR.2.1.weaken (fun _ q _ h => hAZ q.1 h), hX.mv (adX_r _ _) (Or.inl hW) (fun q hq => by rw [hU]; exact hbel q hq), hSX ad ad s U (adX_r _ _) (Or.inl hW) (fun q hq => by rw [hU]; exact hbel q hq) hSx, Nat.le_trans hZs hR.2.2.1.1⟩
/-- behind a call the frame goes on -/
theorem call_go {M : pM} {pc : Nat} {lc : pL} {w w' : pW} {r st0 : List Value} {v : Option Value} {ad : Nat → Nat} {ls : Array Slot} {a : Array Value} (C : Cx p s m args meth c G cI cZ cB cJ cE A Z0 M) (hR : Rn s G cI cZ cB cJ cE A M.2.2.2.1 ad H locs ls lc w) (hsr : scS (w.length + 3) r) (hz : szOK w w')
    (hr : va_Run p l e R s m args below meth c H locs cells slots (w'.length - w.length) (slW w' - slW w) (F0 m pc ls st0) (r.map (cvV ad)) (QP G cI cZ cB cJ cE ad w H.size v w' a) (va_A (cW ad (ctL cI cZ cB cJ cE) w) H.size))
    (k : Go p l e R s m args below meth c Q G cI cZ cB cJ cE A M (w.length + 3) ad (cells + (w'.length - w.length)) (slots + (slW w' - slW w)) (pc + 3) lc (v.toList ++ r) w') : W p l e R s m args below meth c H locs cells slots Q (F0 m pc ls st0) := by
  obtain ⟨hx, hb, hml, htw, hown, hK, hA, hAZ, hin, hon, hZs⟩ := C
  have hF : ∀ q, va_A (cW ad (ctL cI cZ cB cJ cE) w) H.size q → A q := by
    intro q h
    rcases h with ⟨k, e, h⟩ | h
    · exact hR.2.1.2 k (q, e) h
    · exact hA q (Nat.le_trans hR.2.2.1.1 h)
  refine va_callX hr hR.2.2.1 (fun q _ h => hF q h) hF (fun _ _ _ h => h.2) ?_
  intro v1 st t H1 locs1 ht hq hz1 hk1 hS1
  obtain ⟨⟨ad', hadx, hv, hP1, hD1, hsw, hsv⟩, -⟩ := hq
  have hv1 : v1 = v.map (cvV ad') := Outcome.returned.inj hv
  subst hv1
  rw [ht] at hP1
  have hn : w.length + 3 ≤ w'.length + 3 := Nat.add_le_add_right hz.1 3
  have e1 : (v.map (cvV ad')).toList ++ r.map (cvV ad) = (v.toList ++ r).map (cvV ad') := by
    rw [List.map_append, cS_x hadx hsr]
    cases v <;> rfl
  rw [e1]
  refine k ad' H1 locs1 ls hadx ⟨hP1, hD1.weaken (fun _ q _ h => hF q.1 h), hS1, ?_, hsw, scL_up hn hR.2.2.2.2.2⟩ ?_
  · rw [cL_x hadx hR.2.2.2.2.2]
    exact hR.2.2.2.1
  · intro x hx
    rcases List.mem_append.mp hx with h | h
    · cases v with
      | none => cases h
      | some y =>
        have : x = y := by simpa using h
        rw [this]
        exact hsv y rfl
    · exact scV_up hn (hsr x h)
theorem wt_I {y : MethodName} {b : ByteArray} {n : Nat} {r : Option FieldType} (h : Cond.code y b n r ∈ wt) : GoodIn wt (Cond.code y b n r :: wt) := wt_code h
theorem split_st {st : List Value} {na : Nat} {b : Value} {r : List Value} (h : st.drop na = b :: r) : st = ((st.take na).reverse).reverse ++ b :: r := by rw [List.reverse_reverse, ← h, List.take_append_drop]
theorem sc_take {n na : Nat} {st : List Value} (h : scS n st) : scS n (st.take na).reverse := fun x hx => h x (List.mem_of_mem_take (List.mem_reverse.mp hx))
theorem sc_drop {n na : Nat} {st : List Value} (h : scS n st) : scS n (st.drop na) := fun x hx => h x (List.mem_of_mem_drop hx)
theorem room_ok {d a b : Nat} {R : Room} (h : d + 1 ≤ R.frames ∧ 60 * (d + 1) ≤ R.locals) (ha : a ≤ 40) : ({ frames := d, cells := b, slots := 0, locals := 60 * d } : Room).frames + 1 ≤ R.frames ∧ 8 + (a + 11) + 60 * d ≤ R.locals := ⟨h.1, by omega⟩
/-- the texts' methods do what the pure ones do -/
def TopsOK (l : Launch) (pp : pP) (tx : pT) (xs : Nat → Int32) (L : Nat) (SX : pX) (tr : List (String × Nat × Nat)) (Z0 : Nat) (G : va_G) (cI cZ cB cJ cE : ClassId) : Prop :=
  ∀ (p : Program) (e : Env) (R : Room) (s : State) (m : MethodId) (args : Array Value) (below : List Frame) (meth : Method) (c : Code) (H : Heap) (locs : List Loc) (cells slots : Nat) (Q : State → Prop) (A : Nat → Prop) (M : pM) (pc d op j i : Nat) (lc : pL) (st st' : List Value) (w : pW) (ad : Nat → Nat) (ls : Array Slot),
    Cx p s m args meth c G cI cZ cB cJ cE A Z0 M → EXf xs L tr Z0 ad s → SX ad s → Rn s G cI cZ cB cJ cE A M.2.2.2.1 ad H locs ls lc w → scS (w.length + 3) st → 6 ≤ d → d ≤ R.frames ∧ 60 * d ≤ R.locals → pp.2.2.2 M.1 i = some (op, j) → tops tx op st = some st' → cats st' ≤ 8 → DecAt M.2.2.1 pc (.invokevirtual i) →
    Go p l e R s m args below meth c Q G cI cZ cB cJ cE A M (w.length + 3) ad cells slots (pc + 3) lc st' w → W p l e R s m args below meth c H locs cells slots Q (F0 m pc ls (st.map (cvV ad)))
theorem tops_sc {n : Nat} {tx : pT} {op : Nat} {st st' : List Value} (h : tops tx op st = some st') (hs : scS n st) : scS n st' := by
  unfold tops at h
  split at h
  · split at h
    · have := Option.some.inj h
      rw [← this]
      exact scS_c (scV_int _ _) (scS_t hs)
    · cases h
  · split at h
    · split at h
      · have := Option.some.inj h
        rw [← this]
        exact scS_c (scV_int _ _) (scS_t (scS_t hs))
      · cases h
    · cases h
  · split at h
    · have := Option.some.inj h
      rw [← this]
      exact scS_c (scV_int _ _) (scS_t (scS_t hs))
    · cases h
  · cases h
theorem own12 {i : Nat} {a : String} (h : owns[i]? = some a) (hi : i < 12) : ∃ q : vw_C, classes[i]? = some q ∧ q.1 = a := by
  match i, hi, h with
  | 0, _, h => cases h; exact ⟨_, rfl, rfl⟩
  | 1, _, h => cases h; exact ⟨_, rfl, rfl⟩
  | 2, _, h => cases h; exact ⟨_, rfl, rfl⟩
  | 3, _, h => cases h; exact ⟨_, rfl, rfl⟩
  | 4, _, h => cases h; exact ⟨_, rfl, rfl⟩
  | 5, _, h => cases h; exact ⟨_, rfl, rfl⟩
  | 6, _, h => cases h; exact ⟨_, rfl, rfl⟩
  | 7, _, h => cases h; exact ⟨_, rfl, rfl⟩
  | 8, _, h => cases h; exact ⟨_, rfl, rfl⟩
  | 9, _, h => cases h; exact ⟨_, rfl, rfl⟩
  | 10, _, h => cases h; exact ⟨_, rfl, rfl⟩
  | 11, _, h => cases h; exact ⟨_, rfl, rfl⟩
set_option maxHeartbeats 4000000 in
/-- instructions that are no call of a method of ours -/
theorem next_ok {pp : pP} {F : pF} {Gm : pG} {tx : pT} {xs : Nat → Int32} {L : Nat} {SX : pX} {tr : List (String × Nat × Nat)} (hF : ClsOK F) (hPo : PoolOK pp tr) (hCa : CallsOK pp Gm) (hT : TopsOK l pp tx xs L SX tr Z0 G cI cZ cB cJ cE) {M : pM} (C : Cx p s m args meth c G cI cZ cB cJ cE A Z0 M) {ins : Instr} {d pc : Nat} {lc : pL} {st : List Value} {w : pW} {pc' : Nat} {lc' : pL} {st' : List Value} {w' : pW} {ad : Nat → Nat} {ls : Array Slot} (hX : EXf xs L tr Z0 ad s) (hSx : SX ad s) (hd : DecAt M.2.2.1 pc ins) (h : astep pp F Gm tx xs L M d ins pc lc st w = some (.inr (.inl (pc', lc', st', w')))) (hrm : d ≤ R.frames ∧ 60 * d ≤ R.locals) (hR : Rn s G cI cZ cB cJ cE A M.2.2.2.1 ad H locs ls lc w) (hs : scS (w.length + 3) st) (hroom : cells + (w'.length - w.length) ≤ R.cells ∧ slots + (slW w' - slW w) ≤ R.slots)
    (k : Go p l e R s m args below meth c Q G cI cZ cB cJ cE A M (w.length + 3) ad (cells + (w'.length - w.length)) (slots + (slW w' - slW w)) pc' lc' st' w') : W p l e R s m args below meth c H locs cells slots Q (F0 m pc ls (st.map (cvV ad))) := by
  have key : (sstep pp F xs L M.1 M.2.2.2.1 (isInit M.2.1) ins pc lc st w).map (fun c => (Sum.inr (Sum.inl c) : pA)) = some (.inr (.inl (pc', lc', st', w'))) → W p l e R s m args below meth c H locs cells slots Q (F0 m pc ls (st.map (cvV ad))) := by
    intro h
    cases hs1 : sstep pp F xs L M.1 M.2.2.2.1 (isInit M.2.1) ins pc lc st w with
    | none => rw [hs1] at h; cases h
    | some c1 =>
      rw [hs1] at h
      simp only [Option.map_some, Option.some.injEq, Sum.inr.injEq, Sum.inl.injEq] at h
      subst h
      exact sstep_ok hF hPo C hX hd hs1 hR hs hroom k
  have kr : ∀ x : Option (Option Value), x.map (fun v => (Sum.inl v : pA)) = some (.inr (.inl (pc', lc', st', w'))) → W p l e R s m args below meth c H locs cells slots Q (F0 m pc ls (st.map (cvV ad))) := by
    intro x h
    cases x <;> cases h
  unfold astep at h
  split at h
  · exact kr _ h
  · exact kr _ h
  · exact kr _ h
  · exact kr _ h
  · unfold acallV at h
    split at h
    · repeat' split at h
      all_goals (cases h; done)
    · next op j _ hp =>
      split at h
      · next st1 ht =>
        split at h
        · next hc =>
          simp only [Bool.and_eq_true, decide_eq_true_eq] at hc
          simp only [Option.some.injEq, Sum.inr.injEq, Sum.inl.injEq, Prod.mk.injEq] at h
          obtain ⟨rfl, rfl, rfl, rfl⟩ := h
          exact hT p e R s m args below meth c H locs cells slots Q A M pc d op j _ lc st st1 w ad ls C hX hSx hR hs hc.2 hrm hp ht hc.1 hd k.z
        · cases h
      · cases h
    · cases h
  · unfold acallS at h
    split at h
    · repeat' split at h
      all_goals (cases h; done)
    · next j hp =>
      split at h
      · next kk dp a sp a0 r =>
        split at h
        · next hc =>
          simp only [Bool.and_eq_true, decide_eq_true_eq] at hc
          split at h
          · next w1 hw =>
            simp only [Option.some.injEq, Sum.inr.injEq, Sum.inl.injEq, Prod.mk.injEq] at h
            obtain ⟨rfl, rfl, rfl, rfl⟩ := h
            unfold acpy at hw
            split at hw
            · next n0 f n1 g h0 h1 =>
              split at hw
              · next hb2 =>
                simp only [Bool.and_eq_true, decide_eq_true_eq] at hb2
                obtain ⟨g1, g2, g3, g4, g5⟩ := hb2
                obtain ⟨j0, rfl, hj0⟩ := wAt_some h0
                obtain ⟨j1, rfl, hj1⟩ := wAt_some h1
                have hw := Option.some.inj hw
                have hw : w1 = w.set j1 (.inl (0, n1, .inl (va_cpy f g sp.toNatClampNeg dp.toNatClampNeg kk.toNatClampNeg))) := hw.symm
                subst hw
                obtain ⟨hx, hb, hml, htw, hown, hK, hA, hAZ, hin, hon, hZs⟩ := C
                obtain ⟨own, o1, o2, o3, o4, o5⟩ := hCa.2.2.2.2.2.1 _ _ _ hp
                have ho : own = M.2.1.cls := Option.some.inj (o1.symm.trans hon)
                subst ho
                refine va_copyi hx hb (hml.trans hR.2.2.2.1.1.symm) hown (htw _ o2) (htw _ o3) (htw _ o4) (htw _ o5) hK.1 hR.1 hR.2.1 hR.2.2.1 j0 j1 0 0 (cW_at hj0) (cW_at hj1) rfl rfl rfl g1 g2 g3 g4 g5 (fun _ _ => rfl) (by omega) ?_ (hd.d rfl) (fun H1 locs1 q1 q2 q3 => ?_)
                · rw [cats_cv]
                  have : nativeFrameWords "java/lang/System" "arraycopy" 5 + 11 ≤ 50 := by decide
                  omega
                · have kk2 := k.zs (w' := w.set j1 (.inl (0, n1, .inl (va_cpy f g sp.toNatClampNeg dp.toNatClampNeg kk.toNatClampNeg)))) (by rw [List.length_set]) (slW_set hj1 rfl)
                  refine kk2 ad H1 locs1 ls (adX_r _ _) (hR.set (x := .inl (0, n1, .inl (va_cpy f g sp.toNatClampNeg dp.toNatClampNeg kk.toNatClampNeg))) trivial q1 q2 q3) ?_
                  rw [List.length_set]
                  exact scS_t (scS_t (scS_t (scS_t (scS_t hs))))
              · cases hw
            · cases hw
          · cases h
        · cases h
      · cases h
    · next j hp =>
      split at h
      · next y x r =>
        split at h
        · next hc =>
          simp only [Bool.and_eq_true, decide_eq_true_eq] at hc
          simp only [Option.some.injEq, Sum.inr.injEq, Sum.inl.injEq, Prod.mk.injEq] at h
          obtain ⟨rfl, rfl, rfl, rfl⟩ := h
          obtain ⟨hx, hb, hml, htw, hown, hK, hA, hAZ, hin, hon, hZs⟩ := C
          obtain ⟨own, o1, o2, o3, o4, o5⟩ := hCa.2.2.2.2.2.2.1 _ _ _ hp
          have ho : own = M.2.1.cls := Option.some.inj (o1.symm.trans hon)
          subst ho
          refine va_mmax hx hb (hml.trans hR.2.2.2.1.1.symm) hown (htw _ o2) (htw _ o3) (htw _ o4) (htw _ o5) (by omega) ?_ (by omega) (by omega) (hd.d rfl) (k.z ad H locs ls (adX_r _ _) hR (scS_c (scV_int _ _) (scS_t (scS_t hs))))
          rw [cats_cv]
          omega
        · cases h
      · cases h
    · next j hp =>
      split at h
      · next y x r =>
        split at h
        · next hc =>
          simp only [Bool.and_eq_true, decide_eq_true_eq] at hc
          simp only [Option.some.injEq, Sum.inr.injEq, Sum.inl.injEq, Prod.mk.injEq] at h
          obtain ⟨rfl, rfl, rfl, rfl⟩ := h
          obtain ⟨hx, hb, hml, htw, hown, hK, hA, hAZ, hin, hon, hZs⟩ := C
          obtain ⟨own, o1, o2, o3, o4, o5⟩ := hCa.2.2.2.2.2.2.2 _ _ _ hp
          have ho : own = M.2.1.cls := Option.some.inj (o1.symm.trans hon)
          subst ho
          refine va_mmin hx hb (hml.trans hR.2.2.2.1.1.symm) hown (htw _ o2) (htw _ o3) (htw _ o4) (htw _ o5) (by omega) ?_ (by omega) (by omega) (hd.d rfl) (k.z ad H locs ls (adX_r _ _) hR (scS_c (scV_int _ _) (scS_t (scS_t hs))))
          rw [cats_cv]
          omega
        · cases h
      · cases h
    · cases h
  · unfold acallI at h
    split at h
    · repeat' split at h
      all_goals (cases h; done)
    · next j hp =>
      split at h
      · next a r =>
        split at h
        · next hc =>
          simp only [Bool.and_eq_true, decide_eq_true_eq] at hc
          simp only [Option.some.injEq, Sum.inr.injEq, Sum.inl.injEq, Prod.mk.injEq] at h
          obtain ⟨rfl, rfl, rfl, rfl⟩ := h
          obtain ⟨hx, hb, hml, htw, hown, hK, hA, hAZ, hin, hon, hZs⟩ := C
          obtain ⟨own, o1, o2, o3, o4⟩ := hCa.2.2.2.2.1 _ _ _ hp
          have ho : own = M.2.1.cls := Option.some.inj (o1.symm.trans hon)
          subst ho
          refine W.objInit hx hb hown (htw _ o2) (htw _ o3) (htw _ o4) (g := F0 m pc ls ((Value.ref a :: r).map (cvV ad))) rfl (hR.2.2.2.1.1.trans hml.symm) rfl (hd.d rfl) (by omega) ?_ (k.z ad H locs ls (adX_r _ _) hR (scS_t hs))
          rw [cats_cv]
          show 2 * 0 + _ + 12 ≤ _
          omega
        · cases h
      · cases h
    · cases h
  · exact key h
end CALL
end
section
section SIM2
variable {p : Program} {l : Launch} {e : Env} {R : Room} {s : State} {m : MethodId} {args : Array Value} {below : List Frame} {meth : Method} {c : Code} {H : Heap} {locs : List Loc} {cells slots : Nat} {Q : State → Prop}
variable {G : va_G} {cI cZ cB cJ cE : ClassId} {A : Nat → Prop} {Z0 : Nat}
set_option maxHeartbeats 4000000 in
/-- a call of a method of ours -/
theorem callM_ok {pp : pP} {F : pF} {Gm : pG} {tx : pT} {xs : Nat → Int32} {L : Nat} {SX : pX} {tr : List (String × Nat × Nat)} {n : Nat} (hSX : SXok Z0 SX) (hCa : CallsOK pp Gm) (hSim : Sim l pp F Gm tx xs L SX tr Z0 G cI cZ cB cJ cE n) {M : pM} (C : Cx p s m args meth c G cI cZ cB cJ cE A Z0 M) {ins : Instr} {d pc : Nat} {lc : pL} {st : List Value} {w : pW} {M' : pM} {as r : List Value} {pc' : Nat} {lc' : pL} {v : Option Value} {w' : pW} {ad : Nat → Nat} {ls : Array Slot} (hX : EXf xs L tr Z0 ad s) (hSx : SX ad s) (hd : DecAt M.2.2.1 pc ins) (h : astep pp F Gm tx xs L M (d + 1) ins pc lc st w = some (.inr (.inr (M', as, pc', lc', r)))) (hrm : d + 1 ≤ R.frames ∧ 60 * (d + 1) ≤ R.locals) (hR : Rn s G cI cZ cB cJ cE A M.2.2.2.1 ad H locs ls lc w) (hs : scS (w.length + 3) st) (hrun : run pp F Gm tx xs L n d M' 0 (lArgs 0 as) [] w = some (v, w')) (hroom : cells + (w'.length - w.length) ≤ R.cells ∧ slots + (slW w' - slW w) ≤ R.slots)
    (k : Go p l e R s m args below meth c Q G cI cZ cB cJ cE A M (w.length + 3) ad (cells + (w'.length - w.length)) (slots + (slW w' - slW w)) pc' lc' (v.toList ++ r) w') : W p l e R s m args below meth c H locs cells slots Q (F0 m pc ls (st.map (cvV ad))) := by
  have kr : ∀ x : Option (Option Value), x.map (fun v => (Sum.inl v : pA)) = some (.inr (.inr (M', as, pc', lc', r))) → False := by
    intro x h
    cases x <;> cases h
  have hz := run_sz _ _ _ _ _ _ _ _ _ hrun
  have C0 := C
  obtain ⟨hx, hb, hml, htw, hown, hK, hA, hAZ, hin, hon, hZs⟩ := C0
  unfold astep at h
  split at h
  · exact (kr _ h).elim
  · exact (kr _ h).elim
  · exact (kr _ h).elim
  · exact (kr _ h).elim
  · next i =>
    unfold acallV at h
    split at h
    · next j hp =>
      split at h
      · next M1 na hG =>
        split at h
        · next b r1 hdrop =>
          split at h
          · next ci fs hwb =>
            split at h
            · next hc =>
              simp only [Bool.and_eq_true, decide_eq_true_eq, beq_iff_eq] at hc
              obtain ⟨hci, hc8, hna, hcl⟩ := hc
              simp only [Option.some.injEq, Sum.inr.injEq, Prod.mk.injEq] at h
              obtain ⟨rfl, rfl, rfl, rfl, rfl⟩ := h
              have hMO := hCa.1 _ _ _ hG
              obtain ⟨own, o1, o2, o3, o4, o5⟩ := hCa.2.1 _ _ _ _ _ hp hG
              have ho : own = M.2.1.cls := Option.some.inj (o1.symm.trans hon)
              subst ho
              have hst := split_st hdrop
              have hsb : scV (w.length + 3) (.ref b) := hs _ (List.mem_of_mem_drop (by rw [hdrop]; exact List.mem_cons_self))
              have hsr : scS (w.length + 3) r1 := fun x hx => hs x (List.mem_of_mem_drop (by rw [hdrop]; exact List.mem_cons_of_mem _ hx))
              have hmet := met_of hSim hMO hrun hcl hR.2.2.2.2.1 (scS_c hsb (sc_take hs)) ad H.size
              obtain ⟨j0, rfl, hj0⟩ := wAt_some hwb
              have hstk : st.map (cvV ad) = ((st.take na).reverse.map (cvV ad)).reverse ++ .ref (ad (j0 + 3)) :: r1.map (cvV ad) := by
                conv => lhs; rw [hst]
                rw [List.map_append, List.map_reverse, List.map_cons]
                rfl
              have hlen : ((st.take na).reverse.map (cvV ad)).length = na := by simp [hna]
              have hdd := hMO.2.2.2.2.1
              obtain ⟨q, hq1, hq2⟩ := own12 hMO.2.2.2.1 o5
              have hrecv : ∃ cellB : Cell, H[ad (j0 + 3)]? = some cellB ∧ cellB.vm.isStatics = false ∧ s.vm.findClass M1.2.1.cls = some cellB.cls := by
                rw [← hq2]
                exact va_recv hK.1 hR.1 (by rw [← hq1, hci]) (cW_at hj0)
              have hpre := pre_of hSX C hX hSx hR (.ref (ad (j0 + 3)) :: (st.take na).reverse.map (cvV ad))
              refine call_go (a := (Value.ref (ad (j0 + 3)) :: (st.take na).reverse.map (cvV ad)).toArray) C hR hsr hz ?_ k
              rw [hstk]
              rcases o2 with o2 | ⟨host, o2⟩
              · exact va_runV (C := M1.2.1.cls) (As := (st.take na).reverse.map (cvV ad)) (rest := r1.map (cvV ad)) ⟨hx, hb, hml, hown, htw⟩ hmet (cwV na htw (wt_V hMO.2.1 o2 o3 o4 hMO.2.2.2.2.2.1) rfl rfl rfl ⟨rfl, hdd⟩ ⟨hrm.1, by have := hMO.2.2.2.2.2.2; show 8 + (M1.2.2.2.1 + 11) + 60 * d ≤ _; omega⟩) ⟨PreP.blind hSX, hrecv, hpre⟩ rfl hlen hR.2.2.2.1.1 rfl (lv_room (by rw [cats_cv]; exact hc8)) (hd.d rfl) hroom
              · exact va_runVN (C := M1.2.1.cls) (As := (st.take na).reverse.map (cvV ad)) (rest := r1.map (cvV ad)) ⟨hx, hb, hml, hown, htw⟩ hmet ⟨va_cnB na htw (wt_code hMO.2.1) rfl rfl rfl (hK.2.1 _ o2) (htw _ hMO.2.2.2.2.2.1) hdd ⟨hrm.1, by have := hMO.2.2.2.2.2.2; show 8 + (M1.2.2.2.1 + 11) + 60 * d ≤ _; omega⟩, htw _ o3, htw _ o4⟩ ⟨PreP.blind hSX, hrecv, hpre⟩ rfl hlen hR.2.2.2.1.1 rfl (lv_room (by rw [cats_cv]; exact hc8)) (hd.d rfl) hroom
            · cases h
          · cases h
        · cases h
      · cases h
    all_goals (repeat' split at h)
    all_goals (cases h; done)
  · next i =>
    unfold acallS at h
    split at h
    · next j hp =>
      split at h
      · next M1 na hG =>
        split at h
        · next hc =>
          simp only [Bool.and_eq_true, decide_eq_true_eq] at hc
          obtain ⟨hc8, hna, hcl⟩ := hc
          simp only [Option.some.injEq, Sum.inr.injEq, Prod.mk.injEq] at h
          obtain ⟨rfl, rfl, rfl, rfl, rfl⟩ := h
          have hMO := hCa.1 _ _ _ hG
          obtain ⟨own, o1, o2, o3⟩ := hCa.2.2.1 _ _ _ _ _ hp hG
          have ho : own = M.2.1.cls := Option.some.inj (o1.symm.trans hon)
          subst ho
          have hsr : scS (w.length + 3) (st.drop na) := sc_drop hs
          have hmet := met_of hSim hMO hrun hcl hR.2.2.2.2.1 (sc_take hs) ad H.size
          have hstk : st.map (cvV ad) = ((st.take na).reverse.map (cvV ad)).reverse ++ (st.drop na).map (cvV ad) := by
            rw [← List.map_reverse, List.reverse_reverse, ← List.map_append, List.take_append_drop]
          have hlen : ((st.take na).reverse.map (cvV ad)).length = na := by simp [hna]
          have hdd := hMO.2.2.2.2.1
          have hpre := pre_of hSX C hX hSx hR ((st.take na).reverse.map (cvV ad))
          refine call_go (a := ((st.take na).reverse.map (cvV ad)).toArray) C hR hsr hz ?_ k
          rw [hstk]
          rcases o2 with o2 | ⟨host, o2⟩
          · exact va_runS (As := (st.take na).reverse.map (cvV ad)) (rest := (st.drop na).map (cvV ad)) ⟨hx, hb, hml, hown, htw⟩ hmet (va_cwS na htw (wt_S hMO.2.1 o2 o3 hMO.2.2.2.2.2.1) rfl rfl rfl hdd ⟨hrm.1, by have := hMO.2.2.2.2.2.2; show 8 + (M1.2.2.2.1 + 11) + 60 * d ≤ _; omega⟩) ⟨PreP.blind hSX, hpre⟩ rfl hlen hR.2.2.2.1.1 rfl (lv_room (by rw [cats_cv]; exact hc8)) (hd.d rfl) hroom
          · exact va_runSN (As := (st.take na).reverse.map (cvV ad)) (rest := (st.drop na).map (cvV ad)) ⟨hx, hb, hml, hown, htw⟩ hmet ⟨va_cnB na htw (wt_code hMO.2.1) rfl rfl rfl (hK.2.1 _ o2) (htw _ hMO.2.2.2.2.2.1) hdd ⟨hrm.1, by have := hMO.2.2.2.2.2.2; show 8 + (M1.2.2.2.1 + 11) + 60 * d ≤ _; omega⟩, htw _ o3, trivial⟩ ⟨PreP.blind hSX, hpre⟩ rfl hlen hR.2.2.2.1.1 rfl (lv_room (by rw [cats_cv]; exact hc8)) (hd.d rfl) hroom
        · cases h
      · cases h
    all_goals (repeat' split at h)
    all_goals (cases h; done)
  · next i =>
    unfold acallI at h
    split at h
    · next j hp =>
      split at h
      · next M1 na hG =>
        split at h
        · next b r1 hdrop =>
          split at h
          · next hc =>
            simp only [Bool.and_eq_true, decide_eq_true_eq] at hc
            obtain ⟨hc8, hna, hini, hcl⟩ := hc
            simp only [Option.some.injEq, Sum.inr.injEq, Prod.mk.injEq] at h
            obtain ⟨rfl, rfl, rfl, rfl, rfl⟩ := h
            have hMO := hCa.1 _ _ _ hG
            obtain ⟨own, o1, o2, o3, o4⟩ := hCa.2.2.2.1 _ _ _ _ _ hp hG
            have ho : own = M.2.1.cls := Option.some.inj (o1.symm.trans hon)
            subst ho
            have hst := split_st hdrop
            have hsb : scV (w.length + 3) (.ref b) := hs _ (List.mem_of_mem_drop (by rw [hdrop]; exact List.mem_cons_self))
            have hsr : scS (w.length + 3) r1 := fun x hx => hs x (List.mem_of_mem_drop (by rw [hdrop]; exact List.mem_cons_of_mem _ hx))
            have hmet := met_of hSim hMO hrun hcl hR.2.2.2.2.1 (scS_c hsb (sc_take hs)) ad H.size
            have hstk : st.map (cvV ad) = ((st.take na).reverse.map (cvV ad)).reverse ++ .ref (ad b) :: r1.map (cvV ad) := by
              conv => lhs; rw [hst]
              rw [List.map_append, List.map_reverse, List.map_cons]
              rfl
            have hlen : ((st.take na).reverse.map (cvV ad)).length = na := by simp [hna]
            have hdd := hMO.2.2.2.2.1
            have hin2 : M1.2.1.name = "<init>" := by simpa [isInit] using hini
            have hpre := pre_of hSX C hX hSx hR (.ref (ad b) :: (st.take na).reverse.map (cvV ad))
            have hco := hMO.2.1
            refine call_go (a := (Value.ref (ad b) :: (st.take na).reverse.map (cvV ad)).toArray) C hR hsr hz ?_ k
            rw [hstk]
            rw [o4] at hmet hco
            rcases o2 with o2 | ⟨host, o2⟩
            · exact va_runI (As := (st.take na).reverse.map (cvV ad)) (rest := r1.map (cvV ad)) ⟨hx, hb, hml, hown, htw⟩ hmet (cwI na htw (wt_code hco) rfl rfl rfl (htw _ hMO.2.2.2.2.2.1) (htw _ o2) (htw _ o3) hin2 hdd ⟨hrm.1, by have := hMO.2.2.2.2.2.2; show 8 + (M1.2.2.2.1 + 11) + 60 * d ≤ _; omega⟩) ⟨PreP.blind hSX, hpre⟩ rfl hlen hR.2.2.2.1.1 rfl (lv_room (by rw [cats_cv]; exact hc8)) (hd.d rfl) hroom
            · exact va_runIN (As := (st.take na).reverse.map (cvV ad)) (rest := r1.map (cvV ad)) ⟨hx, hb, hml, hown, htw⟩ hmet ⟨va_cnB na htw (wt_code hco) rfl rfl rfl (hK.2.1 _ o2) (htw _ hMO.2.2.2.2.2.1) hdd ⟨hrm.1, by have := hMO.2.2.2.2.2.2; show 8 + (M1.2.2.2.1 + 11) + 60 * d ≤ _; omega⟩, hin2, htw _ o3⟩ ⟨PreP.blind hSX, hpre⟩ rfl hlen hR.2.2.2.1.1 rfl (lv_room (by rw [cats_cv]; exact hc8)) (hd.d rfl) hroom
          · cases h
        · cases h
      · cases h
    all_goals (repeat' split at h)
    all_goals (cases h; done)
  · cases hs1 : sstep pp F xs L M.1 M.2.2.2.1 (isInit M.2.1) ins pc lc st w with
    | none => rw [hs1] at h; cases h
    | some c1 => rw [hs1] at h; cases h
/-- THE MACHINE DOES WHAT THE PURE ONE DOES -/
theorem sim_all {l : Launch} {pp : pP} {F : pF} {Gm : pG} {tx : pT} {xs : Nat → Int32} {L : Nat} {SX : pX} {tr : List (String × Nat × Nat)} {Z0 : Nat} {G : va_G} {cI cZ cB cJ cE : ClassId} (hSX : SXok Z0 SX) (hF : ClsOK F) (hPo : PoolOK pp tr) (hCa : CallsOK pp Gm) (hT : TopsOK l pp tx xs L SX tr Z0 G cI cZ cB cJ cE) : ∀ n, Sim l pp F Gm tx xs L SX tr Z0 G cI cZ cB cJ cE n := by
  intro n
  induction n with
  | zero => intro d M pc lc st w v w' hM h; cases h
  | succ n ih =>
    intro d M pc lc st w v w' hM h p e R s m args below meth c H locs cells slots Q A ls ad C hX hSx hrm hroom hR hs hret
    have h0 := h
    simp only [run] at h
    split at h
    · cases h
    · next ins hins =>
      have hd := hM pc ins hins
      split at h
      · next v1 hA =>
        simp only [Option.some.injEq, Prod.mk.injEq] at h
        obtain ⟨rfl, rfl⟩ := h
        have hr : aret M ins st = some v1 := by
          have kx1 : ∀ x : Option pC, x.map (fun c => (Sum.inr (Sum.inl c) : pA)) = some (.inl v1) → False := by
            intro x h
            cases x <;> cases h
          have kr : (aret M ins st).map (fun v => (Sum.inl v : pA)) = some (.inl v1) → aret M ins st = some v1 := by
            intro h
            cases hq : aret M ins st with
            | none => rw [hq] at h; cases h
            | some y =>
              rw [hq] at h
              simp only [Option.map_some, Option.some.injEq, Sum.inl.injEq] at h
              rw [h]
          unfold astep at hA
          split at hA
          · exact kr hA
          · exact kr hA
          · exact kr hA
          · exact kr hA
          · unfold acallV at hA
            repeat' split at hA
            all_goals (cases hA; done)
          · unfold acallS at hA
            repeat' split at hA
            all_goals (cases hA; done)
          · unfold acallI at hA
            repeat' split at hA
            all_goals (cases hA; done)
          · exact (kx1 _ hA).elim
        have := hret ad H locs pc ls ins st (adX_r _ _) hd hr hR.1 hR.2.1 hR.2.2.1 hR.2.2.2.2.1 hs
        rw [Nat.sub_self, Nat.sub_self, Nat.add_zero, Nat.add_zero] at this
        exact this
      · next pc1 lc1 st1 w1 hA =>
        have z1 := astep_sz hA
        have z2 := run_sz _ _ _ _ _ _ _ _ _ h
        have hr1 : cells + (w1.length - w.length) ≤ R.cells ∧ slots + (slW w1 - slW w) ≤ R.slots := ⟨Nat.le_trans (Nat.add_le_add_left (Nat.sub_le_sub_right z2.1 _) _) hroom.1, Nat.le_trans (Nat.add_le_add_left (Nat.sub_le_sub_right z2.2 _) _) hroom.2⟩
        refine next_ok hF hPo hCa hT C hX hSx hd hA hrm hR hs hr1 ?_
        intro ad1 H1 locs1 ls1 hadx hR1 hs1
        have h3 : adX 3 ad ad1 := fun i hi => hadx i (Nat.lt_of_lt_of_le hi (Nat.le_add_left 3 _))
        have e1 : cells + (w1.length - w.length) + (w'.length - w1.length) = cells + (w'.length - w.length) := by have := z1.1; have := z2.1; omega
        have e2 : slots + (slW w1 - slW w) + (slW w' - slW w1) = slots + (slW w' - slW w) := by have := z1.2; have := z2.2; omega
        refine ih d M pc1 lc1 st1 w1 v w' hM h p e R s m args below meth c H1 locs1 _ _ Q A ls1 ad1 C (hX.mv h3 (Or.inr rfl) (fun _ _ => rfl)) (hSX ad ad1 s s h3 (Or.inr rfl) (fun _ _ => rfl) hSx) hrm (by rw [e1, e2]; exact hroom) hR1 hs1 ?_
        intro ad2 H2 locs2 pc2 ls2 ins2 st2 hadx2 hd2 hr2 q1 q2 q3 q4 q5
        rw [e1, e2]
        exact hret ad2 H2 locs2 pc2 ls2 ins2 st2 (fun i hi => (hadx2 i (Nat.lt_of_lt_of_le hi (Nat.add_le_add_right z1.1 3))).trans (hadx i hi)) hd2 hr2 q1 q2 q3 q4 q5
      · next M1 as pc1 lc1 r hA =>
        split at h
        · cases h
        · next d1 =>
          split at h
          · next v1 w1 hcall =>
            have z1 := run_sz _ _ _ _ _ _ _ _ _ hcall
            have z2 := run_sz _ _ _ _ _ _ _ _ _ h
            have hr1 : cells + (w1.length - w.length) ≤ R.cells ∧ slots + (slW w1 - slW w) ≤ R.slots := ⟨Nat.le_trans (Nat.add_le_add_left (Nat.sub_le_sub_right z2.1 _) _) hroom.1, Nat.le_trans (Nat.add_le_add_left (Nat.sub_le_sub_right z2.2 _) _) hroom.2⟩
            refine callM_ok hSX hCa ih C hX hSx hd hA hrm hR hs hcall hr1 ?_
            intro ad1 H1 locs1 ls1 hadx hR1 hs1
            have h3 : adX 3 ad ad1 := fun i hi => hadx i (Nat.lt_of_lt_of_le hi (Nat.le_add_left 3 _))
            have e1 : cells + (w1.length - w.length) + (w'.length - w1.length) = cells + (w'.length - w.length) := by have := z1.1; have := z2.1; omega
            have e2 : slots + (slW w1 - slW w) + (slW w' - slW w1) = slots + (slW w' - slW w) := by have := z1.2; have := z2.2; omega
            refine ih (d1 + 1) M pc1 lc1 (v1.toList ++ r) w1 v w' hM h p e R s m args below meth c H1 locs1 _ _ Q A ls1 ad1 C (hX.mv h3 (Or.inr rfl) (fun _ _ => rfl)) (hSX ad ad1 s s h3 (Or.inr rfl) (fun _ _ => rfl) hSx) hrm (by rw [e1, e2]; exact hroom) hR1 hs1 ?_
            intro ad2 H2 locs2 pc2 ls2 ins2 st2 hadx2 hd2 hr2 q1 q2 q3 q4 q5
            rw [e1, e2]
            exact hret ad2 H2 locs2 pc2 ls2 ins2 st2 (fun i hi => (hadx2 i (Nat.lt_of_lt_of_le hi (Nat.add_le_add_right z1.1 3))).trans (hadx i hi)) hd2 hr2 q1 q2 q3 q4 q5
          · cases h
      · cases h
end SIM2
end
section
def tblOK (cc : ByteArray) (t : List (Nat × Instr)) : Bool := t.all (fun q => match decode cc q.1 with
  | .ok (i, len) => decide (i = q.2) && (isSw i || len == ilen i)
  | _ => false)
theorem tbl_ok {M : pM} (h : tblOK M.2.2.1 M.2.2.2.2.2 = true) : ∀ pc ins, instrAt M pc = some ins → DecAt M.2.2.1 pc ins := by
  intro pc ins hi
  unfold instrAt at hi
  cases hf : M.2.2.2.2.2.find? (fun q => q.1 == pc) with
  | none => rw [hf] at hi; cases hi
  | some q =>
    rw [hf] at hi
    have h1 := List.mem_of_find?_eq_some hf
    have h2 := List.find?_some hf
    simp only [beq_iff_eq] at h2
    have h3 : q.2 = ins := Option.some.inj hi
    have h4 := List.all_eq_true.mp h q h1
    rw [h2] at h4
    split at h4
    · next i len hd =>
      simp only [Bool.and_eq_true, decide_eq_true_eq, Bool.or_eq_true, beq_iff_eq] at h4
      obtain ⟨h5, h6⟩ := h4
      rw [← h3, ← h5]
      exact ⟨len, hd, h6⟩
    · cases h4
def mX0_init : pM := (0, yX0_init, prog_2_method_1_code, 2, (Option.none : Option FieldType), [(0, .aload_n 0), (1, .invokespecial 3), (4, .aload_n 0), (5, .bipush 25), (7, .newarray .int), (9, .putfield 9), (12, .aload_n 0), (13, .bipush 25), (15, .newarray .int), (17, .putfield 15), (20, .aload_n 0), (21, .bipush 32), (23, .newarray .int), (25, .putfield 18), (28, .aload_n 0), (29, .aload_n 1), (30, .putfield 21), (33, .return_)])
theorem mok_X0_init : MOK mX0_init 1 := ⟨tbl_ok (by decide +kernel), wm_359, by decide +kernel, rfl, ⟨by decide +kernel, by decide +kernel, by decide +kernel⟩, wm_154, by decide⟩
def mX0_playTune : pM := (0, yX0_playTune, prog_2_method_2_code, 4, (Option.none : Option FieldType), [(0, .iconst 0), (1, .istore_n 3), (2, .iload_n 3), (3, .aload_n 0), (4, .getfield 21), (7, .getfield 25), (10, .iload_n 2), (11, .iaload), (12, .if_icmp .ge 17), (15, .aload_n 0), (16, .aload_n 1), (17, .iload_n 2), (18, .iload_n 3), (19, .invokevirtual 30), (22, .pop), (23, .iinc 3 1), (26, .goto (-24)), (29, .return_)])
theorem mok_X0_playTune : MOK mX0_playTune 2 := ⟨tbl_ok (by decide +kernel), wm_955, by decide +kernel, rfl, ⟨by decide +kernel, by decide +kernel, by decide +kernel⟩, wm_154, by decide⟩
def mX0_keepSilence : pM := (0, yX0_keepSilence, prog_2_method_3_code, 4, (Option.none : Option FieldType), [(0, .iconst 0), (1, .istore_n 3), (2, .iload_n 3), (3, .iload_n 2), (4, .if_icmp .ge 17), (7, .aload_n 0), (8, .aload_n 1), (9, .iconst (-1)), (10, .iload_n 3), (11, .invokevirtual 30), (14, .pop), (15, .iinc 3 1), (18, .goto (-16)), (21, .return_)])
theorem mok_X0_keepSilence : MOK mX0_keepSilence 2 := ⟨tbl_ok (by decide +kernel), wm_1019, by decide +kernel, rfl, ⟨by decide +kernel, by decide +kernel, by decide +kernel⟩, wm_154, by decide⟩
def mX0_playBar : pM := (0, yX0_playBar, prog_2_method_4_code, 5, (Option.some FieldType.boolean), [(0, .aload_n 0), (1, .aload_n 1), (2, .invokevirtual 34), (5, .aload_n 0), (6, .aload_n 1), (7, .iload_n 2), (8, .iload_n 3), (9, .invokevirtual 38), (12, .aload_n 0), (13, .aload_n 1), (14, .iload_n 2), (15, .iload_n 3), (16, .invokevirtual 42), (19, .istore 4), (21, .aload_n 1), (22, .dup), (23, .getfield 45), (26, .iconst 1), (27, .iadd), (28, .putfield 45), (31, .iload 4), (33, .ireturn)])
theorem mok_X0_playBar : MOK mX0_playBar 3 := ⟨tbl_ok (by decide +kernel), wm_959, by decide +kernel, rfl, ⟨by decide +kernel, by decide +kernel, by decide +kernel⟩, wm_154, by decide⟩
def mX0_stepAll : pM := (0, yX0_stepAll, prog_2_method_5_code, 4, (Option.none : Option FieldType), [(0, .iconst 0), (1, .istore_n 2), (2, .iload_n 2), (3, .bipush 25), (5, .if_icmp .ge 16), (8, .aload_n 0), (9, .getfield 9), (12, .iload_n 2), (13, .iconst 0), (14, .iastore), (15, .iinc 2 1), (18, .goto (-16)), (21, .iconst 0), (22, .istore_n 2), (23, .iload_n 2), (24, .aload_n 0), (25, .getfield 21), (28, .getfield 50), (31, .if_icmp .ge 68), (34, .aload_n 1), (35, .iload_n 2), (36, .invokevirtual 53), (39, .ifCond .eq 54), (42, .aload_n 0), (43, .getfield 21), (46, .aload_n 1), (47, .getfield 57), (50, .iload_n 2), (51, .iaload), (52, .aload_n 0), (53, .getfield 21), (56, .iload_n 2), (57, .aload_n 1), (58, .getfield 45), (61, .invokevirtual 60), (64, .invokevirtual 64), (67, .istore_n 3), (68, .aload_n 1), (69, .getfield 57), (72, .iload_n 2), (73, .iload_n 3), (74, .iastore), (75, .aload_n 0), (76, .getfield 9), (79, .iload_n 3), (80, .dup2), (81, .iaload), (82, .aload_n 0), (83, .getfield 21), (86, .getfield 67), (89, .iload_n 2), (90, .iaload), (91, .iadd), (92, .iastore), (93, .iinc 2 1), (96, .goto (-73)), (99, .return_)])
theorem mok_X0_stepAll : MOK mX0_stepAll 1 := ⟨tbl_ok (by decide +kernel), wm_963, by decide +kernel, rfl, ⟨by decide +kernel, by decide +kernel, by decide +kernel⟩, wm_154, by decide⟩
def mX0_freeze : pM := (0, yX0_freeze, prog_2_method_6_code, 11, (Option.none : Option FieldType), [(0, .iload_n 2), (1, .iconst (-1)), (2, .if_icmp .ne 8), (5, .bipush 6), (7, .goto 4), (10, .iload_n 2), (11, .istore 4), (13, .aload_n 0), (14, .getfield 21), (17, .getfield 70), (20, .iload 4), (22, .iaload), (23, .istore 5), (25, .aload_n 0), (26, .getfield 21), (29, .getfield 73), (32, .iload 4), (34, .iaload), (35, .istore 6), (37, .aload_n 0), (38, .iload_n 3), (39, .putfield 76), (42, .iconst 0), (43, .istore 7), (45, .iload 7), (47, .aload_n 0), (48, .getfield 21), (51, .getfield 79), (54, .if_icmp .ge 117), (57, .iconst 0), (58, .istore 8), (60, .iload 8), (62, .aload_n 0), (63, .getfield 21), (66, .getfield 82), (69, .if_icmp .ge 96), (72, .iload 8), (74, .iconst 5), (75, .iload 7), (77, .imul), (78, .iadd), (79, .istore 9), (81, .aload_n 0), (82, .aload_n 1), (83, .getfield 85), (86, .iload 9), (88, .iaload), (89, .putfield 88), (92, .aload_n 0), (93, .aload_n 0), (94, .getfield 9), (97, .iload 9), (99, .iaload), (100, .putfield 90), (103, .aload_n 0), (104, .aload_n 0), (105, .aload_n 1), (106, .iload 8), (108, .iload 7), (110, .invokevirtual 93), (113, .putfield 97), (116, .bipush (-99)), (118, .bipush 99), (120, .aload_n 0), (121, .iload 5), (123, .iload 6), (125, .invokevirtual 100), (128, .invokestatic 103), (131, .invokestatic 108), (134, .istore 10), (136, .aload_n 0), (137, .getfield 15), (140, .iload 9), (142, .iconst 0), (143, .bipush 99), (145, .aload_n 0), (146, .getfield 88), (149, .iload 10), (151, .iadd), (152, .invokestatic 103), (155, .invokestatic 108), (158, .iastore), (159, .iinc 8 1), (162, .goto (-102)), (165, .iinc 7 1), (168, .goto (-123)), (171, .iconst 0), (172, .istore 7), (174, .iload 7), (176, .aload_n 0), (177, .getfield 21), (180, .getfield 79), (183, .if_icmp .ge 35), (186, .aload_n 0), (187, .getfield 15), (190, .iconst 5), (191, .iload 7), (193, .imul), (194, .aload_n 1), (195, .getfield 85), (198, .iconst 5), (199, .iload 7), (201, .imul), (202, .aload_n 0), (203, .getfield 21), (206, .getfield 82), (209, .invokestatic 111), (212, .iinc 7 1), (215, .goto (-41)), (218, .return_)])
theorem mok_X0_freeze : MOK mX0_freeze 3 := ⟨tbl_ok (by decide +kernel), wm_977, by decide +kernel, rfl, ⟨by decide +kernel, by decide +kernel, by decide +kernel⟩, wm_154, by decide⟩
def mX0_iceAround : pM := (0, yX0_iceAround, prog_2_method_7_code, 6, (Option.some FieldType.int), [(0, .iload_n 2), (1, .iconst 5), (2, .iload_n 3), (3, .imul), (4, .iadd), (5, .istore 4), (7, .iconst 0), (8, .istore 5), (10, .iload_n 3), (11, .ifCond .le 17), (14, .iload 5), (16, .aload_n 1), (17, .getfield 85), (20, .iload 4), (22, .iconst 5), (23, .isub), (24, .iaload), (25, .iadd), (26, .istore 5), (28, .iload_n 2), (29, .ifCond .le 17), (32, .iload 5), (34, .aload_n 1), (35, .getfield 85), (38, .iload 4), (40, .iconst 1), (41, .isub), (42, .iaload), (43, .iadd), (44, .istore 5), (46, .iload_n 2), (47, .iconst 1), (48, .iadd), (49, .aload_n 0), (50, .getfield 21), (53, .getfield 82), (56, .if_icmp .ge 17), (59, .iload 5), (61, .aload_n 1), (62, .getfield 85), (65, .iload 4), (67, .iconst 1), (68, .iadd), (69, .iaload), (70, .iadd), (71, .istore 5), (73, .iload_n 3), (74, .iconst 1), (75, .iadd), (76, .aload_n 0), (77, .getfield 21), (80, .getfield 79), (83, .if_icmp .ge 17), (86, .iload 5), (88, .aload_n 1), (89, .getfield 85), (92, .iload 4), (94, .iconst 5), (95, .iadd), (96, .iaload), (97, .iadd), (98, .istore 5), (100, .iload 5), (102, .ireturn)])
theorem mok_X0_iceAround : MOK mX0_iceAround 3 := ⟨tbl_ok (by decide +kernel), wm_981, by decide +kernel, rfl, ⟨by decide +kernel, by decide +kernel, by decide +kernel⟩, wm_154, by decide⟩
def mX0_workOut : pM := (0, yX0_workOut, prog_2_method_8_code, 6, (Option.some FieldType.int), [(0, .iconst 0), (1, .istore_n 3), (2, .iload_n 1), (3, .istore 4), (5, .iload 4), (7, .iload_n 2), (8, .if_icmp .ge 122), (11, .iload_n 3), (12, .bipush 32), (14, .if_icmp .ge 116), (17, .aload_n 0), (18, .getfield 21), (21, .getfield 117), (24, .iload 4), (26, .iaload), (27, .istore 5), (29, .iload 5), (31, .ifCond .lt 17), (34, .aload_n 0), (35, .getfield 18), (38, .iload_n 3), (39, .iload 5), (41, .iastore), (42, .iinc 3 1), (45, .goto 79), (48, .iload 5), (50, .sipush (-146)), (53, .if_icmp .gt 21), (56, .aload_n 0), (57, .getfield 18), (60, .iload_n 3), (61, .aload_n 0), (62, .iload 5), (64, .invokevirtual 122), (67, .iastore), (68, .iinc 3 1), (71, .goto 53), (74, .iload_n 3), (75, .iload 5), (77, .sipush (-145)), (80, .if_icmp .ne 7), (83, .iconst 0), (84, .goto 4), (87, .iconst 1), (88, .isub), (89, .istore_n 3), (90, .iload_n 3), (91, .iconst 1), (92, .if_icmp .ge 5), (95, .iconst 0), (96, .ireturn), (97, .aload_n 0), (98, .getfield 18), (101, .iload_n 3), (102, .iconst 1), (103, .isub), (104, .iload 5), (106, .aload_n 0), (107, .getfield 18), (110, .iload_n 3), (111, .iconst 1), (112, .isub), (113, .iaload), (114, .aload_n 0), (115, .getfield 18), (118, .iload_n 3), (119, .iaload), (120, .invokestatic 126), (123, .iastore), (124, .iinc 4 1), (127, .goto (-122)), (130, .iload_n 3), (131, .iconst 1), (132, .if_icmp .ne 12), (135, .aload_n 0), (136, .getfield 18), (139, .iconst 0), (140, .iaload), (141, .goto 4), (144, .iconst 0), (145, .ireturn)])
theorem mok_X0_workOut : MOK mX0_workOut 2 := ⟨tbl_ok (by decide +kernel), wm_985, by decide +kernel, rfl, ⟨by decide +kernel, by decide +kernel, by decide +kernel⟩, wm_154, by decide⟩
def mX0_look : pM := (0, yX0_look, prog_2_method_9_code, 2, (Option.some FieldType.int), [(0, .iload_n 1), (1, .ineg), (2, .tableswitch 41 146 148 #[26, 31, 36]), (28, .aload_n 0), (29, .getfield 88), (32, .ireturn), (33, .aload_n 0), (34, .getfield 76), (37, .ireturn), (38, .aload_n 0), (39, .getfield 90), (42, .ireturn), (43, .aload_n 0), (44, .getfield 97), (47, .ireturn)])
theorem mok_X0_look : MOK mX0_look 1 := ⟨tbl_ok (by decide +kernel), wm_989, by decide +kernel, rfl, ⟨by decide +kernel, by decide +kernel, by decide +kernel⟩, wm_154, by decide⟩
def mX0_join : pM := (0, yX0_join, prog_2_method_10_code, 3, (Option.some FieldType.int), [(0, .iload_n 0), (1, .ineg), (2, .lookupswitch 187 #[(37, 114), (42, 98), (43, 90), (45, 94), (47, 102), (60, 126), (61, 148), (62, 137), (143, 173), (144, 159)]), (92, .iload_n 1), (93, .iload_n 2), (94, .iadd), (95, .ireturn), (96, .iload_n 1), (97, .iload_n 2), (98, .isub), (99, .ireturn), (100, .iload_n 1), (101, .iload_n 2), (102, .imul), (103, .ireturn), (104, .iload_n 2), (105, .ifCond .ne 7), (108, .iconst 0), (109, .goto 6), (112, .iload_n 1), (113, .iload_n 2), (114, .idiv), (115, .ireturn), (116, .iload_n 2), (117, .ifCond .ne 7), (120, .iconst 0), (121, .goto 6), (124, .iload_n 1), (125, .iload_n 2), (126, .irem), (127, .ireturn), (128, .iload_n 1), (129, .iload_n 2), (130, .if_icmp .ge 7), (133, .iconst 1), (134, .goto 4), (137, .iconst 0), (138, .ireturn), (139, .iload_n 1), (140, .iload_n 2), (141, .if_icmp .le 7), (144, .iconst 1), (145, .goto 4), (148, .iconst 0), (149, .ireturn), (150, .iload_n 1), (151, .iload_n 2), (152, .if_icmp .ne 7), (155, .iconst 1), (156, .goto 4), (159, .iconst 0), (160, .ireturn), (161, .iload_n 1), (162, .ifCond .eq 11), (165, .iload_n 2), (166, .ifCond .eq 7), (169, .iconst 1), (170, .goto 4), (173, .iconst 0), (174, .ireturn), (175, .iload_n 1), (176, .ifCond .ne 7), (179, .iload_n 2), (180, .ifCond .eq 7), (183, .iconst 1), (184, .goto 4), (187, .iconst 0), (188, .ireturn), (189, .iload_n 1), (190, .ifCond .ne 7), (193, .iconst 1), (194, .goto 4), (197, .iconst 0), (198, .ireturn)])
theorem mok_X0_join : MOK mX0_join 3 := ⟨tbl_ok (by decide +kernel), wm_992, by decide +kernel, rfl, ⟨by decide +kernel, by decide +kernel, by decide +kernel⟩, wm_154, by decide⟩
def mX0_isTooHeavy : pM := (0, yX0_isTooHeavy, prog_2_method_11_code, 3, (Option.some FieldType.boolean), [(0, .aload_n 0), (1, .getfield 21), (4, .getfield 130), (7, .iload_n 2), (8, .baload), (9, .ifCond .ne 22), (12, .aload_n 0), (13, .getfield 9), (16, .iload_n 2), (17, .iaload), (18, .aload_n 1), (19, .getfield 85), (22, .iload_n 2), (23, .iaload), (24, .if_icmp .le 7), (27, .iconst 1), (28, .goto 4), (31, .iconst 0), (32, .ireturn)])
theorem mok_X0_isTooHeavy : MOK mX0_isTooHeavy 2 := ⟨tbl_ok (by decide +kernel), wm_1003, by decide +kernel, rfl, ⟨by decide +kernel, by decide +kernel, by decide +kernel⟩, wm_154, by decide⟩
def mX0_breakCells : pM := (0, yX0_breakCells, prog_2_method_12_code, 6, (Option.some FieldType.boolean), [(0, .iconst 0), (1, .istore 4), (3, .iconst 0), (4, .istore 5), (6, .iload 5), (8, .bipush 25), (10, .if_icmp .ge 39), (13, .aload_n 0), (14, .aload_n 1), (15, .iload 5), (17, .invokevirtual 134), (20, .ifCond .eq 23), (23, .iconst 1), (24, .istore 4), (26, .aload_n 1), (27, .getfield 85), (30, .iload 5), (32, .iconst 0), (33, .iastore), (34, .aload_n 0), (35, .aload_n 1), (36, .iload 5), (38, .iload_n 2), (39, .iload_n 3), (40, .invokevirtual 138), (43, .iinc 5 1), (46, .goto (-40)), (49, .iload 4), (51, .ireturn)])
theorem mok_X0_breakCells : MOK mX0_breakCells 3 := ⟨tbl_ok (by decide +kernel), wm_999, by decide +kernel, rfl, ⟨by decide +kernel, by decide +kernel, by decide +kernel⟩, wm_154, by decide⟩
def mX0_sink : pM := (0, yX0_sink, prog_2_method_13_code, 6, (Option.none : Option FieldType), [(0, .iconst 0), (1, .istore 5), (3, .iload 5), (5, .aload_n 0), (6, .getfield 21), (9, .getfield 50), (12, .if_icmp .ge 67), (15, .aload_n 1), (16, .iload 5), (18, .invokevirtual 53), (21, .ifCond .eq 52), (24, .aload_n 1), (25, .getfield 57), (28, .iload 5), (30, .iaload), (31, .iload_n 2), (32, .if_icmp .ne 41), (35, .aload_n 1), (36, .getfield 142), (39, .iload 5), (41, .aload_n 1), (42, .getfield 45), (45, .iastore), (46, .aload_n 1), (47, .getfield 145), (50, .iload 5), (52, .iload_n 3), (53, .iastore), (54, .aload_n 1), (55, .getfield 148), (58, .iload 5), (60, .iload 4), (62, .iastore), (63, .aload_n 1), (64, .dup), (65, .getfield 151), (68, .iconst 1), (69, .iadd), (70, .putfield 151), (73, .iinc 5 1), (76, .goto (-73)), (79, .return_)])
theorem mok_X0_sink : MOK mX0_sink 4 := ⟨tbl_ok (by decide +kernel), wm_1007, by decide +kernel, rfl, ⟨by decide +kernel, by decide +kernel, by decide +kernel⟩, wm_154, by decide⟩
def mX1_init : pM := (1, yX1_init, prog_3_method_1_code, 3, (Option.none : Option FieldType), [(0, .aload_n 0), (1, .invokespecial 3), (4, .aload_n 0), (5, .aload_n 1), (6, .putfield 9), (9, .aload_n 0), (10, .aload_n 2), (11, .putfield 15), (14, .return_)])
theorem mok_X1_init : MOK mX1_init 2 := ⟨tbl_ok (by decide +kernel), wm_520, by decide +kernel, rfl, ⟨by decide +kernel, by decide +kernel, by decide +kernel⟩, wm_159, by decide⟩
def mX1_mostUp : pM := (1, yX1_mostUp, prog_3_method_2_code, 4, (Option.some FieldType.int), [(0, .aload_n 0), (1, .iload_n 2), (2, .putfield 19), (5, .aload_n 0), (6, .iload_n 3), (7, .putfield 23), (10, .aload_n 0), (11, .iconst (-1)), (12, .putfield 26), (15, .aload_n 0), (16, .getfield 15), (19, .iconst 0), (20, .aaload), (21, .aload_n 1), (22, .invokevirtual 29), (25, .aload_n 0), (26, .iconst 0), (27, .iconst 0), (28, .aload_n 1), (29, .aload_n 0), (30, .getfield 9), (33, .getfield 35), (36, .invokevirtual 41), (39, .invokevirtual 45), (42, .ireturn)])
theorem mok_X1_mostUp : MOK mX1_mostUp 3 := ⟨tbl_ok (by decide +kernel), wm_1072, by decide +kernel, rfl, ⟨by decide +kernel, by decide +kernel, by decide +kernel⟩, wm_159, by decide⟩
def mX1_chooseMost : pM := (1, yX1_chooseMost, prog_3_method_3_code, 7, (Option.some FieldType.int), [(0, .iconst (-1)), (1, .istore 4), (3, .iconst 0), (4, .istore 5), (6, .iload 5), (8, .bipush 6), (10, .if_icmp .ge 72), (13, .iload 4), (15, .iload_n 3), (16, .if_icmp .ge 66), (19, .aload_n 0), (20, .getfield 19), (23, .iload 5), (25, .ishr), (26, .iconst 1), (27, .iand), (28, .iconst 1), (29, .if_icmp .ne 47), (32, .aload_n 0), (33, .iload_n 1), (34, .iload 5), (36, .iload_n 2), (37, .iload 4), (39, .invokestatic 49), (42, .iload_n 3), (43, .invokevirtual 55), (46, .istore 6), (48, .iload 6), (50, .iload 4), (52, .if_icmp .le 24), (55, .iload 6), (57, .istore 4), (59, .aload_n 0), (60, .iload_n 1), (61, .ifCond .ne 8), (64, .iload 5), (66, .goto 7), (69, .aload_n 0), (70, .getfield 26), (73, .putfield 26), (76, .iinc 5 1), (79, .goto (-73)), (82, .iload 4), (84, .ireturn)])
theorem mok_X1_chooseMost : MOK mX1_chooseMost 3 := ⟨tbl_ok (by decide +kernel), wm_1078, by decide +kernel, rfl, ⟨by decide +kernel, by decide +kernel, by decide +kernel⟩, wm_159, by decide⟩
def mX1_chooseLeast : pM := (1, yX1_chooseLeast, prog_3_method_4_code, 6, (Option.some FieldType.int), [(0, .bipush 7), (2, .istore 4), (4, .iconst 0), (5, .istore 5), (7, .iload 5), (9, .bipush 6), (11, .if_icmp .ge 49), (14, .iload 4), (16, .iload_n 2), (17, .if_icmp .le 43), (20, .aload_n 0), (21, .getfield 19), (24, .iload 5), (26, .ishr), (27, .iconst 1), (28, .iand), (29, .iconst 1), (30, .if_icmp .ne 24), (33, .iload 4), (35, .aload_n 0), (36, .iload_n 1), (37, .iload 5), (39, .iload_n 2), (40, .iload_n 3), (41, .iload 4), (43, .invokestatic 59), (46, .invokevirtual 55), (49, .invokestatic 59), (52, .istore 4), (54, .iinc 5 1), (57, .goto (-50)), (60, .iload 4), (62, .ireturn)])
theorem mok_X1_chooseLeast : MOK mX1_chooseLeast 3 := ⟨tbl_ok (by decide +kernel), wm_1088, by decide +kernel, rfl, ⟨by decide +kernel, by decide +kernel, by decide +kernel⟩, wm_159, by decide⟩
def mX1_tryTune : pM := (1, yX1_tryTune, prog_3_method_5_code, 7, (Option.some FieldType.int), [(0, .iload_n 1), (1, .iconst 1), (2, .iadd), (3, .aload_n 0), (4, .getfield 15), (7, .arraylength), (8, .if_icmp .lt 5), (11, .iconst 0), (12, .ireturn), (13, .aload_n 0), (14, .getfield 15), (17, .iload_n 1), (18, .iconst 1), (19, .iadd), (20, .aaload), (21, .astore 5), (23, .aload 5), (25, .aload_n 0), (26, .getfield 15), (29, .iload_n 1), (30, .aaload), (31, .invokevirtual 29), (34, .aload_n 0), (35, .getfield 9), (38, .aload 5), (40, .iload_n 2), (41, .invokevirtual 62), (44, .aload 5), (46, .aload_n 0), (47, .getfield 9), (50, .getfield 35), (53, .invokevirtual 41), (56, .istore 6), (58, .iload_n 1), (59, .iconst 1), (60, .iadd), (61, .aload_n 0), (62, .getfield 23), (65, .if_icmp .ge 9), (68, .iload 6), (70, .iload_n 3), (71, .if_icmp .gt 6), (74, .iload 6), (76, .ireturn), (77, .iload_n 1), (78, .iconst 2), (79, .irem), (80, .ifCond .ne 16), (83, .aload_n 0), (84, .iload_n 1), (85, .iconst 1), (86, .iadd), (87, .iload_n 3), (88, .iload 4), (90, .invokevirtual 66), (93, .goto 13), (96, .aload_n 0), (97, .iload_n 1), (98, .iconst 1), (99, .iadd), (100, .iload_n 3), (101, .iload 4), (103, .invokevirtual 45), (106, .ireturn)])
theorem mok_X1_tryTune : MOK mX1_tryTune 4 := ⟨tbl_ok (by decide +kernel), wm_1083, by decide +kernel, rfl, ⟨by decide +kernel, by decide +kernel, by decide +kernel⟩, wm_159, by decide⟩
def mX2_init : pM := (2, yX2_init, prog_4_method_1_code, 1, (Option.none : Option FieldType), [(0, .aload_n 0), (1, .invokespecial 3), (4, .aload_n 0), (5, .bipush 25), (7, .newarray .int), (9, .putfield 9), (12, .aload_n 0), (13, .bipush 6), (15, .newarray .int), (17, .putfield 15), (20, .aload_n 0), (21, .bipush 6), (23, .newarray .int), (25, .putfield 18), (28, .aload_n 0), (29, .bipush 6), (31, .newarray .int), (33, .putfield 21), (36, .aload_n 0), (37, .bipush 6), (39, .newarray .int), (41, .putfield 24), (44, .return_)])
theorem mok_X2_init : MOK mX2_init 0 := ⟨tbl_ok (by decide +kernel), wm_401, by decide +kernel, rfl, ⟨by decide +kernel, by decide +kernel, by decide +kernel⟩, wm_156, by decide⟩
def mX2_begin : pM := (2, yX2_begin, prog_4_method_2_code, 3, (Option.none : Option FieldType), [(0, .aload_n 0), (1, .iconst 0), (2, .putfield 27), (5, .aload_n 0), (6, .iconst 0), (7, .putfield 31), (10, .iconst 0), (11, .istore_n 2), (12, .iload_n 2), (13, .bipush 25), (15, .if_icmp .ge 20), (18, .aload_n 0), (19, .getfield 9), (22, .iload_n 2), (23, .aload_n 1), (24, .iload_n 2), (25, .invokevirtual 34), (28, .iastore), (29, .iinc 2 1), (32, .goto (-20)), (35, .iconst 0), (36, .istore_n 2), (37, .iload_n 2), (38, .bipush 6), (40, .if_icmp .ge 54), (43, .aload_n 0), (44, .getfield 15), (47, .iload_n 2), (48, .iload_n 2), (49, .aload_n 1), (50, .getfield 40), (53, .if_icmp .ge 12), (56, .aload_n 1), (57, .getfield 43), (60, .iload_n 2), (61, .iaload), (62, .goto 4), (65, .iconst 0), (66, .iastore), (67, .aload_n 0), (68, .getfield 18), (71, .iload_n 2), (72, .iconst (-1)), (73, .iastore), (74, .aload_n 0), (75, .getfield 21), (78, .iload_n 2), (79, .iconst (-1)), (80, .iastore), (81, .aload_n 0), (82, .getfield 24), (85, .iload_n 2), (86, .iconst (-1)), (87, .iastore), (88, .iinc 2 1), (91, .goto (-54)), (94, .return_)])
theorem mok_X2_begin : MOK mX2_begin 1 := ⟨tbl_ok (by decide +kernel), wm_585, by decide +kernel, rfl, ⟨by decide +kernel, by decide +kernel, by decide +kernel⟩, wm_156, by decide⟩
def mX2_copy : pM := (2, yX2_copy, prog_4_method_3_code, 2, (Option.none : Option FieldType), [(0, .aload_n 0), (1, .aload_n 1), (2, .getfield 27), (5, .putfield 27), (8, .aload_n 0), (9, .aload_n 1), (10, .getfield 31), (13, .putfield 31), (16, .aload_n 1), (17, .getfield 9), (20, .iconst 0), (21, .aload_n 0), (22, .getfield 9), (25, .iconst 0), (26, .bipush 25), (28, .invokestatic 46), (31, .aload_n 1), (32, .getfield 15), (35, .iconst 0), (36, .aload_n 0), (37, .getfield 15), (40, .iconst 0), (41, .bipush 6), (43, .invokestatic 46), (46, .aload_n 1), (47, .getfield 18), (50, .iconst 0), (51, .aload_n 0), (52, .getfield 18), (55, .iconst 0), (56, .bipush 6), (58, .invokestatic 46), (61, .aload_n 1), (62, .getfield 21), (65, .iconst 0), (66, .aload_n 0), (67, .getfield 21), (70, .iconst 0), (71, .bipush 6), (73, .invokestatic 46), (76, .aload_n 1), (77, .getfield 24), (80, .iconst 0), (81, .aload_n 0), (82, .getfield 24), (85, .iconst 0), (86, .bipush 6), (88, .invokestatic 46), (91, .return_)])
theorem mok_X2_copy : MOK mX2_copy 1 := ⟨tbl_ok (by decide +kernel), wm_948, by decide +kernel, rfl, ⟨by decide +kernel, by decide +kernel, by decide +kernel⟩, wm_156, by decide⟩
def mX2_isUp : pM := (2, yX2_isUp, prog_4_method_4_code, 2, (Option.some FieldType.boolean), [(0, .aload_n 0), (1, .getfield 18), (4, .iload_n 1), (5, .iaload), (6, .iconst (-1)), (7, .if_icmp .ne 7), (10, .iconst 1), (11, .goto 4), (14, .iconst 0), (15, .ireturn)])
theorem mok_X2_isUp : MOK mX2_isUp 1 := ⟨tbl_ok (by decide +kernel), wm_922, by decide +kernel, rfl, ⟨by decide +kernel, by decide +kernel, by decide +kernel⟩, wm_156, by decide⟩
def mX2_countUp : pM := (2, yX2_countUp, prog_4_method_5_code, 2, (Option.some FieldType.int), [(0, .aload_n 1), (1, .getfield 40), (4, .aload_n 0), (5, .getfield 31), (8, .isub), (9, .ireturn)])
theorem mok_X2_countUp : MOK mX2_countUp 1 := ⟨tbl_ok (by decide +kernel), wm_1011, by decide +kernel, rfl, ⟨by decide +kernel, by decide +kernel, by decide +kernel⟩, wm_156, by decide⟩
def mX2_loadOf : pM := (2, yX2_loadOf, prog_4_method_6_code, 5, (Option.some FieldType.int), [(0, .iconst 0), (1, .istore_n 3), (2, .iconst 0), (3, .istore 4), (5, .iload 4), (7, .aload_n 2), (8, .getfield 40), (11, .if_icmp .ge 39), (14, .aload_n 0), (15, .iload 4), (17, .invokevirtual 52), (20, .ifCond .eq 24), (23, .aload_n 0), (24, .getfield 15), (27, .iload 4), (29, .iaload), (30, .iload_n 1), (31, .if_icmp .ne 13), (34, .iload_n 3), (35, .aload_n 2), (36, .getfield 56), (39, .iload 4), (41, .iaload), (42, .iadd), (43, .istore_n 3), (44, .iinc 4 1), (47, .goto (-42)), (50, .iload_n 3), (51, .ireturn)])
theorem mok_X2_loadOf : MOK mX2_loadOf 2 := ⟨tbl_ok (by decide +kernel), wm_918, by decide +kernel, rfl, ⟨by decide +kernel, by decide +kernel, by decide +kernel⟩, wm_156, by decide⟩
def mX2_thicken : pM := (2, yX2_thicken, prog_4_method_7_code, 3, (Option.none : Option FieldType), [(0, .iconst 0), (1, .istore_n 2), (2, .iload_n 2), (3, .bipush 25), (5, .if_icmp .ge 32), (8, .aload_n 0), (9, .getfield 9), (12, .iload_n 2), (13, .iconst 0), (14, .bipush 99), (16, .aload_n 0), (17, .getfield 9), (20, .iload_n 2), (21, .iaload), (22, .iload_n 1), (23, .iadd), (24, .invokestatic 59), (27, .invokestatic 65), (30, .iastore), (31, .iinc 2 1), (34, .goto (-32)), (37, .return_)])
theorem mok_X2_thicken : MOK mX2_thicken 1 := ⟨tbl_ok (by decide +kernel), wm_1126, by decide +kernel, rfl, ⟨by decide +kernel, by decide +kernel, by decide +kernel⟩, wm_156, by decide⟩
def mX3_init : pM := (3, yX3_init, prog_5_method_1_code, 3, (Option.none : Option FieldType), [(0, .aload_n 0), (1, .invokespecial 3), (4, .aload_n 0), (5, .bipush 6), (7, .newarray .int), (9, .putfield 9), (12, .aload_n 0), (13, .bipush 6), (15, .newarray .int), (17, .putfield 15), (20, .aload_n 0), (21, .aload_n 1), (22, .putfield 18), (25, .aload_n 0), (26, .aload_n 2), (27, .putfield 22), (30, .return_)])
theorem mok_X3_init : MOK mX3_init 2 := ⟨tbl_ok (by decide +kernel), wm_496, by decide +kernel, rfl, ⟨by decide +kernel, by decide +kernel, by decide +kernel⟩, wm_158, by decide⟩
def mX3_fewestIn : pM := (3, yX3_fewestIn, prog_5_method_2_code, 3, (Option.some FieldType.int), [(0, .aload_n 0), (1, .bipush 7), (3, .putfield 26), (6, .aload_n 0), (7, .getfield 22), (10, .iconst 0), (11, .aaload), (12, .aload_n 1), (13, .invokevirtual 30), (16, .aload_n 0), (17, .iconst 0), (18, .iload_n 2), (19, .invokevirtual 36), (22, .aload_n 0), (23, .getfield 26), (26, .ireturn)])
theorem mok_X3_fewestIn : MOK mX3_fewestIn 2 := ⟨tbl_ok (by decide +kernel), wm_1047, by decide +kernel, rfl, ⟨by decide +kernel, by decide +kernel, by decide +kernel⟩, wm_158, by decide⟩
def mX3_arrange : pM := (3, yX3_arrange, prog_5_method_3_code, 5, (Option.none : Option FieldType), [(0, .aload_n 0), (1, .getfield 22), (4, .iload_n 1), (5, .aaload), (6, .astore_n 3), (7, .iload_n 2), (8, .ifCond .eq 9), (11, .iload_n 1), (12, .bipush 6), (14, .if_icmp .lt 27), (17, .aload_n 0), (18, .aload_n 3), (19, .getfield 40), (22, .putfield 26), (25, .aload_n 0), (26, .getfield 9), (29, .iconst 0), (30, .aload_n 0), (31, .getfield 15), (34, .iconst 0), (35, .bipush 6), (37, .invokestatic 43), (40, .return_), (41, .iconst 0), (42, .istore 4), (44, .iload 4), (46, .bipush 6), (48, .if_icmp .ge 105), (51, .aload_n 0), (52, .getfield 22), (55, .iconst 0), (56, .aaload), (57, .getfield 40), (60, .aload_n 0), (61, .getfield 26), (64, .if_icmp .ge 89), (67, .iload_n 2), (68, .iload 4), (70, .ishr), (71, .iconst 1), (72, .iand), (73, .iconst 1), (74, .if_icmp .ne 73), (77, .aload_n 0), (78, .getfield 9), (81, .iload_n 1), (82, .iload 4), (84, .iastore), (85, .aload_n 0), (86, .getfield 22), (89, .iload_n 1), (90, .iconst 1), (91, .iadd), (92, .aaload), (93, .aload_n 3), (94, .invokevirtual 30), (97, .aload_n 0), (98, .getfield 18), (101, .aload_n 0), (102, .getfield 22), (105, .iload_n 1), (106, .iconst 1), (107, .iadd), (108, .aaload), (109, .iload 4), (111, .invokevirtual 49), (114, .aload_n 0), (115, .getfield 22), (118, .iload_n 1), (119, .iconst 1), (120, .iadd), (121, .aaload), (122, .getfield 40), (125, .aload_n 0), (126, .getfield 26), (129, .if_icmp .ge 18), (132, .aload_n 0), (133, .iload_n 1), (134, .iconst 1), (135, .iadd), (136, .iload_n 2), (137, .iconst 1), (138, .iload 4), (140, .ishl), (141, .iconst (-1)), (142, .ixor), (143, .iand), (144, .invokevirtual 36), (147, .iinc 4 1), (150, .goto (-106)), (153, .return_)])
theorem mok_X3_arrange : MOK mX3_arrange 2 := ⟨tbl_ok (by decide +kernel), wm_1052, by decide +kernel, rfl, ⟨by decide +kernel, by decide +kernel, by decide +kernel⟩, wm_158, by decide⟩
def mX3_fewestPlanks : pM := (3, yX3_fewestPlanks, prog_5_method_4_code, 7, (Option.some FieldType.int), [(0, .aload_n 0), (1, .getfield 22), (4, .iconst 0), (5, .aaload), (6, .astore_n 3), (7, .aload_n 3), (8, .aload_n 1), (9, .invokevirtual 30), (12, .iconst 0), (13, .istore 4), (15, .iconst 0), (16, .istore 5), (18, .iload 5), (20, .aload_n 0), (21, .getfield 18), (24, .getfield 55), (27, .getfield 59), (30, .iload_n 2), (31, .iaload), (32, .if_icmp .ge 76), (35, .aload_n 0), (36, .getfield 18), (39, .aload_n 3), (40, .invokevirtual 64), (43, .aload_n 0), (44, .getfield 18), (47, .aload_n 3), (48, .iload_n 2), (49, .iload 5), (51, .invokevirtual 67), (54, .aload_n 3), (55, .dup), (56, .getfield 71), (59, .iconst 1), (60, .iadd), (61, .putfield 71), (64, .iconst 0), (65, .istore 6), (67, .iload 6), (69, .bipush 25), (71, .if_icmp .ge 31), (74, .aload_n 0), (75, .getfield 18), (78, .aload_n 3), (79, .iload 6), (81, .invokevirtual 73), (84, .ifCond .eq 12), (87, .iload 4), (89, .iconst 1), (90, .iload 6), (92, .ishl), (93, .ior), (94, .istore 4), (96, .iinc 6 1), (99, .goto (-32)), (102, .iinc 5 1), (105, .goto (-87)), (108, .iload 4), (110, .invokestatic 77), (113, .istore 5), (115, .iload 5), (117, .iconst 2), (118, .if_icmp .le 5), (121, .iconst (-1)), (122, .ireturn), (123, .aload_n 0), (124, .iload 4), (126, .invokevirtual 83), (129, .iload 5), (131, .ireturn)])
theorem mok_X3_fewestPlanks : MOK mX3_fewestPlanks 2 := ⟨tbl_ok (by decide +kernel), wm_1097, by decide +kernel, rfl, ⟨by decide +kernel, by decide +kernel, by decide +kernel⟩, wm_158, by decide⟩
def mX3_listCells : pM := (3, yX3_listCells, prog_5_method_5_code, 4, (Option.none : Option FieldType), [(0, .iconst 0), (1, .istore_n 2), (2, .iconst 0), (3, .istore_n 3), (4, .iload_n 3), (5, .bipush 25), (7, .if_icmp .ge 33), (10, .iload_n 2), (11, .iconst 2), (12, .if_icmp .ge 28), (15, .iload_n 1), (16, .iload_n 3), (17, .ishr), (18, .iconst 1), (19, .iand), (20, .iconst 1), (21, .if_icmp .ne 13), (24, .aload_n 0), (25, .getfield 15), (28, .iload_n 2), (29, .iload_n 3), (30, .iastore), (31, .iinc 2 1), (34, .iinc 3 1), (37, .goto (-33)), (40, .return_)])
theorem mok_X3_listCells : MOK mX3_listCells 1 := ⟨tbl_ok (by decide +kernel), wm_1105, by decide +kernel, rfl, ⟨by decide +kernel, by decide +kernel, by decide +kernel⟩, wm_158, by decide⟩
def mX3_bestSilence : pM := (3, yX3_bestSilence, prog_5_method_6_code, 5, (Option.some FieldType.int), [(0, .iconst 0), (1, .istore_n 3), (2, .aload_n 0), (3, .bipush 7), (5, .putfield 26), (8, .aload_n 0), (9, .getfield 22), (12, .iconst 0), (13, .aaload), (14, .aload_n 1), (15, .invokevirtual 30), (18, .iconst 0), (19, .istore 4), (21, .iload 4), (23, .bipush 8), (25, .if_icmp .gt 87), (28, .aload_n 0), (29, .getfield 22), (32, .iconst 1), (33, .aaload), (34, .aload_n 0), (35, .getfield 22), (38, .iconst 0), (39, .aaload), (40, .invokevirtual 30), (43, .aload_n 0), (44, .getfield 18), (47, .aload_n 0), (48, .getfield 22), (51, .iconst 1), (52, .aaload), (53, .iload_n 2), (54, .invokevirtual 49), (57, .aload_n 0), (58, .getfield 22), (61, .iconst 1), (62, .aaload), (63, .getfield 40), (66, .aload_n 0), (67, .getfield 26), (70, .if_icmp .ge 19), (73, .aload_n 0), (74, .aload_n 0), (75, .getfield 22), (78, .iconst 1), (79, .aaload), (80, .getfield 40), (83, .putfield 26), (86, .iload 4), (88, .istore_n 3), (89, .aload_n 0), (90, .getfield 18), (93, .aload_n 0), (94, .getfield 22), (97, .iconst 0), (98, .aaload), (99, .iconst (-1)), (100, .iload 4), (102, .invokevirtual 87), (105, .pop), (106, .iinc 4 1), (109, .goto (-88)), (112, .iload_n 3), (113, .ireturn)])
theorem mok_X3_bestSilence : MOK mX3_bestSilence 2 := ⟨tbl_ok (by decide +kernel), wm_1113, by decide +kernel, rfl, ⟨by decide +kernel, by decide +kernel, by decide +kernel⟩, wm_158, by decide⟩
def mX3_firstBreak : pM := (3, yX3_firstBreak, prog_5_method_7_code, 6, (Option.some FieldType.int), [(0, .aload_n 0), (1, .getfield 22), (4, .iconst 0), (5, .aaload), (6, .astore 4), (8, .aload 4), (10, .aload_n 1), (11, .invokevirtual 30), (14, .aload 4), (16, .iload_n 3), (17, .invokevirtual 91), (20, .iconst 0), (21, .istore 5), (23, .iload 5), (25, .aload_n 0), (26, .getfield 18), (29, .getfield 55), (32, .getfield 59), (35, .iload_n 2), (36, .iaload), (37, .if_icmp .ge 27), (40, .aload_n 0), (41, .getfield 18), (44, .aload 4), (46, .iload_n 2), (47, .iload 5), (49, .invokevirtual 87), (52, .ifCond .eq 6), (55, .iload 5), (57, .ireturn), (58, .iinc 5 1), (61, .goto (-38)), (64, .iconst (-1)), (65, .ireturn)])
theorem mok_X3_firstBreak : MOK mX3_firstBreak 3 := ⟨tbl_ok (by decide +kernel), wm_1122, by decide +kernel, rfl, ⟨by decide +kernel, by decide +kernel, by decide +kernel⟩, wm_158, by decide⟩
def mX4_init : pM := (4, yX4_init, prog_6_method_1_code, 2, (Option.none : Option FieldType), [(0, .aload_n 0), (1, .invokespecial 3), (4, .aload_n 0), (5, .bipush 41), (7, .anewarray 9), (10, .putfield 11), (13, .iconst 0), (14, .istore_n 1), (15, .iload_n 1), (16, .bipush 41), (18, .if_icmp .ge 22), (21, .aload_n 0), (22, .getfield 11), (25, .iload_n 1), (26, .new 9), (29, .dup), (30, .invokespecial 15), (33, .aastore), (34, .iinc 1 1), (37, .goto (-22)), (40, .return_)])
theorem mok_X4_init : MOK mX4_init 0 := ⟨tbl_ok (by decide +kernel), wm_394, by decide +kernel, rfl, ⟨by decide +kernel, by decide +kernel, by decide +kernel⟩, wm_155, by decide⟩
def mX4_now : pM := (4, yX4_now, prog_6_method_2_code, 1, (Option.some (FieldType.object "IceTunes$Evening")), [(0, .aload_n 0), (1, .getfield 11), (4, .aload_n 0), (5, .getfield 16), (8, .aload_n 0), (9, .getfield 20), (12, .iadd), (13, .bipush 41), (15, .irem), (16, .aaload), (17, .areturn)])
theorem mok_X4_now : MOK mX4_now 0 := ⟨tbl_ok (by decide +kernel), wm_581, by decide +kernel, rfl, ⟨by decide +kernel, by decide +kernel, by decide +kernel⟩, wm_155, by decide⟩
def mX4_goOn : pM := (4, yX4_goOn, prog_6_method_3_code, 2, (Option.some (FieldType.object "IceTunes$Evening")), [(0, .aload_n 0), (1, .invokevirtual 23), (4, .astore_n 1), (5, .aload_n 0), (6, .iconst 0), (7, .putfield 27), (10, .aload_n 0), (11, .getfield 20), (14, .bipush 40), (16, .if_icmp .ge 16), (19, .aload_n 0), (20, .dup), (21, .getfield 20), (24, .iconst 1), (25, .iadd), (26, .putfield 20), (29, .goto 16), (32, .aload_n 0), (33, .aload_n 0), (34, .getfield 16), (37, .iconst 1), (38, .iadd), (39, .bipush 41), (41, .irem), (42, .putfield 16), (45, .aload_n 0), (46, .invokevirtual 23), (49, .aload_n 1), (50, .invokevirtual 30), (53, .aload_n 0), (54, .invokevirtual 23), (57, .areturn)])
theorem mok_X4_goOn : MOK mX4_goOn 0 := ⟨tbl_ok (by decide +kernel), wm_943, by decide +kernel, rfl, ⟨by decide +kernel, by decide +kernel, by decide +kernel⟩, wm_155, by decide⟩
def mX4_takeBack : pM := (4, yX4_takeBack, prog_6_method_4_code, 1, (Option.some FieldType.boolean), [(0, .aload_n 0), (1, .getfield 20), (4, .ifCond .ne 5), (7, .iconst 0), (8, .ireturn), (9, .aload_n 0), (10, .dup), (11, .getfield 20), (14, .iconst 1), (15, .isub), (16, .putfield 20), (19, .aload_n 0), (20, .dup), (21, .getfield 27), (24, .iconst 1), (25, .iadd), (26, .putfield 27), (29, .iconst 1), (30, .ireturn)])
theorem mok_X4_takeBack : MOK mX4_takeBack 0 := ⟨tbl_ok (by decide +kernel), wm_1027, by decide +kernel, rfl, ⟨by decide +kernel, by decide +kernel, by decide +kernel⟩, wm_155, by decide⟩
def mX4_doAgain : pM := (4, yX4_doAgain, prog_6_method_5_code, 1, (Option.some FieldType.boolean), [(0, .aload_n 0), (1, .getfield 27), (4, .ifCond .ne 5), (7, .iconst 0), (8, .ireturn), (9, .aload_n 0), (10, .dup), (11, .getfield 20), (14, .iconst 1), (15, .iadd), (16, .putfield 20), (19, .aload_n 0), (20, .dup), (21, .getfield 27), (24, .iconst 1), (25, .isub), (26, .putfield 27), (29, .iconst 1), (30, .ireturn)])
theorem mok_X4_doAgain : MOK mX4_doAgain 0 := ⟨tbl_ok (by decide +kernel), wm_1035, by decide +kernel, rfl, ⟨by decide +kernel, by decide +kernel, by decide +kernel⟩, wm_155, by decide⟩
def mX4_forget : pM := (4, yX4_forget, prog_6_method_6_code, 1, (Option.none : Option FieldType), [(0, .aload_n 0), (1, .iconst 0), (2, .putfield 16), (5, .aload_n 0), (6, .iconst 0), (7, .putfield 20), (10, .aload_n 0), (11, .iconst 0), (12, .putfield 27), (15, .return_)])
theorem mok_X4_forget : MOK mX4_forget 0 := ⟨tbl_ok (by decide +kernel), wm_897, by decide +kernel, rfl, ⟨by decide +kernel, by decide +kernel, by decide +kernel⟩, wm_155, by decide⟩
def mX5_init : pM := (5, yX5_init, prog_7_method_1_code, 1, (Option.none : Option FieldType), [(0, .aload_n 0), (1, .invokespecial 3), (4, .aload_n 0), (5, .bipush 25), (7, .newarray .int), (9, .putfield 9), (12, .aload_n 0), (13, .bipush 25), (15, .newarray .boolean), (17, .putfield 15), (20, .aload_n 0), (21, .bipush 6), (23, .newarray .int), (25, .putfield 19), (28, .aload_n 0), (29, .bipush 6), (31, .newarray .int), (33, .putfield 22), (36, .aload_n 0), (37, .bipush 6), (39, .newarray .int), (41, .putfield 25), (44, .aload_n 0), (45, .bipush 48), (47, .newarray .byte), (49, .putfield 28), (52, .aload_n 0), (53, .bipush 6), (55, .newarray .int), (57, .putfield 32), (60, .aload_n 0), (61, .sipush 800), (64, .newarray .int), (66, .putfield 35), (69, .aload_n 0), (70, .bipush 7), (72, .newarray .int), (74, .putfield 38), (77, .aload_n 0), (78, .bipush 7), (80, .newarray .int), (82, .putfield 41), (85, .aload_n 0), (86, .invokevirtual 44), (89, .return_)])
theorem mok_X5_init : MOK mX5_init 0 := ⟨tbl_ok (by decide +kernel), wm_182, by decide +kernel, rfl, ⟨by decide +kernel, by decide +kernel, by decide +kernel⟩, wm_151, by decide⟩
def mX5_clear : pM := (5, yX5_clear, prog_7_method_2_code, 2, (Option.none : Option FieldType), [(0, .aload_n 0), (1, .iconst 0), (2, .putfield 47), (5, .aload_n 0), (6, .iconst 0), (7, .putfield 51), (10, .aload_n 0), (11, .iconst (-1)), (12, .putfield 54), (15, .iconst 0), (16, .istore_n 1), (17, .iload_n 1), (18, .bipush 25), (20, .if_icmp .ge 23), (23, .aload_n 0), (24, .getfield 9), (27, .iload_n 1), (28, .iconst (-1)), (29, .iastore), (30, .aload_n 0), (31, .getfield 15), (34, .iload_n 1), (35, .iconst 0), (36, .bastore), (37, .iinc 1 1), (40, .goto (-23)), (43, .aload_n 0), (44, .iconst 0), (45, .putfield 57), (48, .aload_n 0), (49, .iconst 0), (50, .putfield 60), (53, .aload_n 0), (54, .iconst 0), (55, .putfield 63), (58, .aload_n 0), (59, .iconst 0), (60, .putfield 67), (63, .aload_n 0), (64, .iconst 0), (65, .putfield 70), (68, .aload_n 0), (69, .iconst 0), (70, .putfield 73), (73, .iconst 0), (74, .istore_n 1), (75, .iload_n 1), (76, .bipush 6), (78, .if_icmp .gt 23), (81, .aload_n 0), (82, .getfield 38), (85, .iload_n 1), (86, .iconst 0), (87, .iastore), (88, .aload_n 0), (89, .getfield 41), (92, .iload_n 1), (93, .iconst 0), (94, .iastore), (95, .iinc 1 1), (98, .goto (-23)), (101, .return_)])
theorem mok_X5_clear : MOK mX5_clear 0 := ⟨tbl_ok (by decide +kernel), wm_187, by decide +kernel, rfl, ⟨by decide +kernel, by decide +kernel, by decide +kernel⟩, wm_151, by decide⟩
def mX5_hasCell : pM := (5, yX5_hasCell, prog_7_method_3_code, 3, (Option.some FieldType.boolean), [(0, .iload_n 1), (1, .ifCond .lt 27), (4, .iload_n 1), (5, .aload_n 0), (6, .getfield 47), (9, .if_icmp .ge 19), (12, .iload_n 2), (13, .ifCond .lt 15), (16, .iload_n 2), (17, .aload_n 0), (18, .getfield 51), (21, .if_icmp .ge 7), (24, .iconst 1), (25, .goto 4), (28, .iconst 0), (29, .ireturn)])
theorem mok_X5_hasCell : MOK mX5_hasCell 2 := ⟨tbl_ok (by decide +kernel), wm_834, by decide +kernel, rfl, ⟨by decide +kernel, by decide +kernel, by decide +kernel⟩, wm_151, by decide⟩
def mX5_hasTune : pM := (5, yX5_hasTune, prog_7_method_4_code, 2, (Option.some FieldType.boolean), [(0, .iload_n 1), (1, .ifCond .lt 15), (4, .iload_n 1), (5, .aload_n 0), (6, .getfield 60), (9, .if_icmp .ge 7), (12, .iconst 1), (13, .goto 4), (16, .iconst 0), (17, .ireturn)])
theorem mok_X5_hasTune : MOK mX5_hasTune 1 := ⟨tbl_ok (by decide +kernel), wm_939, by decide +kernel, rfl, ⟨by decide +kernel, by decide +kernel, by decide +kernel⟩, wm_151, by decide⟩
def mX5_hasTunes : pM := (5, yX5_hasTunes, prog_7_method_5_code, 2, (Option.some FieldType.boolean), [(0, .iload_n 1), (1, .ifCond .lt 17), (4, .iload_n 1), (5, .iconst 1), (6, .aload_n 0), (7, .getfield 60), (10, .ishl), (11, .if_icmp .ge 7), (14, .iconst 1), (15, .goto 4), (18, .iconst 0), (19, .ireturn)])
theorem mok_X5_hasTunes : MOK mX5_hasTunes 1 := ⟨tbl_ok (by decide +kernel), wm_1043, by decide +kernel, rfl, ⟨by decide +kernel, by decide +kernel, by decide +kernel⟩, wm_151, by decide⟩
end
section
def mX5_hasSkater : pM := (5, yX5_hasSkater, prog_7_method_6_code, 2, (Option.some FieldType.boolean), [(0, .iload_n 1), (1, .ifCond .lt 15), (4, .iload_n 1), (5, .aload_n 0), (6, .getfield 67), (9, .if_icmp .ge 7), (12, .iconst 1), (13, .goto 4), (16, .iconst 0), (17, .ireturn)])
theorem mok_X5_hasSkater : MOK mX5_hasSkater 1 := ⟨tbl_ok (by decide +kernel), wm_930, by decide +kernel, rfl, ⟨by decide +kernel, by decide +kernel, by decide +kernel⟩, wm_151, by decide⟩
def mX5_iceAtFirst : pM := (5, yX5_iceAtFirst, prog_7_method_7_code, 2, (Option.some FieldType.int), [(0, .aload_n 0), (1, .getfield 9), (4, .iload_n 1), (5, .iaload), (6, .iconst (-1)), (7, .if_icmp .eq 10), (10, .aload_n 0), (11, .getfield 9), (14, .iload_n 1), (15, .iaload), (16, .ireturn), (17, .aload_n 0), (18, .getfield 54), (21, .iconst (-1)), (22, .if_icmp .eq 10), (25, .aload_n 0), (26, .getfield 54), (29, .goto 5), (32, .bipush 50), (34, .ireturn)])
theorem mok_X5_iceAtFirst : MOK mX5_iceAtFirst 1 := ⟨tbl_ok (by decide +kernel), wm_589, by decide +kernel, rfl, ⟨by decide +kernel, by decide +kernel, by decide +kernel⟩, wm_151, by decide⟩
def mX5_stepOf : pM := (5, yX5_stepOf, prog_7_method_8_code, 4, (Option.some FieldType.int), [(0, .aload_n 0), (1, .getfield 32), (4, .iload_n 1), (5, .iaload), (6, .istore_n 3), (7, .iload_n 3), (8, .ifCond .gt 7), (11, .iconst 0), (12, .goto 16), (15, .aload_n 0), (16, .getfield 28), (19, .iload_n 1), (20, .bipush 8), (22, .imul), (23, .iload_n 2), (24, .iload_n 3), (25, .irem), (26, .iadd), (27, .baload), (28, .ireturn)])
theorem mok_X5_stepOf : MOK mX5_stepOf 2 := ⟨tbl_ok (by decide +kernel), wm_968, by decide +kernel, rfl, ⟨by decide +kernel, by decide +kernel, by decide +kernel⟩, wm_151, by decide⟩
def mX5_beside : pM := (5, yX5_beside, prog_7_method_9_code, 5, (Option.some FieldType.int), [(0, .iload_n 1), (1, .iconst 5), (2, .irem), (3, .istore_n 3), (4, .iload_n 1), (5, .iconst 5), (6, .idiv), (7, .istore 4), (9, .iload_n 2), (10, .sipush 138), (13, .iadd), (14, .tableswitch 54 139 142 #[30, 36, 42, 48]), (44, .iinc 4 (-1)), (47, .goto 21), (50, .iinc 3 1), (53, .goto 15), (56, .iinc 4 1), (59, .goto 9), (62, .iinc 3 (-1)), (65, .goto 3), (68, .aload_n 0), (69, .iload_n 3), (70, .iload 4), (72, .invokevirtual 78), (75, .ifCond .eq 12), (78, .iload_n 3), (79, .iconst 5), (80, .iload 4), (82, .imul), (83, .iadd), (84, .goto 4), (87, .iload_n 1), (88, .ireturn)])
theorem mok_X5_beside : MOK mX5_beside 2 := ⟨tbl_ok (by decide +kernel), wm_972, by decide +kernel, rfl, ⟨by decide +kernel, by decide +kernel, by decide +kernel⟩, wm_151, by decide⟩
def mX6_init : pM := (6, yX6_init, prog_8_method_1_code, 1, (Option.none : Option FieldType), [(0, .aload_n 0), (1, .invokespecial 3), (4, .aload_n 0), (5, .new 9), (8, .dup), (9, .invokespecial 11), (12, .putfield 12), (15, .aload_n 0), (16, .iconst (-1)), (17, .putfield 18), (20, .aload_n 0), (21, .bipush 12), (23, .newarray .int), (25, .putfield 22), (28, .aload_n 0), (29, .bipush 12), (31, .newarray .int), (33, .putfield 26), (36, .return_)])
theorem mok_X6_init : MOK mX6_init 0 := ⟨tbl_ok (by decide +kernel), wm_294, by decide +kernel, rfl, ⟨by decide +kernel, by decide +kernel, by decide +kernel⟩, wm_152, by decide⟩
def mX6_read : pM := (6, yX6_read, prog_8_method_2_code, 7, (Option.some FieldType.boolean), [(0, .aload_n 0), (1, .iconst 0), (2, .putfield 29), (5, .aload_n 0), (6, .iconst (-1)), (7, .putfield 18), (10, .aload_n 0), (11, .aload_n 3), (12, .putfield 32), (15, .aload_n 0), (16, .getfield 32), (19, .invokevirtual 36), (22, .aload_n 0), (23, .getfield 12), (26, .aload_n 1), (27, .iload_n 2), (28, .invokevirtual 41), (31, .iconst 1), (32, .istore 4), (34, .iconst 0), (35, .istore 5), (37, .iload 5), (39, .sipush 1600), (42, .if_icmp .ge 229), (45, .iload 4), (47, .ifCond .eq 224), (50, .aload_n 0), (51, .getfield 12), (54, .getfield 45), (57, .ifCond .eq 214), (60, .aload_n 0), (61, .getfield 12), (64, .getfield 45), (67, .istore 6), (69, .aload_n 0), (70, .iload 6), (72, .invokevirtual 48), (75, .ifCond .ne 9), (78, .aload_n 0), (79, .iconst 2), (80, .invokevirtual 52), (83, .ireturn), (84, .aload_n 0), (85, .getfield 12), (88, .invokevirtual 55), (91, .iload 6), (93, .tableswitch 145 128 146 #[91, 145, 109, 118, 145, 127, 145, 136, 145, 145, 145, 145, 145, 145, 145, 145, 145, 145, 100]), (184, .aload_n 0), (185, .invokevirtual 58), (188, .istore 4), (190, .goto 54), (193, .aload_n 0), (194, .invokevirtual 62), (197, .istore 4), (199, .goto 45), (202, .aload_n 0), (203, .invokevirtual 65), (206, .istore 4), (208, .goto 36), (211, .aload_n 0), (212, .invokevirtual 68), (215, .istore 4), (217, .goto 27), (220, .aload_n 0), (221, .invokevirtual 71), (224, .istore 4), (226, .goto 18), (229, .aload_n 0), (230, .invokevirtual 74), (233, .istore 4), (235, .goto 9), (238, .aload_n 0), (239, .invokevirtual 77), (242, .istore 4), (244, .iload 4), (246, .ifCond .eq 16), (249, .aload_n 0), (250, .bipush 59), (252, .invokevirtual 80), (255, .ifCond .eq 7), (258, .iconst 1), (259, .goto 4), (262, .iconst 0), (263, .istore 4), (265, .iinc 5 1), (268, .goto (-231)), (271, .iload 4), (273, .ireturn)])
theorem mok_X6_read : MOK mX6_read 3 := ⟨tbl_ok (by decide +kernel), wm_658, by decide +kernel, rfl, ⟨by decide +kernel, by decide +kernel, by decide +kernel⟩, wm_152, by decide⟩
def mX6_fail : pM := (6, yX6_fail, prog_8_method_3_code, 2, (Option.some FieldType.boolean), [(0, .aload_n 0), (1, .aload_n 0), (2, .getfield 12), (5, .getfield 45), (8, .iconst 1), (9, .if_icmp .ne 7), (12, .iconst 1), (13, .goto 4), (16, .iload_n 1), (17, .putfield 29), (20, .aload_n 0), (21, .aload_n 0), (22, .getfield 12), (25, .getfield 83), (28, .putfield 18), (31, .iconst 0), (32, .ireturn)])
theorem mok_X6_fail : MOK mX6_fail 1 := ⟨tbl_ok (by decide +kernel), wm_805, by decide +kernel, rfl, ⟨by decide +kernel, by decide +kernel, by decide +kernel⟩, wm_152, by decide⟩
def mX6_take : pM := (6, yX6_take, prog_8_method_4_code, 2, (Option.some FieldType.boolean), [(0, .aload_n 0), (1, .getfield 12), (4, .getfield 45), (7, .iload_n 1), (8, .if_icmp .eq 9), (11, .aload_n 0), (12, .iconst 2), (13, .invokevirtual 52), (16, .ireturn), (17, .aload_n 0), (18, .getfield 12), (21, .invokevirtual 55), (24, .iconst 1), (25, .ireturn)])
theorem mok_X6_take : MOK mX6_take 1 := ⟨tbl_ok (by decide +kernel), wm_818, by decide +kernel, rfl, ⟨by decide +kernel, by decide +kernel, by decide +kernel⟩, wm_152, by decide⟩
def mX6_takeNumber : pM := (6, yX6_takeNumber, prog_8_method_5_code, 3, (Option.some FieldType.boolean), [(0, .aload_n 0), (1, .getfield 12), (4, .getfield 45), (7, .iconst 2), (8, .if_icmp .eq 9), (11, .aload_n 0), (12, .iconst 2), (13, .invokevirtual 52), (16, .ireturn), (17, .aload_n 0), (18, .getfield 12), (21, .getfield 86), (24, .iload_n 1), (25, .if_icmp .lt 14), (28, .aload_n 0), (29, .getfield 12), (32, .getfield 86), (35, .iload_n 2), (36, .if_icmp .le 9), (39, .aload_n 0), (40, .iconst 4), (41, .invokevirtual 52), (44, .ireturn), (45, .aload_n 0), (46, .aload_n 0), (47, .getfield 12), (50, .getfield 86), (53, .putfield 89), (56, .aload_n 0), (57, .getfield 12), (60, .invokevirtual 55), (63, .iconst 1), (64, .ireturn)])
theorem mok_X6_takeNumber : MOK mX6_takeNumber 2 := ⟨tbl_ok (by decide +kernel), wm_814, by decide +kernel, rfl, ⟨by decide +kernel, by decide +kernel, by decide +kernel⟩, wm_152, by decide⟩
def mX6_mayStand : pM := (6, yX6_mayStand, prog_8_method_6_code, 3, (Option.some FieldType.boolean), [(0, .aload_n 0), (1, .getfield 32), (4, .getfield 92), (7, .ifCond .le 7), (10, .iconst 1), (11, .goto 4), (14, .iconst 0), (15, .istore_n 2), (16, .iload_n 1), (17, .tableswitch 188 128 146 #[91, 188, 122, 122, 188, 124, 188, 146, 166, 188, 188, 188, 188, 188, 188, 188, 188, 188, 101]), (108, .iload_n 2), (109, .ifCond .ne 7), (112, .iconst 1), (113, .goto 4), (116, .iconst 0), (117, .ireturn), (118, .iload_n 2), (119, .ifCond .eq 18), (122, .aload_n 0), (123, .getfield 32), (126, .getfield 95), (129, .iconst (-1)), (130, .if_icmp .ne 7), (133, .iconst 1), (134, .goto 4), (137, .iconst 0), (138, .ireturn), (139, .iload_n 2), (140, .ireturn), (141, .iload_n 2), (142, .ifCond .eq 19), (145, .aload_n 0), (146, .getfield 32), (149, .getfield 98), (152, .bipush 6), (154, .if_icmp .ge 7), (157, .iconst 1), (158, .goto 4), (161, .iconst 0), (162, .ireturn), (163, .iload_n 2), (164, .ifCond .eq 17), (167, .aload_n 0), (168, .getfield 32), (171, .getfield 101), (174, .ifCond .ne 7), (177, .iconst 1), (178, .goto 4), (181, .iconst 0), (182, .ireturn), (183, .iload_n 2), (184, .ifCond .eq 19), (187, .aload_n 0), (188, .getfield 32), (191, .getfield 105), (194, .bipush 6), (196, .if_icmp .ge 7), (199, .iconst 1), (200, .goto 4), (203, .iconst 0), (204, .ireturn), (205, .iconst 0), (206, .ireturn)])
theorem mok_X6_mayStand : MOK mX6_mayStand 1 := ⟨tbl_ok (by decide +kernel), wm_801, by decide +kernel, rfl, ⟨by decide +kernel, by decide +kernel, by decide +kernel⟩, wm_152, by decide⟩
def mX6_readSize : pM := (6, yX6_readSize, prog_8_method_7_code, 1, (Option.some FieldType.boolean), [(0, .aload_n 0), (1, .iconst 1), (2, .iconst 5), (3, .invokevirtual 108), (6, .ifCond .ne 5), (9, .iconst 0), (10, .ireturn), (11, .aload_n 0), (12, .getfield 32), (15, .aload_n 0), (16, .getfield 89), (19, .putfield 92), (22, .aload_n 0), (23, .sipush 129), (26, .invokevirtual 80), (29, .ifCond .eq 12), (32, .aload_n 0), (33, .iconst 1), (34, .iconst 5), (35, .invokevirtual 108), (38, .ifCond .ne 5), (41, .iconst 0), (42, .ireturn), (43, .aload_n 0), (44, .getfield 32), (47, .aload_n 0), (48, .getfield 89), (51, .putfield 112), (54, .iconst 1), (55, .ireturn)])
theorem mok_X6_readSize : MOK mX6_readSize 0 := ⟨tbl_ok (by decide +kernel), wm_810, by decide +kernel, rfl, ⟨by decide +kernel, by decide +kernel, by decide +kernel⟩, wm_152, by decide⟩
def mX6_readAllIce : pM := (6, yX6_readAllIce, prog_8_method_8_code, 1, (Option.some FieldType.boolean), [(0, .aload_n 0), (1, .iconst 0), (2, .bipush 99), (4, .invokevirtual 108), (7, .ifCond .ne 5), (10, .iconst 0), (11, .ireturn), (12, .aload_n 0), (13, .getfield 32), (16, .aload_n 0), (17, .getfield 89), (20, .putfield 95), (23, .iconst 1), (24, .ireturn)])
theorem mok_X6_readAllIce : MOK mX6_readAllIce 0 := ⟨tbl_ok (by decide +kernel), wm_822, by decide +kernel, rfl, ⟨by decide +kernel, by decide +kernel, by decide +kernel⟩, wm_152, by decide⟩
def mX6_readCell : pM := (6, yX6_readCell, prog_8_method_9_code, 1, (Option.some FieldType.boolean), [(0, .aload_n 0), (1, .sipush 130), (4, .invokevirtual 115), (7, .ifCond .eq 23), (10, .aload_n 0), (11, .sipush 146), (14, .invokevirtual 80), (17, .ifCond .eq 13), (20, .aload_n 0), (21, .iconst 0), (22, .bipush 99), (24, .invokevirtual 108), (27, .ifCond .ne 5), (30, .iconst 0), (31, .ireturn), (32, .aload_n 0), (33, .getfield 32), (36, .getfield 118), (39, .aload_n 0), (40, .getfield 121), (43, .aload_n 0), (44, .getfield 89), (47, .iastore), (48, .iconst 1), (49, .ireturn)])
theorem mok_X6_readCell : MOK mX6_readCell 0 := ⟨tbl_ok (by decide +kernel), wm_826, by decide +kernel, rfl, ⟨by decide +kernel, by decide +kernel, by decide +kernel⟩, wm_152, by decide⟩
def mX6_readPlank : pM := (6, yX6_readPlank, prog_8_method_10_code, 1, (Option.some FieldType.boolean), [(0, .aload_n 0), (1, .sipush 132), (4, .invokevirtual 80), (7, .ifCond .eq 13), (10, .aload_n 0), (11, .sipush 131), (14, .invokevirtual 115), (17, .ifCond .ne 5), (20, .iconst 0), (21, .ireturn), (22, .aload_n 0), (23, .getfield 32), (26, .getfield 124), (29, .aload_n 0), (30, .getfield 121), (33, .iconst 1), (34, .bastore), (35, .aload_n 0), (36, .getfield 32), (39, .dup), (40, .getfield 128), (43, .iconst 1), (44, .iadd), (45, .putfield 128), (48, .iconst 1), (49, .ireturn)])
theorem mok_X6_readPlank : MOK mX6_readPlank 0 := ⟨tbl_ok (by decide +kernel), wm_842, by decide +kernel, rfl, ⟨by decide +kernel, by decide +kernel, by decide +kernel⟩, wm_152, by decide⟩
def mX6_takePlace : pM := (6, yX6_takePlace, prog_8_method_11_code, 3, (Option.some FieldType.boolean), [(0, .aload_n 0), (1, .iconst 0), (2, .aload_n 0), (3, .getfield 32), (6, .getfield 92), (9, .iconst 1), (10, .isub), (11, .invokevirtual 108), (14, .ifCond .ne 5), (17, .iconst 0), (18, .ireturn), (19, .aload_n 0), (20, .getfield 89), (23, .istore_n 2), (24, .aload_n 0), (25, .getfield 12), (28, .getfield 45), (31, .iconst 2), (32, .if_icmp .ne 46), (35, .aload_n 0), (36, .getfield 32), (39, .iload_n 2), (40, .aload_n 0), (41, .getfield 12), (44, .getfield 86), (47, .invokevirtual 131), (50, .ifCond .eq 28), (53, .aload_n 0), (54, .iload_n 1), (55, .iload_n 2), (56, .iconst 5), (57, .aload_n 0), (58, .getfield 12), (61, .getfield 86), (64, .imul), (65, .iadd), (66, .invokevirtual 134), (69, .ifCond .eq 9), (72, .aload_n 0), (73, .iconst 3), (74, .invokevirtual 52), (77, .ireturn), (78, .aload_n 0), (79, .iconst 0), (80, .aload_n 0), (81, .getfield 32), (84, .getfield 112), (87, .iconst 1), (88, .isub), (89, .invokevirtual 108), (92, .ifCond .ne 5), (95, .iconst 0), (96, .ireturn), (97, .aload_n 0), (98, .iload_n 2), (99, .iconst 5), (100, .aload_n 0), (101, .getfield 89), (104, .imul), (105, .iadd), (106, .putfield 121), (109, .iconst 1), (110, .ireturn)])
theorem mok_X6_takePlace : MOK mX6_takePlace 1 := ⟨tbl_ok (by decide +kernel), wm_830, by decide +kernel, rfl, ⟨by decide +kernel, by decide +kernel, by decide +kernel⟩, wm_152, by decide⟩
def mX6_isToldAlready : pM := (6, yX6_isToldAlready, prog_8_method_12_code, 3, (Option.some FieldType.boolean), [(0, .iload_n 1), (1, .lookupswitch 56 #[(130, 27), (131, 46)]), (28, .aload_n 0), (29, .getfield 32), (32, .getfield 118), (35, .iload_n 2), (36, .iaload), (37, .iconst (-1)), (38, .if_icmp .eq 7), (41, .iconst 1), (42, .goto 4), (45, .iconst 0), (46, .ireturn), (47, .aload_n 0), (48, .getfield 32), (51, .getfield 124), (54, .iload_n 2), (55, .baload), (56, .ireturn), (57, .iconst 0), (58, .ireturn)])
theorem mok_X6_isToldAlready : MOK mX6_isToldAlready 2 := ⟨tbl_ok (by decide +kernel), wm_838, by decide +kernel, rfl, ⟨by decide +kernel, by decide +kernel, by decide +kernel⟩, wm_152, by decide⟩
def mX6_takeName : pM := (6, yX6_takeName, prog_8_method_13_code, 4, (Option.some FieldType.boolean), [(0, .aload_n 0), (1, .getfield 12), (4, .getfield 45), (7, .iconst 3), (8, .if_icmp .eq 9), (11, .aload_n 0), (12, .iconst 2), (13, .invokevirtual 52), (16, .ireturn), (17, .iload_n 1), (18, .istore_n 3), (19, .iload_n 3), (20, .iload_n 1), (21, .iload_n 2), (22, .iadd), (23, .if_icmp .ge 37), (26, .aload_n 0), (27, .getfield 12), (30, .aload_n 0), (31, .getfield 22), (34, .iload_n 3), (35, .iaload), (36, .aload_n 0), (37, .getfield 26), (40, .iload_n 3), (41, .iaload), (42, .invokevirtual 137), (45, .ifCond .eq 9), (48, .aload_n 0), (49, .iconst 3), (50, .invokevirtual 52), (53, .ireturn), (54, .iinc 3 1), (57, .goto (-38)), (60, .aload_n 0), (61, .getfield 22), (64, .iload_n 1), (65, .iload_n 2), (66, .iadd), (67, .aload_n 0), (68, .getfield 12), (71, .getfield 83), (74, .iastore), (75, .aload_n 0), (76, .getfield 26), (79, .iload_n 1), (80, .iload_n 2), (81, .iadd), (82, .aload_n 0), (83, .getfield 12), (86, .getfield 140), (89, .aload_n 0), (90, .getfield 12), (93, .getfield 83), (96, .isub), (97, .iastore), (98, .aload_n 0), (99, .getfield 12), (102, .invokevirtual 55), (105, .iconst 1), (106, .ireturn)])
theorem mok_X6_takeName : MOK mX6_takeName 2 := ⟨tbl_ok (by decide +kernel), wm_850, by decide +kernel, rfl, ⟨by decide +kernel, by decide +kernel, by decide +kernel⟩, wm_152, by decide⟩
def mX6_readTune : pM := (6, yX6_readTune, prog_8_method_14_code, 3, (Option.some FieldType.boolean), [(0, .aload_n 0), (1, .getfield 32), (4, .getfield 98), (7, .istore_n 1), (8, .aload_n 0), (9, .iconst 0), (10, .iload_n 1), (11, .invokevirtual 143), (14, .ifCond .eq 23), (17, .aload_n 0), (18, .sipush 134), (21, .invokevirtual 80), (24, .ifCond .eq 13), (27, .aload_n 0), (28, .iconst 1), (29, .bipush 12), (31, .invokevirtual 108), (34, .ifCond .ne 5), (37, .iconst 0), (38, .ireturn), (39, .aload_n 0), (40, .getfield 32), (43, .getfield 146), (46, .iload_n 1), (47, .aload_n 0), (48, .getfield 89), (51, .iastore), (52, .aload_n 0), (53, .getfield 32), (56, .dup), (57, .getfield 98), (60, .iconst 1), (61, .iadd), (62, .putfield 98), (65, .aload_n 0), (66, .getfield 32), (69, .getfield 149), (72, .iload_n 1), (73, .aload_n 0), (74, .getfield 32), (77, .getfield 152), (80, .iastore), (81, .aload_n 0), (82, .iconst 0), (83, .putfield 155), (86, .aload_n 0), (87, .iconst 0), (88, .invokevirtual 158), (91, .istore_n 2), (92, .aload_n 0), (93, .getfield 32), (96, .getfield 161), (99, .iload_n 1), (100, .aload_n 0), (101, .getfield 32), (104, .getfield 152), (107, .iastore), (108, .iload_n 2), (109, .ireturn)])
theorem mok_X6_readTune : MOK mX6_readTune 0 := ⟨tbl_ok (by decide +kernel), wm_846, by decide +kernel, rfl, ⟨by decide +kernel, by decide +kernel, by decide +kernel⟩, wm_152, by decide⟩
def mX6_readSilence : pM := (6, yX6_readSilence, prog_8_method_15_code, 2, (Option.some FieldType.boolean), [(0, .aload_n 0), (1, .getfield 32), (4, .iconst 1), (5, .putfield 101), (8, .aload_n 0), (9, .getfield 32), (12, .getfield 149), (15, .bipush 6), (17, .aload_n 0), (18, .getfield 32), (21, .getfield 152), (24, .iastore), (25, .aload_n 0), (26, .iconst 0), (27, .putfield 155), (30, .aload_n 0), (31, .iconst 0), (32, .invokevirtual 158), (35, .istore_n 1), (36, .aload_n 0), (37, .getfield 32), (40, .getfield 161), (43, .bipush 6), (45, .aload_n 0), (46, .getfield 32), (49, .getfield 152), (52, .iastore), (53, .iload_n 1), (54, .ireturn)])
theorem mok_X6_readSilence : MOK mX6_readSilence 0 := ⟨tbl_ok (by decide +kernel), wm_889, by decide +kernel, rfl, ⟨by decide +kernel, by decide +kernel, by decide +kernel⟩, wm_152, by decide⟩
def mX6_readSkater : pM := (6, yX6_readSkater, prog_8_method_16_code, 3, (Option.some FieldType.boolean), [(0, .aload_n 0), (1, .getfield 32), (4, .getfield 105), (7, .istore_n 1), (8, .aload_n 0), (9, .bipush 6), (11, .iload_n 1), (12, .invokevirtual 143), (15, .ifCond .eq 23), (18, .aload_n 0), (19, .sipush 137), (22, .invokevirtual 80), (25, .ifCond .eq 13), (28, .aload_n 0), (29, .iconst 1), (30, .bipush 99), (32, .invokevirtual 108), (35, .ifCond .ne 5), (38, .iconst 0), (39, .ireturn), (40, .aload_n 0), (41, .getfield 32), (44, .getfield 164), (47, .iload_n 1), (48, .aload_n 0), (49, .getfield 89), (52, .iastore), (53, .aload_n 0), (54, .sipush 132), (57, .invokevirtual 80), (60, .ifCond .eq 13), (63, .aload_n 0), (64, .sipush 136), (67, .invokevirtual 115), (70, .ifCond .ne 5), (73, .iconst 0), (74, .ireturn), (75, .aload_n 0), (76, .getfield 32), (79, .getfield 167), (82, .iload_n 1), (83, .aload_n 0), (84, .getfield 121), (87, .iastore), (88, .iconst 0), (89, .istore_n 2), (90, .iload_n 2), (91, .bipush 8), (93, .if_icmp .ge 68), (96, .aload_n 0), (97, .getfield 12), (100, .getfield 45), (103, .sipush 138), (106, .if_icmp .lt 55), (109, .aload_n 0), (110, .getfield 12), (113, .getfield 45), (116, .sipush 142), (119, .if_icmp .gt 42), (122, .aload_n 0), (123, .getfield 32), (126, .getfield 170), (129, .iload_n 1), (130, .bipush 8), (132, .imul), (133, .iload_n 2), (134, .iadd), (135, .aload_n 0), (136, .getfield 12), (139, .getfield 45), (142, .sipush 138), (145, .isub), (146, .i2b), (147, .bastore), (148, .iinc 2 1), (151, .aload_n 0), (152, .getfield 12), (155, .invokevirtual 55), (158, .goto (-68)), (161, .aload_n 0), (162, .getfield 32), (165, .getfield 174), (168, .iload_n 1), (169, .iload_n 2), (170, .iastore), (171, .aload_n 0), (172, .getfield 32), (175, .dup), (176, .getfield 105), (179, .iconst 1), (180, .iadd), (181, .putfield 105), (184, .iconst 1), (185, .ireturn)])
theorem mok_X6_readSkater : MOK mX6_readSkater 0 := ⟨tbl_ok (by decide +kernel), wm_893, by decide +kernel, rfl, ⟨by decide +kernel, by decide +kernel, by decide +kernel⟩, wm_152, by decide⟩
def mX6_putCode : pM := (6, yX6_putCode, prog_8_method_17_code, 2, (Option.none : Option FieldType), [(0, .aload_n 0), (1, .getfield 32), (4, .getfield 152), (7, .sipush 800), (10, .if_icmp .ge 32), (13, .aload_n 0), (14, .getfield 32), (17, .getfield 177), (20, .aload_n 0), (21, .getfield 32), (24, .getfield 152), (27, .iload_n 1), (28, .iastore), (29, .aload_n 0), (30, .getfield 32), (33, .dup), (34, .getfield 152), (37, .iconst 1), (38, .iadd), (39, .putfield 152), (42, .return_)])
theorem mok_X6_putCode : MOK mX6_putCode 1 := ⟨tbl_ok (by decide +kernel), wm_870, by decide +kernel, rfl, ⟨by decide +kernel, by decide +kernel, by decide +kernel⟩, wm_152, by decide⟩
def mX6_readFormula : pM := (6, yX6_readFormula, prog_8_method_18_code, 4, (Option.some FieldType.boolean), [(0, .aload_n 0), (1, .iload_n 1), (2, .invokevirtual 180), (5, .istore_n 2), (6, .iconst 0), (7, .istore_n 3), (8, .iload_n 3), (9, .bipush 30), (11, .if_icmp .ge 46), (14, .iload_n 2), (15, .ifCond .eq 42), (18, .aload_n 0), (19, .getfield 12), (22, .getfield 45), (25, .sipush 143), (28, .if_icmp .ne 29), (31, .aload_n 0), (32, .getfield 12), (35, .invokevirtual 55), (38, .aload_n 0), (39, .iload_n 1), (40, .invokevirtual 180), (43, .istore_n 2), (44, .aload_n 0), (45, .sipush (-143)), (48, .invokevirtual 183), (51, .iinc 3 1), (54, .goto (-46)), (57, .iload_n 2), (58, .ireturn)])
theorem mok_X6_readFormula : MOK mX6_readFormula 1 := ⟨tbl_ok (by decide +kernel), wm_858, by decide +kernel, rfl, ⟨by decide +kernel, by decide +kernel, by decide +kernel⟩, wm_152, by decide⟩
def mX6_readBoth : pM := (6, yX6_readBoth, prog_8_method_19_code, 4, (Option.some FieldType.boolean), [(0, .aload_n 0), (1, .iload_n 1), (2, .invokevirtual 187), (5, .istore_n 2), (6, .iconst 0), (7, .istore_n 3), (8, .iload_n 3), (9, .bipush 30), (11, .if_icmp .ge 46), (14, .iload_n 2), (15, .ifCond .eq 42), (18, .aload_n 0), (19, .getfield 12), (22, .getfield 45), (25, .sipush 144), (28, .if_icmp .ne 29), (31, .aload_n 0), (32, .getfield 12), (35, .invokevirtual 55), (38, .aload_n 0), (39, .iload_n 1), (40, .invokevirtual 187), (43, .istore_n 2), (44, .aload_n 0), (45, .sipush (-144)), (48, .invokevirtual 183), (51, .iinc 3 1), (54, .goto (-46)), (57, .iload_n 2), (58, .ireturn)])
theorem mok_X6_readBoth : MOK mX6_readBoth 1 := ⟨tbl_ok (by decide +kernel), wm_862, by decide +kernel, rfl, ⟨by decide +kernel, by decide +kernel, by decide +kernel⟩, wm_152, by decide⟩
def mX6_readOne : pM := (6, yX6_readOne, prog_8_method_20_code, 4, (Option.some FieldType.boolean), [(0, .aload_n 0), (1, .getfield 12), (4, .getfield 45), (7, .sipush 145), (10, .if_icmp .ne 39), (13, .iload_n 1), (14, .bipush 7), (16, .if_icmp .lt 9), (19, .aload_n 0), (20, .iconst 2), (21, .invokevirtual 52), (24, .ireturn), (25, .aload_n 0), (26, .getfield 12), (29, .invokevirtual 55), (32, .aload_n 0), (33, .iload_n 1), (34, .iconst 1), (35, .iadd), (36, .invokevirtual 187), (39, .istore_n 2), (40, .aload_n 0), (41, .sipush (-145)), (44, .invokevirtual 183), (47, .iload_n 2), (48, .ireturn), (49, .aload_n 0), (50, .iload_n 1), (51, .invokevirtual 190), (54, .istore_n 2), (55, .aload_n 0), (56, .getfield 12), (59, .getfield 45), (62, .istore_n 3), (63, .iload_n 2), (64, .ifCond .eq 40), (67, .iload_n 3), (68, .bipush 60), (70, .if_icmp .eq 15), (73, .iload_n 3), (74, .bipush 62), (76, .if_icmp .eq 9), (79, .iload_n 3), (80, .bipush 61), (82, .if_icmp .ne 22), (85, .aload_n 0), (86, .getfield 12), (89, .invokevirtual 55), (92, .aload_n 0), (93, .iload_n 1), (94, .invokevirtual 190), (97, .istore_n 2), (98, .aload_n 0), (99, .iload_n 3), (100, .ineg), (101, .invokevirtual 183), (104, .iload_n 2), (105, .ireturn)])
theorem mok_X6_readOne : MOK mX6_readOne 1 := ⟨tbl_ok (by decide +kernel), wm_866, by decide +kernel, rfl, ⟨by decide +kernel, by decide +kernel, by decide +kernel⟩, wm_152, by decide⟩
def mX6_readSum : pM := (6, yX6_readSum, prog_8_method_21_code, 5, (Option.some FieldType.boolean), [(0, .aload_n 0), (1, .iload_n 1), (2, .invokevirtual 193), (5, .istore_n 2), (6, .iconst 0), (7, .istore_n 3), (8, .iload_n 3), (9, .bipush 30), (11, .if_icmp .ge 66), (14, .iload_n 2), (15, .ifCond .eq 62), (18, .aload_n 0), (19, .getfield 12), (22, .getfield 45), (25, .bipush 43), (27, .if_icmp .eq 15), (30, .aload_n 0), (31, .getfield 12), (34, .getfield 45), (37, .bipush 45), (39, .if_icmp .ne 38), (42, .aload_n 0), (43, .getfield 12), (46, .getfield 45), (49, .istore 4), (51, .aload_n 0), (52, .getfield 12), (55, .invokevirtual 55), (58, .aload_n 0), (59, .iload_n 1), (60, .invokevirtual 193), (63, .istore_n 2), (64, .aload_n 0), (65, .iload 4), (67, .ineg), (68, .invokevirtual 183), (71, .iinc 3 1), (74, .goto (-66)), (77, .iload_n 2), (78, .ireturn)])
theorem mok_X6_readSum : MOK mX6_readSum 1 := ⟨tbl_ok (by decide +kernel), wm_874, by decide +kernel, rfl, ⟨by decide +kernel, by decide +kernel, by decide +kernel⟩, wm_152, by decide⟩
def mX6_readTerm : pM := (6, yX6_readTerm, prog_8_method_22_code, 5, (Option.some FieldType.boolean), [(0, .aload_n 0), (1, .iload_n 1), (2, .invokevirtual 196), (5, .istore_n 2), (6, .iconst 0), (7, .istore_n 3), (8, .iload_n 3), (9, .bipush 30), (11, .if_icmp .ge 55), (14, .iload_n 2), (15, .ifCond .eq 51), (18, .aload_n 0), (19, .getfield 12), (22, .getfield 45), (25, .invokestatic 199), (28, .ifCond .eq 38), (31, .aload_n 0), (32, .getfield 12), (35, .getfield 45), (38, .istore 4), (40, .aload_n 0), (41, .getfield 12), (44, .invokevirtual 55), (47, .aload_n 0), (48, .iload_n 1), (49, .invokevirtual 196), (52, .istore_n 2), (53, .aload_n 0), (54, .iload 4), (56, .ineg), (57, .invokevirtual 183), (60, .iinc 3 1), (63, .goto (-55)), (66, .iload_n 2), (67, .ireturn)])
theorem mok_X6_readTerm : MOK mX6_readTerm 1 := ⟨tbl_ok (by decide +kernel), wm_878, by decide +kernel, rfl, ⟨by decide +kernel, by decide +kernel, by decide +kernel⟩, wm_152, by decide⟩
def mX6_isTermSign : pM := (6, yX6_isTermSign, prog_8_method_23_code, 1, (Option.some FieldType.boolean), [(0, .iload_n 0), (1, .bipush 42), (3, .if_icmp .eq 15), (6, .iload_n 0), (7, .bipush 47), (9, .if_icmp .eq 9), (12, .iload_n 0), (13, .bipush 37), (15, .if_icmp .ne 7), (18, .iconst 1), (19, .goto 4), (22, .iconst 0), (23, .ireturn)])
theorem mok_X6_isTermSign : MOK mX6_isTermSign 1 := ⟨tbl_ok (by decide +kernel), wm_885, by decide +kernel, rfl, ⟨by decide +kernel, by decide +kernel, by decide +kernel⟩, wm_152, by decide⟩
def mX6_readUnit : pM := (6, yX6_readUnit, prog_8_method_24_code, 2, (Option.some FieldType.boolean), [(0, .aload_n 0), (1, .getfield 32), (4, .getfield 202), (7, .bipush 90), (9, .if_icmp .ge 12), (12, .aload_n 0), (13, .getfield 155), (16, .bipush 30), (18, .if_icmp .lt 9), (21, .aload_n 0), (22, .iconst 2), (23, .invokevirtual 52), (26, .ireturn), (27, .aload_n 0), (28, .getfield 32), (31, .dup), (32, .getfield 202), (35, .iconst 1), (36, .iadd), (37, .putfield 202), (40, .aload_n 0), (41, .dup), (42, .getfield 155), (45, .iconst 1), (46, .iadd), (47, .putfield 155), (50, .aload_n 0), (51, .getfield 12), (54, .getfield 45), (57, .lookupswitch 132 #[(2, 59), (40, 88), (146, 73), (147, 73), (148, 73), (149, 73)]), (116, .aload_n 0), (117, .aload_n 0), (118, .getfield 12), (121, .getfield 86), (124, .invokevirtual 183), (127, .goto 68), (130, .aload_n 0), (131, .aload_n 0), (132, .getfield 12), (135, .getfield 45), (138, .ineg), (139, .invokevirtual 183), (142, .goto 53), (145, .iload_n 1), (146, .bipush 7), (148, .if_icmp .lt 9), (151, .aload_n 0), (152, .iconst 2), (153, .invokevirtual 52), (156, .ireturn), (157, .aload_n 0), (158, .getfield 12), (161, .invokevirtual 55), (164, .aload_n 0), (165, .iload_n 1), (166, .iconst 1), (167, .iadd), (168, .invokevirtual 158), (171, .ifCond .eq 16), (174, .aload_n 0), (175, .bipush 41), (177, .invokevirtual 80), (180, .ifCond .eq 7), (183, .iconst 1), (184, .goto 4), (187, .iconst 0), (188, .ireturn), (189, .aload_n 0), (190, .iconst 2), (191, .invokevirtual 52), (194, .ireturn), (195, .aload_n 0), (196, .getfield 12), (199, .invokevirtual 55), (202, .iconst 1), (203, .ireturn)])
theorem mok_X6_readUnit : MOK mX6_readUnit 1 := ⟨tbl_ok (by decide +kernel), wm_882, by decide +kernel, rfl, ⟨by decide +kernel, by decide +kernel, by decide +kernel⟩, wm_152, by decide⟩
def mX7_init : pM := (7, yX7_init, prog_9_method_1_code, 4, (Option.none : Option FieldType), [(0, .aload_n 0), (1, .invokespecial 3), (4, .aload_n 0), (5, .iconst 3), (6, .newarray .int), (8, .putfield 9), (11, .aload_n 0), (12, .iconst 3), (13, .newarray .int), (15, .putfield 15), (18, .aload_n 0), (19, .iconst 3), (20, .newarray .int), (22, .putfield 18), (25, .aload_n 0), (26, .aload_n 1), (27, .putfield 21), (30, .aload_n 0), (31, .aload_n 2), (32, .putfield 25), (35, .aload_n 0), (36, .aload_n 3), (37, .putfield 29), (40, .return_)])
theorem mok_X7_init : MOK mX7_init 3 := ⟨tbl_ok (by decide +kernel), wm_543, by decide +kernel, rfl, ⟨by decide +kernel, by decide +kernel, by decide +kernel⟩, wm_160, by decide⟩
def mX7_count : pM := (7, yX7_count, prog_9_method_2_code, 3, (Option.some FieldType.int), [(0, .aload_n 0), (1, .iconst 0), (2, .putfield 33), (5, .aload_n 0), (6, .iload_n 1), (7, .putfield 37), (10, .aload_n 0), (11, .iload_n 2), (12, .putfield 40), (15, .aload_n 0), (16, .aload_n 0), (17, .getfield 29), (20, .iload_n 2), (21, .invokevirtual 43), (24, .putfield 49), (27, .aload_n 0), (28, .getfield 25), (31, .iconst 0), (32, .aaload), (33, .aload_n 0), (34, .getfield 21), (37, .getfield 51), (40, .invokevirtual 57), (43, .aload_n 0), (44, .iconst 0), (45, .invokevirtual 63), (48, .aload_n 0), (49, .getfield 33), (52, .ireturn)])
theorem mok_X7_count : MOK mX7_count 2 := ⟨tbl_ok (by decide +kernel), wm_1176, by decide +kernel, rfl, ⟨by decide +kernel, by decide +kernel, by decide +kernel⟩, wm_160, by decide⟩
def mX7_extend : pM := (7, yX7_extend, prog_9_method_3_code, 3, (Option.none : Option FieldType), [(0, .iload_n 1), (1, .aload_n 0), (2, .getfield 37), (5, .if_icmp .ge 8), (8, .iload_n 1), (9, .iconst 3), (10, .if_icmp .lt 24), (13, .aload_n 0), (14, .getfield 25), (17, .iload_n 1), (18, .aaload), (19, .getfield 67), (22, .aload_n 0), (23, .getfield 49), (26, .if_icmp .lt 7), (29, .aload_n 0), (30, .invokevirtual 70), (33, .return_), (34, .iconst 0), (35, .istore_n 2), (36, .iload_n 2), (37, .aload_n 0), (38, .getfield 21), (41, .getfield 51), (44, .getfield 73), (47, .if_icmp .ge 56), (50, .aload_n 0), (51, .getfield 9), (54, .iload_n 1), (55, .iload_n 2), (56, .iastore), (57, .aload_n 0), (58, .getfield 25), (61, .iload_n 1), (62, .iconst 1), (63, .iadd), (64, .aaload), (65, .aload_n 0), (66, .getfield 25), (69, .iload_n 1), (70, .aaload), (71, .invokevirtual 76), (74, .aload_n 0), (75, .aload_n 0), (76, .getfield 25), (79, .iload_n 1), (80, .iconst 1), (81, .iadd), (82, .aaload), (83, .iload_n 2), (84, .invokevirtual 80), (87, .ifCond .eq 10), (90, .aload_n 0), (91, .iload_n 1), (92, .iconst 1), (93, .iadd), (94, .invokevirtual 63), (97, .iinc 2 1), (100, .goto (-64)), (103, .return_)])
theorem mok_X7_extend : MOK mX7_extend 1 := ⟨tbl_ok (by decide +kernel), wm_1190, by decide +kernel, rfl, ⟨by decide +kernel, by decide +kernel, by decide +kernel⟩, wm_160, by decide⟩
def mX7_playsAsSeen : pM := (7, yX7_playsAsSeen, prog_9_method_4_code, 4, (Option.some FieldType.boolean), [(0, .iconst 0), (1, .istore_n 3), (2, .iload_n 3), (3, .aload_n 0), (4, .getfield 21), (7, .getfield 51), (10, .getfield 84), (13, .iload_n 2), (14, .iaload), (15, .if_icmp .ge 48), (18, .aload_n 1), (19, .getfield 67), (22, .aload_n 0), (23, .getfield 49), (26, .if_icmp .ge 37), (29, .aload_n 0), (30, .getfield 21), (33, .aload_n 1), (34, .iload_n 2), (35, .iload_n 3), (36, .invokevirtual 86), (39, .pop), (40, .aload_n 0), (41, .getfield 29), (44, .aload_n 1), (45, .aload_n 0), (46, .getfield 40), (49, .invokevirtual 90), (52, .ifCond .ne 5), (55, .iconst 0), (56, .ireturn), (57, .iinc 3 1), (60, .goto (-58)), (63, .iconst 1), (64, .ireturn)])
theorem mok_X7_playsAsSeen : MOK mX7_playsAsSeen 2 := ⟨tbl_ok (by decide +kernel), wm_1199, by decide +kernel, rfl, ⟨by decide +kernel, by decide +kernel, by decide +kernel⟩, wm_160, by decide⟩
def mX7_takeRow : pM := (7, yX7_takeRow, prog_9_method_5_code, 2, (Option.none : Option FieldType), [(0, .iconst 0), (1, .istore_n 1), (2, .iload_n 1), (3, .aload_n 0), (4, .getfield 37), (7, .if_icmp .ge 66), (10, .aload_n 0), (11, .getfield 33), (14, .ifCond .ne 30), (17, .aload_n 0), (18, .getfield 15), (21, .iload_n 1), (22, .aload_n 0), (23, .getfield 9), (26, .iload_n 1), (27, .iaload), (28, .iastore), (29, .aload_n 0), (30, .getfield 18), (33, .iload_n 1), (34, .aload_n 0), (35, .getfield 9), (38, .iload_n 1), (39, .iaload), (40, .iastore), (41, .goto 26), (44, .aload_n 0), (45, .getfield 18), (48, .iload_n 1), (49, .iaload), (50, .aload_n 0), (51, .getfield 9), (54, .iload_n 1), (55, .iaload), (56, .if_icmp .eq 11), (59, .aload_n 0), (60, .getfield 18), (63, .iload_n 1), (64, .bipush (-2)), (66, .iastore), (67, .iinc 1 1), (70, .goto (-68)), (73, .aload_n 0), (74, .dup), (75, .getfield 33), (78, .iconst 1), (79, .iadd), (80, .putfield 33), (83, .return_)])
theorem mok_X7_takeRow : MOK mX7_takeRow 0 := ⟨tbl_ok (by decide +kernel), wm_1194, by decide +kernel, rfl, ⟨by decide +kernel, by decide +kernel, by decide +kernel⟩, wm_160, by decide⟩
def mX8_init : pM := (8, yX8_init, prog_10_method_1_code, 1, (Option.none : Option FieldType), [(0, .aload_n 0), (1, .invokespecial 3), (4, .aload_n 0), (5, .bipush 30), (7, .newarray .int), (9, .putfield 11), (12, .aload_n 0), (13, .bipush 30), (15, .newarray .int), (17, .putfield 15), (20, .aload_n 0), (21, .bipush 30), (23, .newarray .int), (25, .putfield 18), (28, .aload_n 0), (29, .bipush 30), (31, .newarray .int), (33, .putfield 21), (36, .aload_n 0), (37, .bipush 30), (39, .newarray .int), (41, .putfield 24), (44, .aload_n 0), (45, .bipush 30), (47, .newarray .int), (49, .putfield 27), (52, .aload_n 0), (53, .bipush 30), (55, .newarray .int), (57, .putfield 30), (60, .return_)])
theorem mok_X8_init : MOK mX8_init 0 := ⟨tbl_ok (by decide +kernel), wm_463, by decide +kernel, rfl, ⟨by decide +kernel, by decide +kernel, by decide +kernel⟩, wm_157, by decide⟩
def mX8_clear : pM := (8, yX8_clear, prog_10_method_2_code, 1, (Option.none : Option FieldType), [(0, .aload_n 0), (1, .iconst 0), (2, .putfield 33), (5, .return_)])
theorem mok_X8_clear : MOK mX8_clear 0 := ⟨tbl_ok (by decide +kernel), wm_901, by decide +kernel, rfl, ⟨by decide +kernel, by decide +kernel, by decide +kernel⟩, wm_157, by decide⟩
def mX8_tellIce : pM := (8, yX8_tellIce, prog_10_method_3_code, 6, (Option.some FieldType.int), [(0, .aload_n 0), (1, .getfield 33), (4, .bipush 30), (6, .if_icmp .lt 5), (9, .iconst (-1)), (10, .ireturn), (11, .aload_n 0), (12, .getfield 15), (15, .aload_n 0), (16, .getfield 33), (19, .iload_n 2), (20, .iastore), (21, .aload_n 0), (22, .getfield 18), (25, .aload_n 0), (26, .getfield 33), (29, .iconst (-1)), (30, .iastore), (31, .aload_n 0), (32, .iload_n 1), (33, .iload_n 3), (34, .iload 4), (36, .iload 5), (38, .invokevirtual 37), (41, .ireturn)])
theorem mok_X8_tellIce : MOK mX8_tellIce 5 := ⟨tbl_ok (by decide +kernel), wm_1143, by decide +kernel, rfl, ⟨by decide +kernel, by decide +kernel, by decide +kernel⟩, wm_157, by decide⟩
def mX8_tellSkater : pM := (8, yX8_tellSkater, prog_10_method_4_code, 6, (Option.some FieldType.int), [(0, .aload_n 0), (1, .getfield 33), (4, .bipush 30), (6, .if_icmp .lt 5), (9, .iconst (-1)), (10, .ireturn), (11, .aload_n 0), (12, .getfield 15), (15, .aload_n 0), (16, .getfield 33), (19, .iconst (-1)), (20, .iastore), (21, .aload_n 0), (22, .getfield 18), (25, .aload_n 0), (26, .getfield 33), (29, .iload_n 2), (30, .iastore), (31, .iload_n 3), (32, .ifCond .eq 7), (35, .iconst 1), (36, .goto 4), (39, .iconst 0), (40, .istore 5), (42, .aload_n 0), (43, .iload_n 1), (44, .iload 5), (46, .iload 5), (48, .iload 4), (50, .invokevirtual 37), (53, .ireturn)])
theorem mok_X8_tellSkater : MOK mX8_tellSkater 4 := ⟨tbl_ok (by decide +kernel), wm_1155, by decide +kernel, rfl, ⟨by decide +kernel, by decide +kernel, by decide +kernel⟩, wm_157, by decide⟩
def mX8_tell : pM := (8, yX8_tell, prog_10_method_5_code, 5, (Option.some FieldType.int), [(0, .aload_n 0), (1, .getfield 11), (4, .aload_n 0), (5, .getfield 33), (8, .iload_n 1), (9, .iastore), (10, .aload_n 0), (11, .getfield 21), (14, .aload_n 0), (15, .getfield 33), (18, .iload_n 2), (19, .iastore), (20, .aload_n 0), (21, .getfield 24), (24, .aload_n 0), (25, .getfield 33), (28, .iload_n 3), (29, .iastore), (30, .aload_n 0), (31, .getfield 27), (34, .aload_n 0), (35, .getfield 33), (38, .iload 4), (40, .iastore), (41, .aload_n 0), (42, .getfield 30), (45, .aload_n 0), (46, .getfield 33), (49, .iconst (-1)), (50, .iastore), (51, .aload_n 0), (52, .dup), (53, .getfield 33), (56, .iconst 1), (57, .iadd), (58, .putfield 33), (61, .aload_n 0), (62, .getfield 33), (65, .iconst 1), (66, .isub), (67, .ireturn)])
theorem mok_X8_tell : MOK mX8_tell 4 := ⟨tbl_ok (by decide +kernel), wm_1147, by decide +kernel, rfl, ⟨by decide +kernel, by decide +kernel, by decide +kernel⟩, wm_157, by decide⟩
def mX8_takeAway : pM := (8, yX8_takeAway, prog_10_method_6_code, 3, (Option.some FieldType.boolean), [(0, .iload_n 1), (1, .ifCond .lt 21), (4, .iload_n 1), (5, .aload_n 0), (6, .getfield 33), (9, .if_icmp .ge 13), (12, .aload_n 0), (13, .getfield 30), (16, .iload_n 1), (17, .iaload), (18, .iconst (-1)), (19, .if_icmp .eq 5), (22, .iconst 0), (23, .ireturn), (24, .aload_n 0), (25, .getfield 30), (28, .iload_n 1), (29, .iload_n 2), (30, .iastore), (31, .iconst 1), (32, .ireturn)])
theorem mok_X8_takeAway : MOK mX8_takeAway 2 := ⟨tbl_ok (by decide +kernel), wm_1163, by decide +kernel, rfl, ⟨by decide +kernel, by decide +kernel, by decide +kernel⟩, wm_157, by decide⟩
def mX8_isKnown : pM := (8, yX8_isKnown, prog_10_method_7_code, 3, (Option.some FieldType.boolean), [(0, .aload_n 0), (1, .getfield 27), (4, .iload_n 1), (5, .iaload), (6, .iload_n 2), (7, .if_icmp .gt 27), (10, .aload_n 0), (11, .getfield 30), (14, .iload_n 1), (15, .iaload), (16, .iconst (-1)), (17, .if_icmp .eq 13), (20, .aload_n 0), (21, .getfield 30), (24, .iload_n 1), (25, .iaload), (26, .iload_n 2), (27, .if_icmp .le 7), (30, .iconst 1), (31, .goto 4), (34, .iconst 0), (35, .ireturn)])
theorem mok_X8_isKnown : MOK mX8_isKnown 2 := ⟨tbl_ok (by decide +kernel), wm_1184, by decide +kernel, rfl, ⟨by decide +kernel, by decide +kernel, by decide +kernel⟩, wm_157, by decide⟩
def mX8_lastBar : pM := (8, yX8_lastBar, prog_10_method_8_code, 4, (Option.some FieldType.int), [(0, .iconst 0), (1, .istore_n 2), (2, .iconst 0), (3, .istore_n 3), (4, .iload_n 3), (5, .aload_n 0), (6, .getfield 33), (9, .if_icmp .ge 29), (12, .aload_n 0), (13, .iload_n 3), (14, .iload_n 1), (15, .invokevirtual 41), (18, .ifCond .eq 14), (21, .iload_n 2), (22, .aload_n 0), (23, .getfield 11), (26, .iload_n 3), (27, .iaload), (28, .invokestatic 45), (31, .istore_n 2), (32, .iinc 3 1), (35, .goto (-31)), (38, .iload_n 2), (39, .ireturn)])
theorem mok_X8_lastBar : MOK mX8_lastBar 1 := ⟨tbl_ok (by decide +kernel), wm_1180, by decide +kernel, rfl, ⟨by decide +kernel, by decide +kernel, by decide +kernel⟩, wm_157, by decide⟩
def mX8_areSo : pM := (8, yX8_areSo, prog_10_method_9_code, 4, (Option.some FieldType.boolean), [(0, .iconst 0), (1, .istore_n 3), (2, .iload_n 3), (3, .aload_n 0), (4, .getfield 33), (7, .if_icmp .ge 42), (10, .aload_n 0), (11, .getfield 11), (14, .iload_n 3), (15, .iaload), (16, .aload_n 1), (17, .getfield 51), (20, .if_icmp .ne 23), (23, .aload_n 0), (24, .iload_n 3), (25, .iload_n 2), (26, .invokevirtual 41), (29, .ifCond .eq 14), (32, .aload_n 0), (33, .iload_n 3), (34, .aload_n 1), (35, .invokevirtual 56), (38, .ifCond .ne 5), (41, .iconst 0), (42, .ireturn), (43, .iinc 3 1), (46, .goto (-44)), (49, .iconst 1), (50, .ireturn)])
theorem mok_X8_areSo : MOK mX8_areSo 2 := ⟨tbl_ok (by decide +kernel), wm_1204, by decide +kernel, rfl, ⟨by decide +kernel, by decide +kernel, by decide +kernel⟩, wm_157, by decide⟩
def mX8_isSo : pM := (8, yX8_isSo, prog_10_method_10_code, 4, (Option.some FieldType.boolean), [(0, .aload_n 0), (1, .getfield 18), (4, .iload_n 1), (5, .iaload), (6, .iconst (-1)), (7, .if_icmp .eq 25), (10, .aload_n 2), (11, .aload_n 0), (12, .getfield 18), (15, .iload_n 1), (16, .iaload), (17, .invokevirtual 60), (20, .ifCond .eq 7), (23, .iconst 1), (24, .goto 4), (27, .iconst 0), (28, .istore_n 3), (29, .goto 15), (32, .aload_n 2), (33, .getfield 64), (36, .aload_n 0), (37, .getfield 15), (40, .iload_n 1), (41, .iaload), (42, .iaload), (43, .istore_n 3), (44, .iload_n 3), (45, .aload_n 0), (46, .getfield 21), (49, .iload_n 1), (50, .iaload), (51, .if_icmp .lt 17), (54, .iload_n 3), (55, .aload_n 0), (56, .getfield 24), (59, .iload_n 1), (60, .iaload), (61, .if_icmp .gt 7), (64, .iconst 1), (65, .goto 4), (68, .iconst 0), (69, .ireturn)])
theorem mok_X8_isSo : MOK mX8_isSo 2 := ⟨tbl_ok (by decide +kernel), wm_1208, by decide +kernel, rfl, ⟨by decide +kernel, by decide +kernel, by decide +kernel⟩, wm_157, by decide⟩
end
section
def mX9_init : pM := (9, yX9_init, prog_11_method_1_code, 1, (Option.none : Option FieldType), [(0, .aload_n 0), (1, .invokespecial 1), (4, .return_)])
theorem mok_X9_init : MOK mX9_init 0 := ⟨tbl_ok (by decide +kernel), wm_300, by decide +kernel, rfl, ⟨by decide +kernel, by decide +kernel, by decide +kernel⟩, wm_153, by decide⟩
def mX9_begin : pM := (9, yX9_begin, prog_11_method_2_code, 3, (Option.none : Option FieldType), [(0, .aload_n 0), (1, .aload_n 1), (2, .putfield 7), (5, .aload_n 0), (6, .aload_n 1), (7, .ifnonnull 7), (10, .iconst 0), (11, .goto 9), (14, .iload_n 2), (15, .aload_n 1), (16, .arraylength), (17, .invokestatic 13), (20, .putfield 19), (23, .aload_n 0), (24, .iconst 0), (25, .putfield 23), (28, .aload_n 0), (29, .invokevirtual 26), (32, .return_)])
theorem mok_X9_begin : MOK mX9_begin 2 := ⟨tbl_ok (by decide +kernel), wm_663, by decide +kernel, rfl, ⟨by decide +kernel, by decide +kernel, by decide +kernel⟩, wm_153, by decide⟩
def mX9_next : pM := (9, yX9_next, prog_11_method_3_code, 1, (Option.none : Option FieldType), [(0, .aload_n 0), (1, .getfield 23), (4, .aload_n 0), (5, .getfield 19), (8, .if_icmp .ge 44), (11, .aload_n 0), (12, .getfield 7), (15, .aload_n 0), (16, .getfield 23), (19, .baload), (20, .bipush 32), (22, .if_icmp .eq 17), (25, .aload_n 0), (26, .getfield 7), (29, .aload_n 0), (30, .getfield 23), (33, .baload), (34, .bipush 10), (36, .if_icmp .ne 16), (39, .aload_n 0), (40, .dup), (41, .getfield 23), (44, .iconst 1), (45, .iadd), (46, .putfield 23), (49, .goto (-49)), (52, .aload_n 0), (53, .aload_n 0), (54, .getfield 23), (57, .putfield 29), (60, .aload_n 0), (61, .getfield 29), (64, .aload_n 0), (65, .getfield 19), (68, .if_icmp .lt 11), (71, .aload_n 0), (72, .iconst 0), (73, .putfield 32), (76, .goto 88), (79, .aload_n 0), (80, .aload_n 0), (81, .getfield 29), (84, .invokevirtual 35), (87, .ifCond .eq 10), (90, .aload_n 0), (91, .invokevirtual 39), (94, .goto 70), (97, .aload_n 0), (98, .aload_n 0), (99, .getfield 29), (102, .invokevirtual 42), (105, .ifCond .eq 10), (108, .aload_n 0), (109, .invokevirtual 45), (112, .goto 52), (115, .aload_n 0), (116, .dup), (117, .getfield 23), (120, .iconst 1), (121, .iadd), (122, .putfield 23), (125, .aload_n 0), (126, .ldc 48), (128, .aload_n 0), (129, .getfield 7), (132, .aload_n 0), (133, .getfield 29), (136, .baload), (137, .sipush 255), (140, .iand), (141, .i2c), (142, .invokevirtual 50), (145, .ifCond .lt 15), (148, .aload_n 0), (149, .getfield 7), (152, .aload_n 0), (153, .getfield 29), (156, .baload), (157, .goto 4), (160, .iconst 1), (161, .putfield 32), (164, .return_)])
theorem mok_X9_next : MOK mX9_next 0 := ⟨tbl_ok (by decide +kernel), wm_670, by decide +kernel, rfl, ⟨by decide +kernel, by decide +kernel, by decide +kernel⟩, wm_153, by decide⟩
def mX9_isLetter : pM := (9, yX9_isLetter, prog_11_method_4_code, 2, (Option.some FieldType.boolean), [(0, .iload_n 1), (1, .aload_n 0), (2, .getfield 19), (5, .if_icmp .ge 29), (8, .aload_n 0), (9, .getfield 7), (12, .iload_n 1), (13, .baload), (14, .bipush 97), (16, .if_icmp .lt 18), (19, .aload_n 0), (20, .getfield 7), (23, .iload_n 1), (24, .baload), (25, .bipush 122), (27, .if_icmp .gt 7), (30, .iconst 1), (31, .goto 4), (34, .iconst 0), (35, .ireturn)])
theorem mok_X9_isLetter : MOK mX9_isLetter 1 := ⟨tbl_ok (by decide +kernel), wm_674, by decide +kernel, rfl, ⟨by decide +kernel, by decide +kernel, by decide +kernel⟩, wm_153, by decide⟩
def mX9_isDigit : pM := (9, yX9_isDigit, prog_11_method_5_code, 2, (Option.some FieldType.boolean), [(0, .iload_n 1), (1, .aload_n 0), (2, .getfield 19), (5, .if_icmp .ge 29), (8, .aload_n 0), (9, .getfield 7), (12, .iload_n 1), (13, .baload), (14, .bipush 48), (16, .if_icmp .lt 18), (19, .aload_n 0), (20, .getfield 7), (23, .iload_n 1), (24, .baload), (25, .bipush 57), (27, .if_icmp .gt 7), (30, .iconst 1), (31, .goto 4), (34, .iconst 0), (35, .ireturn)])
theorem mok_X9_isDigit : MOK mX9_isDigit 1 := ⟨tbl_ok (by decide +kernel), wm_735, by decide +kernel, rfl, ⟨by decide +kernel, by decide +kernel, by decide +kernel⟩, wm_153, by decide⟩
def mX9_takeWord : pM := (9, yX9_takeWord, prog_11_method_6_code, 1, (Option.none : Option FieldType), [(0, .aload_n 0), (1, .getfield 23), (4, .aload_n 0), (5, .getfield 19), (8, .if_icmp .ge 27), (11, .aload_n 0), (12, .aload_n 0), (13, .getfield 23), (16, .invokevirtual 35), (19, .ifCond .eq 16), (22, .aload_n 0), (23, .dup), (24, .getfield 23), (27, .iconst 1), (28, .iadd), (29, .putfield 23), (32, .goto (-32)), (35, .aload_n 0), (36, .aload_n 0), (37, .getfield 23), (40, .aload_n 0), (41, .getfield 29), (44, .isub), (45, .bipush 8), (47, .if_icmp .le 7), (50, .iconst 1), (51, .goto 7), (54, .aload_n 0), (55, .invokevirtual 56), (58, .putfield 32), (61, .return_)])
theorem mok_X9_takeWord : MOK mX9_takeWord 0 := ⟨tbl_ok (by decide +kernel), wm_678, by decide +kernel, rfl, ⟨by decide +kernel, by decide +kernel, by decide +kernel⟩, wm_153, by decide⟩
def mX9_kindOfWord : pM := (9, yX9_kindOfWord, prog_11_method_7_code, 3, (Option.some FieldType.int), [(0, .iconst 0), (1, .istore_n 1), (2, .iload_n 1), (3, .bipush 8), (5, .iadd), (6, .ldc 60), (8, .invokevirtual 62), (11, .if_icmp .gt 78), (14, .iconst 0), (15, .istore_n 2), (16, .iload_n 2), (17, .bipush 8), (19, .if_icmp .ge 49), (22, .ldc 60), (24, .iload_n 1), (25, .iload_n 2), (26, .iadd), (27, .invokevirtual 64), (30, .aload_n 0), (31, .getfield 29), (34, .iload_n 2), (35, .iadd), (36, .aload_n 0), (37, .getfield 23), (40, .if_icmp .ge 17), (43, .aload_n 0), (44, .getfield 7), (47, .aload_n 0), (48, .getfield 29), (51, .iload_n 2), (52, .iadd), (53, .baload), (54, .goto 5), (57, .bipush 32), (59, .if_icmp .ne 9), (62, .iinc 2 1), (65, .goto (-49)), (68, .iload_n 2), (69, .bipush 8), (71, .if_icmp .ne 12), (74, .sipush 128), (77, .iload_n 1), (78, .bipush 8), (80, .idiv), (81, .iadd), (82, .ireturn), (83, .iinc 1 8), (86, .goto (-84)), (89, .iconst 3), (90, .ireturn)])
theorem mok_X9_kindOfWord : MOK mX9_kindOfWord 0 := ⟨tbl_ok (by decide +kernel), wm_682, by decide +kernel, rfl, ⟨by decide +kernel, by decide +kernel, by decide +kernel⟩, wm_153, by decide⟩
def mX9_takeNumber : pM := (9, yX9_takeNumber, prog_11_method_8_code, 1, (Option.none : Option FieldType), [(0, .aload_n 0), (1, .iconst 0), (2, .putfield 68), (5, .aload_n 0), (6, .getfield 23), (9, .aload_n 0), (10, .getfield 19), (13, .if_icmp .ge 64), (16, .aload_n 0), (17, .aload_n 0), (18, .getfield 23), (21, .invokevirtual 42), (24, .ifCond .eq 53), (27, .aload_n 0), (28, .getfield 23), (31, .aload_n 0), (32, .getfield 29), (35, .isub), (36, .iconst 4), (37, .if_icmp .ge 27), (40, .aload_n 0), (41, .aload_n 0), (42, .getfield 68), (45, .bipush 10), (47, .imul), (48, .aload_n 0), (49, .getfield 7), (52, .aload_n 0), (53, .getfield 23), (56, .baload), (57, .iadd), (58, .bipush 48), (60, .isub), (61, .putfield 68), (64, .aload_n 0), (65, .dup), (66, .getfield 23), (69, .iconst 1), (70, .iadd), (71, .putfield 23), (74, .goto (-69)), (77, .aload_n 0), (78, .aload_n 0), (79, .getfield 23), (82, .aload_n 0), (83, .getfield 29), (86, .isub), (87, .iconst 4), (88, .if_icmp .gt 14), (91, .aload_n 0), (92, .aload_n 0), (93, .getfield 23), (96, .invokevirtual 35), (99, .ifCond .eq 7), (102, .iconst 1), (103, .goto 4), (106, .iconst 2), (107, .putfield 32), (110, .return_)])
theorem mok_X9_takeNumber : MOK mX9_takeNumber 0 := ⟨tbl_ok (by decide +kernel), wm_739, by decide +kernel, rfl, ⟨by decide +kernel, by decide +kernel, by decide +kernel⟩, wm_153, by decide⟩
def mX9_isSameWord : pM := (9, yX9_isSameWord, prog_11_method_9_code, 4, (Option.some FieldType.boolean), [(0, .aload_n 0), (1, .getfield 23), (4, .aload_n 0), (5, .getfield 29), (8, .isub), (9, .iload_n 2), (10, .if_icmp .eq 5), (13, .iconst 0), (14, .ireturn), (15, .iconst 0), (16, .istore_n 3), (17, .iload_n 3), (18, .iload_n 2), (19, .if_icmp .ge 56), (22, .iload_n 1), (23, .iload_n 3), (24, .iadd), (25, .aload_n 0), (26, .getfield 19), (29, .if_icmp .ge 46), (32, .aload_n 0), (33, .getfield 29), (36, .iload_n 3), (37, .iadd), (38, .aload_n 0), (39, .getfield 19), (42, .if_icmp .ge 33), (45, .aload_n 0), (46, .getfield 7), (49, .iload_n 1), (50, .iload_n 3), (51, .iadd), (52, .baload), (53, .aload_n 0), (54, .getfield 7), (57, .aload_n 0), (58, .getfield 29), (61, .iload_n 3), (62, .iadd), (63, .baload), (64, .if_icmp .eq 5), (67, .iconst 0), (68, .ireturn), (69, .iinc 3 1), (72, .goto (-55)), (75, .iconst 1), (76, .ireturn)])
theorem mok_X9_isSameWord : MOK mX9_isSameWord 2 := ⟨tbl_ok (by decide +kernel), wm_854, by decide +kernel, rfl, ⟨by decide +kernel, by decide +kernel, by decide +kernel⟩, wm_153, by decide⟩
def mX10_init : pM := (10, yX10_init, prog_1_method_1_code, 3, (Option.none : Option FieldType), [(0, .aload_n 0), (1, .invokespecial 3), (4, .aload_n 0), (5, .sipush 1600), (8, .newarray .byte), (10, .putfield 9), (13, .aload_n 0), (14, .new 13), (17, .dup), (18, .invokespecial 15), (21, .putfield 16), (24, .aload_n 0), (25, .new 13), (28, .dup), (29, .invokespecial 15), (32, .putfield 20), (35, .aload_n 0), (36, .new 23), (39, .dup), (40, .invokespecial 25), (43, .putfield 26), (46, .aload_n 0), (47, .new 30), (50, .dup), (51, .aload_n 0), (52, .getfield 16), (55, .invokespecial 32), (58, .putfield 35), (61, .aload_n 0), (62, .new 39), (65, .dup), (66, .invokespecial 41), (69, .putfield 42), (72, .aload_n 0), (73, .iconst 3), (74, .anewarray 46), (77, .putfield 48), (80, .aload_n 0), (81, .iconst 3), (82, .newarray .boolean), (84, .putfield 52), (87, .aload_n 0), (88, .new 56), (91, .dup), (92, .invokespecial 58), (95, .putfield 59), (98, .aload_n 0), (99, .bipush 6), (101, .newarray .int), (103, .putfield 63), (106, .iconst 0), (107, .istore_n 1), (108, .iload_n 1), (109, .iconst 3), (110, .if_icmp .ge 22), (113, .aload_n 0), (114, .getfield 48), (117, .iload_n 1), (118, .new 46), (121, .dup), (122, .invokespecial 67), (125, .aastore), (126, .iinc 1 1), (129, .goto (-21)), (132, .bipush 7), (134, .anewarray 46), (137, .astore_n 1), (138, .iconst 0), (139, .istore_n 2), (140, .iload_n 2), (141, .aload_n 1), (142, .arraylength), (143, .if_icmp .ge 19), (146, .aload_n 1), (147, .iload_n 2), (148, .new 46), (151, .dup), (152, .invokespecial 67), (155, .aastore), (156, .iinc 2 1), (159, .goto (-19)), (162, .aload_n 0), (163, .new 68), (166, .dup), (167, .aload_n 0), (168, .getfield 35), (171, .aload_n 1), (172, .invokespecial 70), (175, .putfield 73), (178, .aload_n 0), (179, .new 77), (182, .dup), (183, .aload_n 0), (184, .getfield 35), (187, .aload_n 1), (188, .invokespecial 79), (191, .putfield 80), (194, .aload_n 0), (195, .new 84), (198, .dup), (199, .aload_n 0), (200, .getfield 35), (203, .aload_n 1), (204, .aload_n 0), (205, .getfield 59), (208, .invokespecial 86), (211, .putfield 89), (214, .aload_n 0), (215, .getfield 42), (218, .invokevirtual 93), (221, .aload_n 0), (222, .getfield 16), (225, .invokevirtual 97), (228, .return_)])
theorem mok_X10_init : MOK mX10_init 0 := ⟨tbl_ok (by decide +kernel), wm_174, by decide +kernel, rfl, ⟨by decide +kernel, by decide +kernel, by decide +kernel⟩, wm_150, by decide⟩
def mX10_feed : pM := (10, yX10_feed, prog_1_method_2_code, 6, (Option.some FieldType.int), [(0, .aload_n 0), (1, .getfield 100), (4, .sipush 1580), (7, .if_icmp .le 5), (10, .iconst (-1)), (11, .ireturn), (12, .aload_n 0), (13, .iload_n 1), (14, .invokevirtual 104), (17, .aload_n 0), (18, .iload_n 2), (19, .invokevirtual 104), (22, .aload_n 0), (23, .iload_n 3), (24, .invokevirtual 104), (27, .aload_n 0), (28, .iload 4), (30, .invokevirtual 104), (33, .aload_n 0), (34, .iload 5), (36, .invokevirtual 104), (39, .aload_n 0), (40, .getfield 100), (43, .ireturn)])
theorem mok_X10_feed : MOK mX10_feed 5 := ⟨tbl_ok (by decide +kernel), wm_642, by decide +kernel, rfl, ⟨by decide +kernel, by decide +kernel, by decide +kernel⟩, wm_150, by decide⟩
def mX10_tapeNumber : pM := (10, yX10_tapeNumber, prog_1_method_3_code, 3, (Option.none : Option FieldType), [(0, .bipush 24), (2, .istore_n 2), (3, .iload_n 2), (4, .ifCond .lt 42), (7, .aload_n 0), (8, .getfield 100), (11, .sipush 1600), (14, .if_icmp .ge 32), (17, .aload_n 0), (18, .getfield 9), (21, .aload_n 0), (22, .getfield 100), (25, .iload_n 1), (26, .iload_n 2), (27, .ishr), (28, .i2b), (29, .bastore), (30, .aload_n 0), (31, .dup), (32, .getfield 100), (35, .iconst 1), (36, .iadd), (37, .putfield 100), (40, .iinc 2 (-8)), (43, .goto (-40)), (46, .return_)])
theorem mok_X10_tapeNumber : MOK mX10_tapeNumber 1 := ⟨tbl_ok (by decide +kernel), wm_646, by decide +kernel, rfl, ⟨by decide +kernel, by decide +kernel, by decide +kernel⟩, wm_150, by decide⟩
def mX10_end : pM := (10, yX10_end, prog_1_method_4_code, 2, (Option.some FieldType.int), [(0, .iload_n 1), (1, .ifCond .lt 11), (4, .iload_n 1), (5, .aload_n 0), (6, .getfield 100), (9, .if_icmp .le 5), (12, .iconst (-1)), (13, .ireturn), (14, .aload_n 0), (15, .iload_n 1), (16, .putfield 100), (19, .iload_n 1), (20, .ireturn)])
theorem mok_X10_end : MOK mX10_end 1 := ⟨tbl_ok (by decide +kernel), wm_650, by decide +kernel, rfl, ⟨by decide +kernel, by decide +kernel, by decide +kernel⟩, wm_150, by decide⟩
def mX10_pond : pM := (10, yX10_pond, prog_1_method_5_code, 3, (Option.some FieldType.int), [(0, .aload_n 0), (1, .getfield 26), (4, .aload_n 0), (5, .getfield 9), (8, .aload_n 0), (9, .getfield 100), (12, .aload_n 0), (13, .getfield 20), (16, .invokevirtual 108), (19, .ifCond .ne 5), (22, .iconst (-1)), (23, .ireturn), (24, .aload_n 0), (25, .getfield 16), (28, .astore_n 1), (29, .aload_n 0), (30, .aload_n 0), (31, .getfield 20), (34, .putfield 16), (37, .aload_n 0), (38, .aload_n 1), (39, .putfield 20), (42, .aload_n 0), (43, .getfield 35), (46, .aload_n 0), (47, .getfield 16), (50, .putfield 112), (53, .aload_n 0), (54, .iconst 0), (55, .putfield 100), (58, .aload_n 0), (59, .getfield 42), (62, .invokevirtual 115), (65, .aload_n 0), (66, .getfield 42), (69, .invokevirtual 93), (72, .aload_n 0), (73, .getfield 16), (76, .invokevirtual 97), (79, .aload_n 0), (80, .getfield 59), (83, .invokevirtual 118), (86, .aload_n 0), (87, .iconst 0), (88, .putfield 121), (91, .iconst 0), (92, .istore_n 2), (93, .iload_n 2), (94, .iconst 3), (95, .if_icmp .ge 16), (98, .aload_n 0), (99, .getfield 52), (102, .iload_n 2), (103, .iconst 0), (104, .bastore), (105, .iinc 2 1), (108, .goto (-15)), (111, .aload_n 0), (112, .getfield 16), (115, .getfield 124), (118, .aload_n 0), (119, .getfield 16), (122, .getfield 127), (125, .imul), (126, .ireturn)])
theorem mok_X10_pond : MOK mX10_pond 0 := ⟨tbl_ok (by decide +kernel), wm_654, by decide +kernel, rfl, ⟨by decide +kernel, by decide +kernel, by decide +kernel⟩, wm_150, by decide⟩
def mX10_fault : pM := (10, yX10_fault, prog_1_method_6_code, 2, (Option.some FieldType.int), [(0, .iload_n 1), (1, .lookupswitch 43 #[(0, 27), (1, 35)]), (28, .aload_n 0), (29, .getfield 26), (32, .getfield 130), (35, .ireturn), (36, .aload_n 0), (37, .getfield 26), (40, .getfield 133), (43, .ireturn), (44, .iconst (-1)), (45, .ireturn)])
theorem mok_X10_fault : MOK mX10_fault 1 := ⟨tbl_ok (by decide +kernel), wm_905, by decide +kernel, rfl, ⟨by decide +kernel, by decide +kernel, by decide +kernel⟩, wm_150, by decide⟩
def mX10_ice : pM := (10, yX10_ice, prog_1_method_7_code, 3, (Option.some FieldType.int), [(0, .aload_n 0), (1, .getfield 16), (4, .iload_n 1), (5, .iload_n 2), (6, .invokevirtual 136), (9, .ifCond .ne 5), (12, .iconst (-1)), (13, .ireturn), (14, .aload_n 0), (15, .getfield 42), (18, .invokevirtual 93), (21, .getfield 140), (24, .iload_n 1), (25, .iconst 5), (26, .iload_n 2), (27, .imul), (28, .iadd), (29, .iaload), (30, .ireturn)])
theorem mok_X10_ice : MOK mX10_ice 2 := ⟨tbl_ok (by decide +kernel), wm_909, by decide +kernel, rfl, ⟨by decide +kernel, by decide +kernel, by decide +kernel⟩, wm_150, by decide⟩
def mX10_load : pM := (10, yX10_load, prog_1_method_8_code, 3, (Option.some FieldType.int), [(0, .aload_n 0), (1, .getfield 16), (4, .iload_n 1), (5, .iload_n 2), (6, .invokevirtual 136), (9, .ifCond .ne 5), (12, .iconst (-1)), (13, .ireturn), (14, .aload_n 0), (15, .getfield 42), (18, .invokevirtual 93), (21, .iload_n 1), (22, .iconst 5), (23, .iload_n 2), (24, .imul), (25, .iadd), (26, .aload_n 0), (27, .getfield 16), (30, .invokevirtual 143), (33, .ireturn)])
theorem mok_X10_load : MOK mX10_load 2 := ⟨tbl_ok (by decide +kernel), wm_914, by decide +kernel, rfl, ⟨by decide +kernel, by decide +kernel, by decide +kernel⟩, wm_150, by decide⟩
def mX10_skater : pM := (10, yX10_skater, prog_1_method_9_code, 4, (Option.some FieldType.int), [(0, .aload_n 0), (1, .getfield 16), (4, .iload_n 1), (5, .invokevirtual 147), (8, .ifCond .ne 6), (11, .bipush (-2)), (13, .ireturn), (14, .aload_n 0), (15, .getfield 42), (18, .invokevirtual 93), (21, .astore_n 3), (22, .iload_n 2), (23, .tableswitch 90 0 5 #[37, 46, 55, 69, 76, 83]), (60, .aload_n 3), (61, .getfield 151), (64, .iload_n 1), (65, .iaload), (66, .iconst 5), (67, .irem), (68, .ireturn), (69, .aload_n 3), (70, .getfield 151), (73, .iload_n 1), (74, .iaload), (75, .iconst 5), (76, .idiv), (77, .ireturn), (78, .aload_n 3), (79, .iload_n 1), (80, .invokevirtual 154), (83, .ifCond .eq 7), (86, .iconst 1), (87, .goto 4), (90, .iconst 0), (91, .ireturn), (92, .aload_n 3), (93, .getfield 157), (96, .iload_n 1), (97, .iaload), (98, .ireturn), (99, .aload_n 3), (100, .getfield 160), (103, .iload_n 1), (104, .iaload), (105, .ireturn), (106, .aload_n 3), (107, .getfield 163), (110, .iload_n 1), (111, .iaload), (112, .ireturn), (113, .bipush (-2)), (115, .ireturn)])
theorem mok_X10_skater : MOK mX10_skater 2 := ⟨tbl_ok (by decide +kernel), wm_926, by decide +kernel, rfl, ⟨by decide +kernel, by decide +kernel, by decide +kernel⟩, wm_150, by decide⟩
def mX10_play : pM := (10, yX10_play, prog_1_method_10_code, 3, (Option.some FieldType.int), [(0, .aload_n 0), (1, .getfield 16), (4, .iload_n 1), (5, .invokevirtual 166), (8, .ifCond .eq 29), (11, .aload_n 0), (12, .getfield 42), (15, .invokevirtual 93), (18, .getfield 169), (21, .aload_n 0), (22, .getfield 16), (25, .getfield 172), (28, .iload_n 1), (29, .iaload), (30, .iadd), (31, .sipush 2000), (34, .if_icmp .le 5), (37, .iconst (-1)), (38, .ireturn), (39, .aload_n 0), (40, .getfield 42), (43, .invokevirtual 174), (46, .astore_n 2), (47, .aload_n 0), (48, .getfield 35), (51, .aload_n 2), (52, .iload_n 1), (53, .invokevirtual 177), (56, .aload_n 2), (57, .aload_n 0), (58, .getfield 16), (61, .invokevirtual 181), (64, .ireturn)])
theorem mok_X10_play : MOK mX10_play 1 := ⟨tbl_ok (by decide +kernel), wm_935, by decide +kernel, rfl, ⟨by decide +kernel, by decide +kernel, by decide +kernel⟩, wm_150, by decide⟩
def mX10_hold : pM := (10, yX10_hold, prog_1_method_11_code, 3, (Option.some FieldType.int), [(0, .iload_n 1), (1, .ifCond .lt 27), (4, .iload_n 1), (5, .bipush 20), (7, .if_icmp .gt 21), (10, .aload_n 0), (11, .getfield 42), (14, .invokevirtual 93), (17, .getfield 169), (20, .iload_n 1), (21, .iadd), (22, .sipush 2000), (25, .if_icmp .le 5), (28, .iconst (-1)), (29, .ireturn), (30, .aload_n 0), (31, .getfield 42), (34, .invokevirtual 174), (37, .astore_n 2), (38, .aload_n 0), (39, .getfield 35), (42, .aload_n 2), (43, .iload_n 1), (44, .invokevirtual 185), (47, .aload_n 2), (48, .aload_n 0), (49, .getfield 16), (52, .invokevirtual 181), (55, .ireturn)])
theorem mok_X10_hold : MOK mX10_hold 1 := ⟨tbl_ok (by decide +kernel), wm_1015, by decide +kernel, rfl, ⟨by decide +kernel, by decide +kernel, by decide +kernel⟩, wm_150, by decide⟩
def mX10_undo : pM := (10, yX10_undo, prog_1_method_12_code, 1, (Option.some FieldType.boolean), [(0, .aload_n 0), (1, .getfield 42), (4, .invokevirtual 188), (7, .ireturn)])
theorem mok_X10_undo : MOK mX10_undo 0 := ⟨tbl_ok (by decide +kernel), wm_1023, by decide +kernel, rfl, ⟨by decide +kernel, by decide +kernel, by decide +kernel⟩, wm_150, by decide⟩
def mX10_redo : pM := (10, yX10_redo, prog_1_method_13_code, 1, (Option.some FieldType.boolean), [(0, .aload_n 0), (1, .getfield 42), (4, .invokevirtual 192), (7, .ireturn)])
theorem mok_X10_redo : MOK mX10_redo 0 := ⟨tbl_ok (by decide +kernel), wm_1031, by decide +kernel, rfl, ⟨by decide +kernel, by decide +kernel, by decide +kernel⟩, wm_150, by decide⟩
def mX10_order : pM := (10, yX10_order, prog_1_method_14_code, 3, (Option.some FieldType.int), [(0, .aload_n 0), (1, .iconst 0), (2, .putfield 121), (5, .aload_n 0), (6, .getfield 16), (9, .iload_n 1), (10, .invokevirtual 195), (13, .ifCond .ne 5), (16, .iconst (-1)), (17, .ireturn), (18, .aload_n 0), (19, .getfield 73), (22, .aload_n 0), (23, .getfield 42), (26, .invokevirtual 93), (29, .iload_n 1), (30, .invokevirtual 198), (33, .istore_n 2), (34, .aload_n 0), (35, .aload_n 0), (36, .getfield 73), (39, .getfield 202), (42, .iload_n 1), (43, .invokestatic 205), (46, .invokevirtual 211), (49, .iload_n 2), (50, .ireturn)])
theorem mok_X10_order : MOK mX10_order 1 := ⟨tbl_ok (by decide +kernel), wm_1039, by decide +kernel, rfl, ⟨by decide +kernel, by decide +kernel, by decide +kernel⟩, wm_150, by decide⟩
def mX10_duel : pM := (10, yX10_duel, prog_1_method_15_code, 5, (Option.some FieldType.int), [(0, .iload_n 1), (1, .ifCond .eq 33), (4, .aload_n 0), (5, .getfield 16), (8, .iload_n 1), (9, .invokevirtual 195), (12, .ifCond .eq 22), (15, .iload_n 2), (16, .iconst 1), (17, .if_icmp .lt 17), (20, .iload_n 2), (21, .iconst 4), (22, .if_icmp .gt 12), (25, .iload_n 3), (26, .ifCond .lt 8), (29, .iload_n 3), (30, .iconst 1), (31, .if_icmp .le 5), (34, .iconst (-1)), (35, .ireturn), (36, .aload_n 0), (37, .getfield 80), (40, .aload_n 0), (41, .getfield 42), (44, .invokevirtual 93), (47, .iload_n 1), (48, .iload_n 2), (49, .invokevirtual 215), (52, .istore 4), (54, .iload_n 3), (55, .ifCond .ne 8), (58, .iload 4), (60, .goto 10), (63, .aload_n 0), (64, .getfield 80), (67, .getfield 219), (70, .ireturn)])
theorem mok_X10_duel : MOK mX10_duel 3 := ⟨tbl_ok (by decide +kernel), wm_1068, by decide +kernel, rfl, ⟨by decide +kernel, by decide +kernel, by decide +kernel⟩, wm_150, by decide⟩
def mX10_planks : pM := (10, yX10_planks, prog_1_method_16_code, 3, (Option.some FieldType.int), [(0, .aload_n 0), (1, .iconst 0), (2, .putfield 121), (5, .aload_n 0), (6, .getfield 16), (9, .iload_n 1), (10, .invokevirtual 166), (13, .ifCond .ne 6), (16, .bipush (-2)), (18, .ireturn), (19, .aload_n 0), (20, .getfield 73), (23, .aload_n 0), (24, .getfield 42), (27, .invokevirtual 93), (30, .iload_n 1), (31, .invokevirtual 222), (34, .istore_n 2), (35, .aload_n 0), (36, .aload_n 0), (37, .getfield 73), (40, .getfield 202), (43, .iload_n 2), (44, .invokevirtual 211), (47, .iload_n 2), (48, .ireturn)])
theorem mok_X10_planks : MOK mX10_planks 1 := ⟨tbl_ok (by decide +kernel), wm_1093, by decide +kernel, rfl, ⟨by decide +kernel, by decide +kernel, by decide +kernel⟩, wm_150, by decide⟩
def mX10_hush : pM := (10, yX10_hush, prog_1_method_17_code, 4, (Option.some FieldType.int), [(0, .aload_n 0), (1, .getfield 16), (4, .iload_n 1), (5, .invokevirtual 166), (8, .ifCond .eq 12), (11, .iload_n 2), (12, .ifCond .lt 8), (15, .iload_n 2), (16, .iconst 1), (17, .if_icmp .le 5), (20, .iconst (-1)), (21, .ireturn), (22, .aload_n 0), (23, .getfield 73), (26, .aload_n 0), (27, .getfield 42), (30, .invokevirtual 93), (33, .iload_n 1), (34, .invokevirtual 225), (37, .istore_n 3), (38, .iload_n 2), (39, .ifCond .ne 7), (42, .iload_n 3), (43, .goto 10), (46, .aload_n 0), (47, .getfield 73), (50, .getfield 228), (53, .ireturn)])
theorem mok_X10_hush : MOK mX10_hush 2 := ⟨tbl_ok (by decide +kernel), wm_1109, by decide +kernel, rfl, ⟨by decide +kernel, by decide +kernel, by decide +kernel⟩, wm_150, by decide⟩
def mX10_breaks : pM := (10, yX10_breaks, prog_1_method_18_code, 3, (Option.some FieldType.int), [(0, .aload_n 0), (1, .getfield 16), (4, .iload_n 1), (5, .invokevirtual 166), (8, .ifCond .eq 15), (11, .iload_n 2), (12, .bipush (-9)), (14, .if_icmp .lt 9), (17, .iload_n 2), (18, .bipush 9), (20, .if_icmp .le 6), (23, .bipush (-2)), (25, .ireturn), (26, .aload_n 0), (27, .getfield 73), (30, .aload_n 0), (31, .getfield 42), (34, .invokevirtual 93), (37, .iload_n 1), (38, .iload_n 2), (39, .invokevirtual 231), (42, .ireturn)])
theorem mok_X10_breaks : MOK mX10_breaks 2 := ⟨tbl_ok (by decide +kernel), wm_1118, by decide +kernel, rfl, ⟨by decide +kernel, by decide +kernel, by decide +kernel⟩, wm_150, by decide⟩
def mX10_lies : pM := (10, yX10_lies, prog_1_method_19_code, 2, (Option.some FieldType.int), [(0, .iload_n 1), (1, .ifCond .lt 11), (4, .iload_n 1), (5, .aload_n 0), (6, .getfield 121), (9, .if_icmp .lt 7), (12, .iconst (-1)), (13, .goto 9), (16, .aload_n 0), (17, .getfield 63), (20, .iload_n 1), (21, .iaload), (22, .ireturn)])
theorem mok_X10_lies : MOK mX10_lies 1 := ⟨tbl_ok (by decide +kernel), wm_1132, by decide +kernel, rfl, ⟨by decide +kernel, by decide +kernel, by decide +kernel⟩, wm_150, by decide⟩
def mX10_layDown : pM := (10, yX10_layDown, prog_1_method_20_code, 4, (Option.none : Option FieldType), [(0, .aload_n 0), (1, .iconst 0), (2, .putfield 121), (5, .iconst 0), (6, .istore_n 3), (7, .iload_n 3), (8, .iload_n 2), (9, .if_icmp .ge 43), (12, .iload_n 3), (13, .aload_n 1), (14, .arraylength), (15, .if_icmp .ge 37), (18, .iload_n 3), (19, .aload_n 0), (20, .getfield 63), (23, .arraylength), (24, .if_icmp .ge 28), (27, .aload_n 0), (28, .getfield 63), (31, .iload_n 3), (32, .aload_n 1), (33, .iload_n 3), (34, .iaload), (35, .iastore), (36, .aload_n 0), (37, .dup), (38, .getfield 121), (41, .iconst 1), (42, .iadd), (43, .putfield 121), (46, .iinc 3 1), (49, .goto (-42)), (52, .return_)])
theorem mok_X10_layDown : MOK mX10_layDown 2 := ⟨tbl_ok (by decide +kernel), wm_1064, by decide +kernel, rfl, ⟨by decide +kernel, by decide +kernel, by decide +kernel⟩, wm_150, by decide⟩
def mX10_sight : pM := (10, yX10_sight, prog_1_method_21_code, 6, (Option.some FieldType.int), [(0, .iload_n 1), (1, .invokestatic 234), (4, .ifCond .eq 34), (7, .aload_n 0), (8, .getfield 16), (11, .iload_n 2), (12, .iload_n 3), (13, .invokevirtual 136), (16, .ifCond .eq 22), (19, .iload 4), (21, .ifCond .lt 17), (24, .iload 5), (26, .iload 4), (28, .if_icmp .lt 10), (31, .iload 5), (33, .bipush 99), (35, .if_icmp .le 5), (38, .iconst (-1)), (39, .ireturn), (40, .aload_n 0), (41, .getfield 59), (44, .iload_n 1), (45, .iload_n 2), (46, .iconst 5), (47, .iload_n 3), (48, .imul), (49, .iadd), (50, .iload 4), (52, .iload 5), (54, .aload_n 0), (55, .getfield 237), (58, .invokevirtual 240), (61, .ireturn)])
theorem mok_X10_sight : MOK mX10_sight 5 := ⟨tbl_ok (by decide +kernel), wm_1136, by decide +kernel, rfl, ⟨by decide +kernel, by decide +kernel, by decide +kernel⟩, wm_150, by decide⟩
def mX10_seen : pM := (10, yX10_seen, prog_1_method_22_code, 4, (Option.some FieldType.int), [(0, .iload_n 1), (1, .invokestatic 234), (4, .ifCond .eq 14), (7, .aload_n 0), (8, .getfield 16), (11, .iload_n 2), (12, .invokevirtual 147), (15, .ifCond .ne 5), (18, .iconst (-1)), (19, .ireturn), (20, .aload_n 0), (21, .getfield 59), (24, .iload_n 1), (25, .iload_n 2), (26, .iload_n 3), (27, .aload_n 0), (28, .getfield 237), (31, .invokevirtual 244), (34, .ireturn)])
theorem mok_X10_seen : MOK mX10_seen 3 := ⟨tbl_ok (by decide +kernel), wm_1151, by decide +kernel, rfl, ⟨by decide +kernel, by decide +kernel, by decide +kernel⟩, wm_150, by decide⟩
def mX10_isSightBar : pM := (10, yX10_isSightBar, prog_1_method_23_code, 1, (Option.some FieldType.boolean), [(0, .iload_n 0), (1, .iconst 1), (2, .if_icmp .lt 13), (5, .iload_n 0), (6, .bipush 36), (8, .if_icmp .gt 7), (11, .iconst 1), (12, .goto 4), (15, .iconst 0), (16, .ireturn)])
theorem mok_X10_isSightBar : MOK mX10_isSightBar 1 := ⟨tbl_ok (by decide +kernel), wm_1139, by decide +kernel, rfl, ⟨by decide +kernel, by decide +kernel, by decide +kernel⟩, wm_150, by decide⟩
def mX10_untell : pM := (10, yX10_untell, prog_1_method_24_code, 2, (Option.some FieldType.boolean), [(0, .aload_n 0), (1, .getfield 59), (4, .iload_n 1), (5, .aload_n 0), (6, .getfield 237), (9, .invokevirtual 248), (12, .ireturn)])
theorem mok_X10_untell : MOK mX10_untell 1 := ⟨tbl_ok (by decide +kernel), wm_1159, by decide +kernel, rfl, ⟨by decide +kernel, by decide +kernel, by decide +kernel⟩, wm_150, by decide⟩
def mX10_later : pM := (10, yX10_later, prog_1_method_25_code, 2, (Option.some FieldType.int), [(0, .iload_n 1), (1, .ifCond .lt 21), (4, .iload_n 1), (5, .sipush 1000), (8, .if_icmp .gt 14), (11, .aload_n 0), (12, .getfield 237), (15, .iload_n 1), (16, .iadd), (17, .ldc 251), (19, .if_icmp .le 5), (22, .iconst (-1)), (23, .ireturn), (24, .aload_n 0), (25, .dup), (26, .getfield 237), (29, .iload_n 1), (30, .iadd), (31, .putfield 237), (34, .aload_n 0), (35, .getfield 237), (38, .ireturn)])
theorem mok_X10_later : MOK mX10_later 1 := ⟨tbl_ok (by decide +kernel), wm_1167, by decide +kernel, rfl, ⟨by decide +kernel, by decide +kernel, by decide +kernel⟩, wm_150, by decide⟩
def mX10_asked : pM := (10, yX10_asked, prog_1_method_26_code, 4, (Option.some FieldType.int), [(0, .aload_n 0), (1, .iconst 0), (2, .putfield 121), (5, .iload_n 1), (6, .iconst 1), (7, .if_icmp .lt 8), (10, .iload_n 1), (11, .iconst 3), (12, .if_icmp .le 5), (15, .iconst (-1)), (16, .ireturn), (17, .aload_n 0), (18, .getfield 89), (21, .iload_n 1), (22, .iload_n 2), (23, .invokevirtual 252), (26, .istore_n 3), (27, .iload_n 3), (28, .ifCond .le 15), (31, .aload_n 0), (32, .aload_n 0), (33, .getfield 89), (36, .getfield 256), (39, .iload_n 1), (40, .invokevirtual 211), (43, .iload_n 3), (44, .ireturn)])
theorem mok_X10_asked : MOK mX10_asked 2 := ⟨tbl_ok (by decide +kernel), wm_1172, by decide +kernel, rfl, ⟨by decide +kernel, by decide +kernel, by decide +kernel⟩, wm_150, by decide⟩
def mX10_sure : pM := (10, yX10_sure, prog_1_method_27_code, 4, (Option.some FieldType.int), [(0, .iload_n 1), (1, .iconst 1), (2, .if_icmp .lt 17), (5, .iload_n 1), (6, .iconst 3), (7, .if_icmp .gt 12), (10, .iload_n 2), (11, .ifCond .lt 8), (14, .iload_n 2), (15, .iload_n 1), (16, .if_icmp .lt 5), (19, .iconst (-1)), (20, .ireturn), (21, .aload_n 0), (22, .getfield 89), (25, .iload_n 1), (26, .iload_n 3), (27, .invokevirtual 252), (30, .ifCond .ne 7), (33, .iconst (-1)), (34, .goto 12), (37, .aload_n 0), (38, .getfield 89), (41, .getfield 259), (44, .iload_n 2), (45, .iaload), (46, .ireturn)])
theorem mok_X10_sure : MOK mX10_sure 3 := ⟨tbl_ok (by decide +kernel), wm_1213, by decide +kernel, rfl, ⟨by decide +kernel, by decide +kernel, by decide +kernel⟩, wm_150, by decide⟩
def mX10_image : pM := (10, yX10_image, prog_1_method_28_code, 2, (Option.some FieldType.int), [(0, .iload_n 1), (1, .ifCond .lt 8), (4, .iload_n 1), (5, .iconst 3), (6, .if_icmp .lt 5), (9, .iconst (-1)), (10, .ireturn), (11, .aload_n 0), (12, .getfield 48), (15, .iload_n 1), (16, .aaload), (17, .aload_n 0), (18, .getfield 42), (21, .invokevirtual 93), (24, .invokevirtual 262), (27, .aload_n 0), (28, .getfield 52), (31, .iload_n 1), (32, .iconst 1), (33, .bastore), (34, .aload_n 0), (35, .getfield 48), (38, .iload_n 1), (39, .aaload), (40, .getfield 169), (43, .ireturn)])
theorem mok_X10_image : MOK mX10_image 1 := ⟨tbl_ok (by decide +kernel), wm_1217, by decide +kernel, rfl, ⟨by decide +kernel, by decide +kernel, by decide +kernel⟩, wm_150, by decide⟩
def mX10_back : pM := (10, yX10_back, prog_1_method_29_code, 2, (Option.some FieldType.int), [(0, .iload_n 1), (1, .ifCond .lt 17), (4, .iload_n 1), (5, .iconst 3), (6, .if_icmp .ge 12), (9, .aload_n 0), (10, .getfield 52), (13, .iload_n 1), (14, .baload), (15, .ifCond .ne 5), (18, .iconst (-1)), (19, .ireturn), (20, .aload_n 0), (21, .getfield 42), (24, .invokevirtual 115), (27, .aload_n 0), (28, .getfield 42), (31, .invokevirtual 93), (34, .aload_n 0), (35, .getfield 48), (38, .iload_n 1), (39, .aaload), (40, .invokevirtual 262), (43, .aload_n 0), (44, .getfield 48), (47, .iload_n 1), (48, .aaload), (49, .getfield 169), (52, .ireturn)])
theorem mok_X10_back : MOK mX10_back 1 := ⟨tbl_ok (by decide +kernel), wm_1222, by decide +kernel, rfl, ⟨by decide +kernel, by decide +kernel, by decide +kernel⟩, wm_150, by decide⟩
def mX10_about : pM := (10, yX10_about, prog_1_method_30_code, 2, (Option.some FieldType.int), [(0, .iload_n 1), (1, .tableswitch 184 0 13 #[71, 79, 87, 95, 103, 111, 122, 130, 138, 146, 151, 156, 164, 169]), (72, .aload_n 0), (73, .getfield 16), (76, .getfield 124), (79, .ireturn), (80, .aload_n 0), (81, .getfield 16), (84, .getfield 127), (87, .ireturn), (88, .aload_n 0), (89, .getfield 16), (92, .getfield 266), (95, .ireturn), (96, .aload_n 0), (97, .getfield 16), (100, .getfield 269), (103, .ireturn), (104, .aload_n 0), (105, .getfield 16), (108, .getfield 272), (111, .ireturn), (112, .aload_n 0), (113, .getfield 42), (116, .invokevirtual 93), (119, .getfield 169), (122, .ireturn), (123, .aload_n 0), (124, .getfield 42), (127, .getfield 275), (130, .ireturn), (131, .aload_n 0), (132, .getfield 42), (135, .getfield 278), (138, .ireturn), (139, .aload_n 0), (140, .getfield 59), (143, .getfield 281), (146, .ireturn), (147, .aload_n 0), (148, .getfield 237), (151, .ireturn), (152, .aload_n 0), (153, .getfield 100), (156, .ireturn), (157, .aload_n 0), (158, .getfield 16), (161, .getfield 283), (164, .ireturn), (165, .aload_n 0), (166, .getfield 121), (169, .ireturn), (170, .aload_n 0), (171, .getfield 42), (174, .invokevirtual 93), (177, .aload_n 0), (178, .getfield 16), (181, .invokevirtual 181), (184, .ireturn), (185, .iconst (-1)), (186, .ireturn)])
theorem mok_X10_about : MOK mX10_about 1 := ⟨tbl_ok (by decide +kernel), wm_1226, by decide +kernel, rfl, ⟨by decide +kernel, by decide +kernel, by decide +kernel⟩, wm_150, by decide⟩
def mX11_init : pM := (11, yX11_init, prog_13_method_1_code, 2, (Option.none : Option FieldType), [(0, .aload_n 0), (1, .invokespecial 1), (4, .aload_n 0), (5, .sipush 1620), (8, .newarray .byte), (10, .putfield 7), (13, .aload_n 0), (14, .sipush 1600), (17, .newarray .byte), (19, .putfield 13), (22, .aload_n 0), (23, .iconst (-1)), (24, .putfield 16), (27, .aload_n 0), (28, .iconst 2), (29, .newarray .int), (31, .putfield 20), (34, .aload_n 0), (35, .iconst 2), (36, .newarray .int), (38, .putfield 24), (41, .aload_n 0), (42, .iconst 2), (43, .newarray .int), (45, .putfield 27), (48, .aload_n 0), (49, .iconst 2), (50, .newarray .int), (52, .putfield 30), (55, .aload_n 0), (56, .iconst 2), (57, .newarray .int), (59, .putfield 33), (62, .aload_n 0), (63, .iconst 2), (64, .newarray .int), (66, .putfield 36), (69, .aload_n 0), (70, .iconst 2), (71, .newarray .int), (73, .putfield 39), (76, .aload_n 0), (77, .bipush 50), (79, .newarray .int), (81, .putfield 42), (84, .aload_n 0), (85, .bipush 12), (87, .newarray .int), (89, .putfield 45), (92, .aload_n 0), (93, .bipush 14), (95, .newarray .int), (97, .putfield 48), (100, .aload_n 0), (101, .bipush 14), (103, .newarray .int), (105, .putfield 51), (108, .aload_n 0), (109, .bipush 12), (111, .newarray .int), (113, .putfield 54), (116, .aload_n 0), (117, .bipush 12), (119, .newarray .int), (121, .putfield 57), (124, .aload_n 0), (125, .bipush 12), (127, .newarray .int), (129, .putfield 60), (132, .aload_n 0), (133, .bipush 12), (135, .newarray .int), (137, .putfield 63), (140, .aload_n 0), (141, .bipush 96), (143, .newarray .int), (145, .putfield 66), (148, .aload_n 0), (149, .iconst 2), (150, .newarray .boolean), (152, .putfield 69), (155, .aload_n 0), (156, .iconst 2), (157, .newarray .boolean), (159, .putfield 73), (162, .aload_n 0), (163, .iconst 2), (164, .newarray .boolean), (166, .putfield 76), (169, .aload_n 0), (170, .bipush 50), (172, .newarray .boolean), (174, .putfield 79), (177, .aload_n 0), (178, .bipush 12), (180, .newarray .long), (182, .putfield 82), (185, .aload_n 0), (186, .bipush 12), (188, .newarray .long), (190, .putfield 86), (193, .aload_n 0), (194, .sipush 1160), (197, .newarray .int), (199, .putfield 89), (202, .aload_n 0), (203, .sipush 1160), (206, .newarray .int), (208, .putfield 92), (211, .aload_n 0), (212, .bipush 90), (214, .newarray .int), (216, .putfield 95), (219, .aload_n 0), (220, .bipush 90), (222, .newarray .int), (224, .putfield 98), (227, .aload_n 0), (228, .bipush 60), (230, .newarray .int), (232, .putfield 101), (235, .aload_n 0), (236, .bipush 62), (238, .newarray .int), (240, .putfield 104), (243, .aload_n 0), (244, .sipush 310), (247, .newarray .int), (249, .putfield 107), (252, .aload_n 0), (253, .bipush 25), (255, .newarray .int), (257, .putfield 110), (260, .aload_n 0), (261, .bipush 25), (263, .newarray .int), (265, .putfield 113), (268, .aload_n 0), (269, .bipush 25), (271, .newarray .boolean), (273, .putfield 116), (276, .aload_n 0), (277, .sipush 2542), (280, .newarray .int), (282, .putfield 119), (285, .aload_n 0), (286, .bipush 8), (288, .newarray .int), (290, .putfield 122), (293, .aload_n 0), (294, .bipush 8), (296, .newarray .int), (298, .putfield 125), (301, .aload_n 0), (302, .bipush 8), (304, .newarray .int), (306, .putfield 128), (309, .aload_n 0), (310, .iconst 5), (311, .newarray .int), (313, .putfield 131), (316, .aload_n 0), (317, .iconst 5), (318, .newarray .int), (320, .putfield 134), (323, .aload_n 0), (324, .bipush 30), (326, .newarray .int), (328, .putfield 137), (331, .aload_n 0), (332, .bipush 30), (334, .newarray .int), (336, .putfield 140), (339, .aload_n 0), (340, .bipush 30), (342, .newarray .int), (344, .putfield 143), (347, .aload_n 0), (348, .bipush 30), (350, .newarray .int), (352, .putfield 146), (355, .aload_n 0), (356, .bipush 30), (358, .newarray .int), (360, .putfield 149), (363, .aload_n 0), (364, .bipush 30), (366, .newarray .int), (368, .putfield 152), (371, .aload_n 0), (372, .iconst 3), (373, .newarray .int), (375, .putfield 155), (378, .aload_n 0), (379, .sipush 186), (382, .newarray .int), (384, .putfield 158), (387, .aload_n 0), (388, .iconst 3), (389, .newarray .boolean), (391, .putfield 161), (394, .aload_n 0), (395, .invokevirtual 164), (398, .aload_n 0), (399, .invokevirtual 167), (402, .iconst 0), (403, .istore_n 1), (404, .iload_n 1), (405, .iconst 3), (406, .if_icmp .ge 16), (409, .aload_n 0), (410, .getfield 161), (413, .iload_n 1), (414, .iconst 0), (415, .bastore), (416, .iinc 1 1), (419, .goto (-15)), (422, .return_)])
theorem mok_X11_init : MOK mX11_init 0 := ⟨tbl_ok (by decide +kernel), wm_1231, by decide +kernel, rfl, ⟨by decide +kernel, by decide +kernel, by decide +kernel⟩, wm_161, by decide⟩
def mX11_sign : pM := (11, yX11_sign, prog_13_method_2_code, 2, (Option.some FieldType.int), [(0, .iload_n 1), (1, .aload_n 0), (2, .getfield 170), (5, .if_icmp .ge 16), (8, .aload_n 0), (9, .getfield 13), (12, .iload_n 1), (13, .baload), (14, .sipush 255), (17, .iand), (18, .goto 4), (21, .iconst 0), (22, .ireturn)])
theorem mok_X11_sign : MOK mX11_sign 1 := ⟨tbl_ok (by decide +kernel), wm_1475, by decide +kernel, rfl, ⟨by decide +kernel, by decide +kernel, by decide +kernel⟩, wm_161, by decide⟩
def mX11_isLetter : pM := (11, yX11_isLetter, prog_13_method_3_code, 1, (Option.some FieldType.boolean), [(0, .iload_n 0), (1, .bipush 97), (3, .if_icmp .lt 13), (6, .iload_n 0), (7, .bipush 122), (9, .if_icmp .gt 7), (12, .iconst 1), (13, .goto 4), (16, .iconst 0), (17, .ireturn)])
theorem mok_X11_isLetter : MOK mX11_isLetter 1 := ⟨tbl_ok (by decide +kernel), wm_1478, by decide +kernel, rfl, ⟨by decide +kernel, by decide +kernel, by decide +kernel⟩, wm_161, by decide⟩
def mX11_isDigit : pM := (11, yX11_isDigit, prog_13_method_4_code, 1, (Option.some FieldType.boolean), [(0, .iload_n 0), (1, .bipush 48), (3, .if_icmp .lt 13), (6, .iload_n 0), (7, .bipush 57), (9, .if_icmp .gt 7), (12, .iconst 1), (13, .goto 4), (16, .iconst 0), (17, .ireturn)])
theorem mok_X11_isDigit : MOK mX11_isDigit 1 := ⟨tbl_ok (by decide +kernel), wm_1506, by decide +kernel, rfl, ⟨by decide +kernel, by decide +kernel, by decide +kernel⟩, wm_161, by decide⟩
def mX11_fails : pM := (11, yX11_fails, prog_13_method_5_code, 3, (Option.none : Option FieldType), [(0, .aload_n 0), (1, .getfield 173), (4, .ifCond .le 4), (7, .return_), (8, .aload_n 0), (9, .iload_n 1), (10, .putfield 173), (13, .aload_n 0), (14, .iload_n 2), (15, .putfield 16), (18, .return_)])
theorem mok_X11_fails : MOK mX11_fails 2 := ⟨tbl_ok (by decide +kernel), wm_1533, by decide +kernel, rfl, ⟨by decide +kernel, by decide +kernel, by decide +kernel⟩, wm_161, by decide⟩
def mX11_isGood : pM := (11, yX11_isGood, prog_13_method_6_code, 1, (Option.some FieldType.boolean), [(0, .aload_n 0), (1, .getfield 173), (4, .ifCond .ne 7), (7, .iconst 1), (8, .goto 4), (11, .iconst 0), (12, .ireturn)])
theorem mok_X11_isGood : MOK mX11_isGood 0 := ⟨tbl_ok (by decide +kernel), wm_1513, by decide +kernel, rfl, ⟨by decide +kernel, by decide +kernel, by decide +kernel⟩, wm_161, by decide⟩
def mX11_isKept : pM := (11, yX11_isKept, prog_13_method_7_code, 3, (Option.some FieldType.boolean), [(0, .lload_n 0), (1, .ldc2_w 176), (4, .lcmp), (5, .ifCond .eq 83), (8, .lload_n 0), (9, .ldc2_w 178), (12, .lcmp), (13, .ifCond .eq 75), (16, .lload_n 0), (17, .ldc2_w 180), (20, .lcmp), (21, .ifCond .eq 67), (24, .lload_n 0), (25, .ldc2_w 182), (28, .lcmp), (29, .ifCond .eq 59), (32, .lload_n 0), (33, .ldc2_w 184), (36, .lcmp), (37, .ifCond .eq 51), (40, .lload_n 0), (41, .ldc2_w 186), (44, .lcmp), (45, .ifCond .eq 43), (48, .lload_n 0), (49, .ldc2_w 188), (52, .lcmp), (53, .ifCond .eq 35), (56, .lload_n 0), (57, .ldc2_w 190), (60, .lcmp), (61, .ifCond .eq 27), (64, .lload_n 0), (65, .ldc2_w 192), (68, .lcmp), (69, .ifCond .eq 19), (72, .lload_n 0), (73, .ldc2_w 194), (76, .lcmp), (77, .ifCond .eq 11), (80, .lload_n 0), (81, .ldc2_w 196), (84, .lcmp), (85, .ifCond .ne 7), (88, .iconst 1), (89, .goto 4), (92, .iconst 0), (93, .istore_n 2), (94, .iload_n 2), (95, .ifCond .ne 91), (98, .lload_n 0), (99, .ldc2_w 198), (102, .lcmp), (103, .ifCond .eq 83), (106, .lload_n 0), (107, .ldc2_w 200), (110, .lcmp), (111, .ifCond .eq 75), (114, .lload_n 0), (115, .ldc2_w 202), (118, .lcmp), (119, .ifCond .eq 67), (122, .lload_n 0), (123, .ldc2_w 204), (126, .lcmp), (127, .ifCond .eq 59), (130, .lload_n 0), (131, .ldc2_w 206), (134, .lcmp), (135, .ifCond .eq 51), (138, .lload_n 0), (139, .ldc2_w 208), (142, .lcmp), (143, .ifCond .eq 43), (146, .lload_n 0), (147, .ldc2_w 210), (150, .lcmp), (151, .ifCond .eq 35), (154, .lload_n 0), (155, .ldc2_w 212), (158, .lcmp), (159, .ifCond .eq 27), (162, .lload_n 0), (163, .ldc2_w 214), (166, .lcmp), (167, .ifCond .eq 19), (170, .lload_n 0), (171, .ldc2_w 216), (174, .lcmp), (175, .ifCond .eq 11), (178, .lload_n 0), (179, .ldc2_w 218), (182, .lcmp), (183, .ifCond .ne 7), (186, .iconst 1), (187, .goto 4), (190, .iconst 0), (191, .ireturn)])
theorem mok_X11_isKept : MOK mX11_isKept 1 := ⟨tbl_ok (by decide +kernel), wm_1481, by decide +kernel, rfl, ⟨by decide +kernel, by decide +kernel, by decide +kernel⟩, wm_161, by decide⟩
end
section
def mX11_isSign : pM := (11, yX11_isSign, prog_13_method_8_code, 1, (Option.some FieldType.boolean), [(0, .iload_n 0), (1, .bipush 59), (3, .if_icmp .eq 63), (6, .iload_n 0), (7, .bipush 40), (9, .if_icmp .eq 57), (12, .iload_n 0), (13, .bipush 41), (15, .if_icmp .eq 51), (18, .iload_n 0), (19, .bipush 60), (21, .if_icmp .eq 45), (24, .iload_n 0), (25, .bipush 62), (27, .if_icmp .eq 39), (30, .iload_n 0), (31, .bipush 61), (33, .if_icmp .eq 33), (36, .iload_n 0), (37, .bipush 43), (39, .if_icmp .eq 27), (42, .iload_n 0), (43, .bipush 45), (45, .if_icmp .eq 21), (48, .iload_n 0), (49, .bipush 42), (51, .if_icmp .eq 15), (54, .iload_n 0), (55, .bipush 47), (57, .if_icmp .eq 9), (60, .iload_n 0), (61, .bipush 37), (63, .if_icmp .ne 7), (66, .iconst 1), (67, .goto 4), (70, .iconst 0), (71, .ireturn)])
theorem mok_X11_isSign : MOK mX11_isSign 1 := ⟨tbl_ok (by decide +kernel), wm_1509, by decide +kernel, rfl, ⟨by decide +kernel, by decide +kernel, by decide +kernel⟩, wm_161, by decide⟩
def mX11_goOn : pM := (11, yX11_goOn, prog_13_method_9_code, 3, (Option.none : Option FieldType), [(0, .aload_n 0), (1, .aload_n 0), (2, .getfield 220), (5, .putfield 223), (8, .aload_n 0), (9, .getfield 223), (12, .aload_n 0), (13, .getfield 170), (16, .if_icmp .ge 42), (19, .aload_n 0), (20, .aload_n 0), (21, .getfield 223), (24, .invokevirtual 226), (27, .bipush 32), (29, .if_icmp .eq 16), (32, .aload_n 0), (33, .aload_n 0), (34, .getfield 223), (37, .invokevirtual 226), (40, .bipush 10), (42, .if_icmp .ne 16), (45, .aload_n 0), (46, .dup), (47, .getfield 223), (50, .iconst 1), (51, .iadd), (52, .putfield 223), (55, .goto (-47)), (58, .aload_n 0), (59, .aload_n 0), (60, .getfield 223), (63, .invokevirtual 226), (66, .istore_n 1), (67, .aload_n 0), (68, .aload_n 0), (69, .getfield 223), (72, .iconst 1), (73, .iadd), (74, .putfield 220), (77, .aload_n 0), (78, .getfield 223), (81, .aload_n 0), (82, .getfield 170), (85, .if_icmp .lt 27), (88, .aload_n 0), (89, .iconst 0), (90, .putfield 230), (93, .aload_n 0), (94, .aload_n 0), (95, .getfield 170), (98, .putfield 223), (101, .aload_n 0), (102, .aload_n 0), (103, .getfield 170), (106, .putfield 220), (109, .goto 268), (112, .iload_n 1), (113, .invokestatic 233), (116, .ifCond .eq 123), (119, .aload_n 0), (120, .aload_n 0), (121, .getfield 220), (124, .invokevirtual 226), (127, .invokestatic 233), (130, .ifCond .eq 16), (133, .aload_n 0), (134, .dup), (135, .getfield 220), (138, .iconst 1), (139, .iadd), (140, .putfield 220), (143, .goto (-24)), (146, .aload_n 0), (147, .lconst 0), (148, .putfield 237), (151, .aload_n 0), (152, .getfield 223), (155, .istore_n 2), (156, .iload_n 2), (157, .aload_n 0), (158, .getfield 220), (161, .if_icmp .ge 38), (164, .iload_n 2), (165, .aload_n 0), (166, .getfield 223), (169, .bipush 8), (171, .iadd), (172, .if_icmp .ge 27), (175, .aload_n 0), (176, .aload_n 0), (177, .getfield 237), (180, .bipush 8), (182, .lshl), (183, .aload_n 0), (184, .iload_n 2), (185, .invokevirtual 226), (188, .i2l), (189, .lor), (190, .putfield 237), (193, .iinc 2 1), (196, .goto (-40)), (199, .aload_n 0), (200, .aload_n 0), (201, .getfield 220), (204, .aload_n 0), (205, .getfield 223), (208, .isub), (209, .bipush 8), (211, .if_icmp .le 7), (214, .iconst 1), (215, .goto 18), (218, .aload_n 0), (219, .getfield 237), (222, .invokestatic 241), (225, .ifCond .eq 7), (228, .iconst 3), (229, .goto 4), (232, .iconst 2), (233, .putfield 230), (236, .goto 141), (239, .iload_n 1), (240, .invokestatic 245), (243, .ifCond .eq 118), (246, .aload_n 0), (247, .iconst 0), (248, .putfield 248), (251, .aload_n 0), (252, .aload_n 0), (253, .getfield 223), (256, .putfield 220), (259, .aload_n 0), (260, .aload_n 0), (261, .getfield 220), (264, .invokevirtual 226), (267, .invokestatic 245), (270, .ifCond .eq 52), (273, .aload_n 0), (274, .getfield 220), (277, .aload_n 0), (278, .getfield 223), (281, .isub), (282, .iconst 4), (283, .if_icmp .ge 26), (286, .aload_n 0), (287, .bipush 10), (289, .aload_n 0), (290, .getfield 248), (293, .imul), (294, .aload_n 0), (295, .aload_n 0), (296, .getfield 220), (299, .invokevirtual 226), (302, .iadd), (303, .bipush 48), (305, .isub), (306, .putfield 248), (309, .aload_n 0), (310, .dup), (311, .getfield 220), (314, .iconst 1), (315, .iadd), (316, .putfield 220), (319, .goto (-60)), (322, .aload_n 0), (323, .aload_n 0), (324, .getfield 220), (327, .aload_n 0), (328, .getfield 223), (331, .isub), (332, .iconst 4), (333, .if_icmp .gt 17), (336, .aload_n 0), (337, .aload_n 0), (338, .getfield 220), (341, .invokevirtual 226), (344, .invokestatic 233), (347, .ifCond .eq 7), (350, .iconst 1), (351, .goto 4), (354, .iconst 4), (355, .putfield 230), (358, .goto 19), (361, .aload_n 0), (362, .iload_n 1), (363, .invokestatic 251), (366, .ifCond .eq 7), (369, .iconst 5), (370, .goto 4), (373, .iconst 1), (374, .putfield 230), (377, .return_)])
theorem mok_X11_goOn : MOK mX11_goOn 0 := ⟨tbl_ok (by decide +kernel), wm_1471, by decide +kernel, rfl, ⟨by decide +kernel, by decide +kernel, by decide +kernel⟩, wm_161, by decide⟩
def mX11_isSignHere : pM := (11, yX11_isSignHere, prog_13_method_10_code, 2, (Option.some FieldType.boolean), [(0, .aload_n 0), (1, .getfield 230), (4, .iconst 5), (5, .if_icmp .ne 19), (8, .aload_n 0), (9, .aload_n 0), (10, .getfield 223), (13, .invokevirtual 226), (16, .iload_n 1), (17, .if_icmp .ne 7), (20, .iconst 1), (21, .goto 4), (24, .iconst 0), (25, .ireturn)])
theorem mok_X11_isSignHere : MOK mX11_isSignHere 1 := ⟨tbl_ok (by decide +kernel), wm_1585, by decide +kernel, rfl, ⟨by decide +kernel, by decide +kernel, by decide +kernel⟩, wm_161, by decide⟩
def mX11_isWord : pM := (11, yX11_isWord, prog_13_method_11_code, 3, (Option.some FieldType.boolean), [(0, .aload_n 0), (1, .getfield 230), (4, .iconst 3), (5, .if_icmp .ne 16), (8, .aload_n 0), (9, .getfield 237), (12, .lload_n 1), (13, .lcmp), (14, .ifCond .ne 7), (17, .iconst 1), (18, .goto 4), (21, .iconst 0), (22, .ireturn)])
theorem mok_X11_isWord : MOK mX11_isWord 1 := ⟨tbl_ok (by decide +kernel), wm_1525, by decide +kernel, rfl, ⟨by decide +kernel, by decide +kernel, by decide +kernel⟩, wm_161, by decide⟩
def mX11_misplaced : pM := (11, yX11_misplaced, prog_13_method_12_code, 1, (Option.none : Option FieldType), [(0, .aload_n 0), (1, .aload_n 0), (2, .getfield 230), (5, .iconst 1), (6, .if_icmp .ne 7), (9, .iconst 1), (10, .goto 4), (13, .iconst 2), (14, .aload_n 0), (15, .getfield 223), (18, .invokevirtual 254), (21, .return_)])
theorem mok_X11_misplaced : MOK mX11_misplaced 0 := ⟨tbl_ok (by decide +kernel), wm_1529, by decide +kernel, rfl, ⟨by decide +kernel, by decide +kernel, by decide +kernel⟩, wm_161, by decide⟩
def mX11_must : pM := (11, yX11_must, prog_13_method_13_code, 2, (Option.none : Option FieldType), [(0, .aload_n 0), (1, .invokevirtual 258), (4, .ifCond .ne 4), (7, .return_), (8, .iload_n 1), (9, .ifCond .eq 10), (12, .aload_n 0), (13, .invokevirtual 262), (16, .goto 7), (19, .aload_n 0), (20, .invokevirtual 265), (23, .return_)])
theorem mok_X11_must : MOK mX11_must 1 := ⟨tbl_ok (by decide +kernel), wm_1545, by decide +kernel, rfl, ⟨by decide +kernel, by decide +kernel, by decide +kernel⟩, wm_161, by decide⟩
def mX11_numeral : pM := (11, yX11_numeral, prog_13_method_14_code, 4, (Option.some FieldType.int), [(0, .aload_n 0), (1, .invokevirtual 258), (4, .ifCond .ne 5), (7, .iload_n 1), (8, .ireturn), (9, .aload_n 0), (10, .getfield 230), (13, .iconst 4), (14, .if_icmp .eq 7), (17, .aload_n 0), (18, .invokevirtual 265), (21, .aload_n 0), (22, .invokevirtual 258), (25, .ifCond .eq 28), (28, .aload_n 0), (29, .getfield 248), (32, .iload_n 1), (33, .if_icmp .lt 11), (36, .aload_n 0), (37, .getfield 248), (40, .iload_n 2), (41, .if_icmp .le 12), (44, .aload_n 0), (45, .iconst 4), (46, .aload_n 0), (47, .getfield 223), (50, .invokevirtual 254), (53, .aload_n 0), (54, .getfield 248), (57, .istore_n 3), (58, .aload_n 0), (59, .invokevirtual 258), (62, .ifCond .eq 7), (65, .aload_n 0), (66, .invokevirtual 262), (69, .aload_n 0), (70, .invokevirtual 258), (73, .ifCond .eq 7), (76, .iload_n 3), (77, .goto 4), (80, .iload_n 1), (81, .ireturn)])
theorem mok_X11_numeral : MOK mX11_numeral 2 := ⟨tbl_ok (by decide +kernel), wm_1537, by decide +kernel, rfl, ⟨by decide +kernel, by decide +kernel, by decide +kernel⟩, wm_161, by decide⟩
def mX11_after : pM := (11, yX11_after, prog_13_method_15_code, 5, (Option.some FieldType.int), [(0, .aload_n 0), (1, .aload_n 0), (2, .lload_n 1), (3, .invokevirtual 268), (6, .invokevirtual 271), (9, .aload_n 0), (10, .iload_n 3), (11, .iload 4), (13, .invokevirtual 275), (16, .ireturn)])
theorem mok_X11_after : MOK mX11_after 3 := ⟨tbl_ok (by decide +kernel), wm_1541, by decide +kernel, rfl, ⟨by decide +kernel, by decide +kernel, by decide +kernel⟩, wm_161, by decide⟩
def mX11_clearBank : pM := (11, yX11_clearBank, prog_13_method_16_code, 2, (Option.none : Option FieldType), [(0, .aload_n 0), (1, .getfield 20), (4, .aload_n 0), (5, .getfield 279), (8, .iconst 0), (9, .iastore), (10, .aload_n 0), (11, .getfield 24), (14, .aload_n 0), (15, .getfield 279), (18, .iconst 0), (19, .iastore), (20, .aload_n 0), (21, .getfield 27), (24, .aload_n 0), (25, .getfield 279), (28, .bipush 50), (30, .iastore), (31, .aload_n 0), (32, .getfield 30), (35, .aload_n 0), (36, .getfield 279), (39, .iconst 0), (40, .iastore), (41, .aload_n 0), (42, .getfield 33), (45, .aload_n 0), (46, .getfield 279), (49, .iconst 0), (50, .iastore), (51, .aload_n 0), (52, .getfield 36), (55, .aload_n 0), (56, .getfield 279), (59, .iconst 0), (60, .iastore), (61, .aload_n 0), (62, .getfield 39), (65, .aload_n 0), (66, .getfield 279), (69, .iconst 0), (70, .iastore), (71, .aload_n 0), (72, .getfield 69), (75, .aload_n 0), (76, .getfield 279), (79, .iconst 0), (80, .bastore), (81, .aload_n 0), (82, .getfield 73), (85, .aload_n 0), (86, .getfield 279), (89, .iconst 0), (90, .bastore), (91, .aload_n 0), (92, .getfield 76), (95, .aload_n 0), (96, .getfield 279), (99, .iconst 0), (100, .bastore), (101, .aload_n 0), (102, .sipush 580), (105, .aload_n 0), (106, .getfield 279), (109, .imul), (110, .putfield 282), (113, .bipush 25), (115, .aload_n 0), (116, .getfield 279), (119, .imul), (120, .istore_n 1), (121, .iload_n 1), (122, .bipush 25), (124, .aload_n 0), (125, .getfield 279), (128, .imul), (129, .bipush 25), (131, .iadd), (132, .if_icmp .ge 23), (135, .aload_n 0), (136, .getfield 42), (139, .iload_n 1), (140, .iconst (-1)), (141, .iastore), (142, .aload_n 0), (143, .getfield 79), (146, .iload_n 1), (147, .iconst 0), (148, .bastore), (149, .iinc 1 1), (152, .goto (-31)), (155, .aload_n 0), (156, .getfield 48), (159, .bipush 7), (161, .aload_n 0), (162, .getfield 279), (165, .imul), (166, .bipush 6), (168, .iadd), (169, .iconst 0), (170, .iastore), (171, .aload_n 0), (172, .getfield 51), (175, .bipush 7), (177, .aload_n 0), (178, .getfield 279), (181, .imul), (182, .bipush 6), (184, .iadd), (185, .iconst 0), (186, .iastore), (187, .return_)])
theorem mok_X11_clearBank : MOK mX11_clearBank 0 := ⟨tbl_ok (by decide +kernel), wm_1236, by decide +kernel, rfl, ⟨by decide +kernel, by decide +kernel, by decide +kernel⟩, wm_161, by decide⟩
def mX11_pond : pM := (11, yX11_pond, prog_13_method_17_code, 2, (Option.some FieldType.int), [(0, .aload_n 0), (1, .iconst 0), (2, .putfield 173), (5, .aload_n 0), (6, .iconst (-1)), (7, .putfield 16), (10, .aload_n 0), (11, .aload_n 0), (12, .getfield 285), (15, .putfield 170), (18, .iconst 0), (19, .istore_n 1), (20, .iload_n 1), (21, .aload_n 0), (22, .getfield 170), (25, .if_icmp .ge 21), (28, .aload_n 0), (29, .getfield 13), (32, .iload_n 1), (33, .aload_n 0), (34, .getfield 7), (37, .iload_n 1), (38, .baload), (39, .bastore), (40, .iinc 1 1), (43, .goto (-23)), (46, .aload_n 0), (47, .iconst 0), (48, .putfield 285), (51, .aload_n 0), (52, .iconst 0), (53, .putfield 220), (56, .aload_n 0), (57, .iconst 1), (58, .aload_n 0), (59, .getfield 288), (62, .isub), (63, .putfield 279), (66, .aload_n 0), (67, .invokevirtual 164), (70, .aload_n 0), (71, .invokevirtual 262), (74, .aload_n 0), (75, .invokevirtual 258), (78, .ifCond .eq 17), (81, .aload_n 0), (82, .getfield 230), (85, .ifCond .eq 10), (88, .aload_n 0), (89, .invokevirtual 291), (92, .goto (-18)), (95, .aload_n 0), (96, .invokevirtual 258), (99, .ifCond .ne 5), (102, .iconst (-1)), (103, .ireturn), (104, .aload_n 0), (105, .aload_n 0), (106, .getfield 279), (109, .putfield 288), (112, .aload_n 0), (113, .invokevirtual 167), (116, .aload_n 0), (117, .iconst 0), (118, .putfield 294), (121, .aload_n 0), (122, .iconst 0), (123, .putfield 297), (126, .iconst 0), (127, .istore_n 1), (128, .iload_n 1), (129, .iconst 3), (130, .if_icmp .ge 16), (133, .aload_n 0), (134, .getfield 161), (137, .iload_n 1), (138, .iconst 0), (139, .bastore), (140, .iinc 1 1), (143, .goto (-15)), (146, .aload_n 0), (147, .getfield 20), (150, .aload_n 0), (151, .getfield 288), (154, .iaload), (155, .aload_n 0), (156, .getfield 24), (159, .aload_n 0), (160, .getfield 288), (163, .iaload), (164, .imul), (165, .ireturn)])
theorem mok_X11_pond : MOK mX11_pond 0 := ⟨tbl_ok (by decide +kernel), wm_1467, by decide +kernel, rfl, ⟨by decide +kernel, by decide +kernel, by decide +kernel⟩, wm_161, by decide⟩
def mX11_isFull : pM := (11, yX11_isFull, prog_13_method_18_code, 1, (Option.some FieldType.boolean), [(0, .aload_n 0), (1, .ldc2_w 176), (4, .invokevirtual 268), (7, .ifCond .eq 13), (10, .aload_n 0), (11, .getfield 69), (14, .aload_n 0), (15, .getfield 279), (18, .baload), (19, .ireturn), (20, .aload_n 0), (21, .getfield 69), (24, .aload_n 0), (25, .getfield 279), (28, .baload), (29, .ifCond .ne 5), (32, .iconst 1), (33, .ireturn), (34, .aload_n 0), (35, .ldc2_w 180), (38, .invokevirtual 268), (41, .ifCond .eq 13), (44, .aload_n 0), (45, .getfield 73), (48, .aload_n 0), (49, .getfield 279), (52, .baload), (53, .ireturn), (54, .aload_n 0), (55, .ldc2_w 192), (58, .invokevirtual 268), (61, .ifCond .eq 13), (64, .aload_n 0), (65, .getfield 76), (68, .aload_n 0), (69, .getfield 279), (72, .baload), (73, .ireturn), (74, .aload_n 0), (75, .ldc2_w 188), (78, .invokevirtual 268), (81, .ifCond .eq 23), (84, .aload_n 0), (85, .getfield 33), (88, .aload_n 0), (89, .getfield 279), (92, .iaload), (93, .bipush 6), (95, .if_icmp .ne 7), (98, .iconst 1), (99, .goto 4), (102, .iconst 0), (103, .ireturn), (104, .aload_n 0), (105, .ldc2_w 194), (108, .invokevirtual 268), (111, .ifCond .eq 23), (114, .aload_n 0), (115, .getfield 36), (118, .aload_n 0), (119, .getfield 279), (122, .iaload), (123, .bipush 6), (125, .if_icmp .ne 7), (128, .iconst 1), (129, .goto 4), (132, .iconst 0), (133, .ireturn), (134, .aload_n 0), (135, .ldc2_w 182), (138, .invokevirtual 268), (141, .ifCond .ne 17), (144, .aload_n 0), (145, .ldc2_w 184), (148, .invokevirtual 268), (151, .ifCond .ne 7), (154, .iconst 1), (155, .goto 4), (158, .iconst 0), (159, .ireturn)])
theorem mok_X11_isFull : MOK mX11_isFull 0 := ⟨tbl_ok (by decide +kernel), wm_1521, by decide +kernel, rfl, ⟨by decide +kernel, by decide +kernel, by decide +kernel⟩, wm_161, by decide⟩
def mX11_readLine : pM := (11, yX11_readLine, prog_13_method_19_code, 3, (Option.none : Option FieldType), [(0, .aload_n 0), (1, .getfield 237), (4, .lstore_n 1), (5, .aload_n 0), (6, .getfield 230), (9, .iconst 3), (10, .if_icmp .ne 10), (13, .aload_n 0), (14, .invokevirtual 300), (17, .ifCond .eq 7), (20, .aload_n 0), (21, .invokevirtual 265), (24, .aload_n 0), (25, .invokevirtual 258), (28, .ifCond .ne 4), (31, .return_), (32, .aload_n 0), (33, .invokevirtual 262), (36, .lload_n 1), (37, .ldc2_w 176), (40, .lcmp), (41, .ifCond .ne 46), (44, .aload_n 0), (45, .getfield 69), (48, .aload_n 0), (49, .getfield 279), (52, .iconst 1), (53, .bastore), (54, .aload_n 0), (55, .getfield 20), (58, .aload_n 0), (59, .getfield 279), (62, .aload_n 0), (63, .iconst 1), (64, .iconst 5), (65, .invokevirtual 275), (68, .iastore), (69, .aload_n 0), (70, .getfield 24), (73, .aload_n 0), (74, .getfield 279), (77, .aload_n 0), (78, .ldc2_w 178), (81, .iconst 1), (82, .iconst 5), (83, .invokevirtual 303), (86, .iastore), (87, .lload_n 1), (88, .ldc2_w 180), (91, .lcmp), (92, .ifCond .ne 29), (95, .aload_n 0), (96, .getfield 73), (99, .aload_n 0), (100, .getfield 279), (103, .iconst 1), (104, .bastore), (105, .aload_n 0), (106, .getfield 27), (109, .aload_n 0), (110, .getfield 279), (113, .aload_n 0), (114, .iconst 0), (115, .bipush 99), (117, .invokevirtual 275), (120, .iastore), (121, .lload_n 1), (122, .ldc2_w 182), (125, .lcmp), (126, .ifCond .ne 7), (129, .aload_n 0), (130, .invokevirtual 307), (133, .lload_n 1), (134, .ldc2_w 184), (137, .lcmp), (138, .ifCond .ne 7), (141, .aload_n 0), (142, .invokevirtual 310), (145, .lload_n 1), (146, .ldc2_w 188), (149, .lcmp), (150, .ifCond .ne 7), (153, .aload_n 0), (154, .invokevirtual 313), (157, .lload_n 1), (158, .ldc2_w 192), (161, .lcmp), (162, .ifCond .ne 19), (165, .aload_n 0), (166, .getfield 76), (169, .aload_n 0), (170, .getfield 279), (173, .iconst 1), (174, .bastore), (175, .aload_n 0), (176, .bipush 6), (178, .invokevirtual 316), (181, .lload_n 1), (182, .ldc2_w 194), (185, .lcmp), (186, .ifCond .ne 7), (189, .aload_n 0), (190, .invokevirtual 320), (193, .aload_n 0), (194, .aload_n 0), (195, .bipush 59), (197, .invokevirtual 323), (200, .invokevirtual 271), (203, .return_)])
theorem mok_X11_readLine : MOK mX11_readLine 0 := ⟨tbl_ok (by decide +kernel), wm_1517, by decide +kernel, rfl, ⟨by decide +kernel, by decide +kernel, by decide +kernel⟩, wm_161, by decide⟩
def mX11_readCell : pM := (11, yX11_readCell, prog_13_method_20_code, 5, (Option.none : Option FieldType), [(0, .aload_n 0), (1, .iconst 0), (2, .aload_n 0), (3, .getfield 20), (6, .aload_n 0), (7, .getfield 279), (10, .iaload), (11, .iconst 1), (12, .isub), (13, .invokevirtual 275), (16, .istore_n 1), (17, .aload_n 0), (18, .getfield 223), (21, .istore_n 2), (22, .bipush 25), (24, .aload_n 0), (25, .getfield 279), (28, .imul), (29, .iconst 5), (30, .aload_n 0), (31, .iconst 0), (32, .aload_n 0), (33, .getfield 24), (36, .aload_n 0), (37, .getfield 279), (40, .iaload), (41, .iconst 1), (42, .isub), (43, .invokevirtual 275), (46, .imul), (47, .iadd), (48, .iload_n 1), (49, .iadd), (50, .istore_n 3), (51, .aload_n 0), (52, .invokevirtual 258), (55, .ifCond .eq 18), (58, .aload_n 0), (59, .getfield 42), (62, .iload_n 3), (63, .iaload), (64, .ifCond .lt 9), (67, .aload_n 0), (68, .iconst 3), (69, .iload_n 2), (70, .invokevirtual 254), (73, .aload_n 0), (74, .ldc2_w 180), (77, .iconst 0), (78, .bipush 99), (80, .invokevirtual 303), (83, .istore 4), (85, .aload_n 0), (86, .invokevirtual 258), (89, .ifCond .eq 11), (92, .aload_n 0), (93, .getfield 42), (96, .iload_n 3), (97, .iload 4), (99, .iastore), (100, .return_)])
theorem mok_X11_readCell : MOK mX11_readCell 0 := ⟨tbl_ok (by decide +kernel), wm_1549, by decide +kernel, rfl, ⟨by decide +kernel, by decide +kernel, by decide +kernel⟩, wm_161, by decide⟩
def mX11_readPlank : pM := (11, yX11_readPlank, prog_13_method_21_code, 4, (Option.none : Option FieldType), [(0, .aload_n 0), (1, .ldc2_w 186), (4, .iconst 0), (5, .aload_n 0), (6, .getfield 20), (9, .aload_n 0), (10, .getfield 279), (13, .iaload), (14, .iconst 1), (15, .isub), (16, .invokevirtual 303), (19, .istore_n 1), (20, .aload_n 0), (21, .getfield 223), (24, .istore_n 2), (25, .bipush 25), (27, .aload_n 0), (28, .getfield 279), (31, .imul), (32, .iconst 5), (33, .aload_n 0), (34, .iconst 0), (35, .aload_n 0), (36, .getfield 24), (39, .aload_n 0), (40, .getfield 279), (43, .iaload), (44, .iconst 1), (45, .isub), (46, .invokevirtual 275), (49, .imul), (50, .iadd), (51, .iload_n 1), (52, .iadd), (53, .istore_n 3), (54, .aload_n 0), (55, .invokevirtual 258), (58, .ifCond .eq 18), (61, .aload_n 0), (62, .getfield 79), (65, .iload_n 3), (66, .baload), (67, .ifCond .eq 9), (70, .aload_n 0), (71, .iconst 3), (72, .iload_n 2), (73, .invokevirtual 254), (76, .aload_n 0), (77, .invokevirtual 258), (80, .ifCond .ne 4), (83, .return_), (84, .aload_n 0), (85, .getfield 79), (88, .iload_n 3), (89, .iconst 1), (90, .bastore), (91, .aload_n 0), (92, .getfield 30), (95, .aload_n 0), (96, .getfield 279), (99, .dup2), (100, .iaload), (101, .iconst 1), (102, .iadd), (103, .iastore), (104, .return_)])
theorem mok_X11_readPlank : MOK mX11_readPlank 0 := ⟨tbl_ok (by decide +kernel), wm_1553, by decide +kernel, rfl, ⟨by decide +kernel, by decide +kernel, by decide +kernel⟩, wm_161, by decide⟩
def mX11_here : pM := (11, yX11_here, prog_13_method_22_code, 5, (Option.some FieldType.int), [(0, .iconst 0), (1, .istore 4), (3, .iload 4), (5, .iload_n 3), (6, .if_icmp .ge 34), (9, .aload_n 0), (10, .getfield 230), (13, .iconst 2), (14, .if_icmp .ne 20), (17, .aload_n 1), (18, .iload_n 2), (19, .iload 4), (21, .iadd), (22, .laload), (23, .aload_n 0), (24, .getfield 237), (27, .lcmp), (28, .ifCond .ne 6), (31, .iload 4), (33, .ireturn), (34, .iinc 4 1), (37, .goto (-34)), (40, .iconst (-1)), (41, .ireturn)])
theorem mok_X11_here : MOK mX11_here 3 := ⟨tbl_ok (by decide +kernel), wm_1561, by decide +kernel, rfl, ⟨by decide +kernel, by decide +kernel, by decide +kernel⟩, wm_161, by decide⟩
def mX11_fresh : pM := (11, yX11_fresh, prog_13_method_23_code, 4, (Option.some FieldType.long), [(0, .aload_n 0), (1, .invokevirtual 258), (4, .ifCond .ne 5), (7, .lconst 0), (8, .lreturn), (9, .aload_n 0), (10, .getfield 230), (13, .iconst 2), (14, .if_icmp .eq 10), (17, .aload_n 0), (18, .invokevirtual 265), (21, .goto 16), (24, .iload_n 1), (25, .ifCond .eq 12), (28, .aload_n 0), (29, .iconst 3), (30, .aload_n 0), (31, .getfield 223), (34, .invokevirtual 254), (37, .aload_n 0), (38, .getfield 237), (41, .lstore_n 2), (42, .aload_n 0), (43, .invokevirtual 258), (46, .ifCond .eq 7), (49, .aload_n 0), (50, .invokevirtual 262), (53, .lload_n 2), (54, .lreturn)])
theorem mok_X11_fresh : MOK mX11_fresh 1 := ⟨tbl_ok (by decide +kernel), wm_1565, by decide +kernel, rfl, ⟨by decide +kernel, by decide +kernel, by decide +kernel⟩, wm_161, by decide⟩
def mX11_readTune : pM := (11, yX11_readTune, prog_13_method_24_code, 2, (Option.none : Option FieldType), [(0, .bipush 6), (2, .aload_n 0), (3, .getfield 279), (6, .imul), (7, .aload_n 0), (8, .getfield 33), (11, .aload_n 0), (12, .getfield 279), (15, .iaload), (16, .iadd), (17, .istore_n 1), (18, .aload_n 0), (19, .getfield 82), (22, .iload_n 1), (23, .aload_n 0), (24, .aload_n 0), (25, .aload_n 0), (26, .getfield 82), (29, .bipush 6), (31, .aload_n 0), (32, .getfield 279), (35, .imul), (36, .aload_n 0), (37, .getfield 33), (40, .aload_n 0), (41, .getfield 279), (44, .iaload), (45, .invokevirtual 326), (48, .ifCond .lt 7), (51, .iconst 1), (52, .goto 4), (55, .iconst 0), (56, .invokevirtual 330), (59, .lastore), (60, .aload_n 0), (61, .getfield 45), (64, .iload_n 1), (65, .aload_n 0), (66, .ldc2_w 190), (69, .iconst 1), (70, .bipush 12), (72, .invokevirtual 303), (75, .iastore), (76, .aload_n 0), (77, .aload_n 0), (78, .getfield 33), (81, .aload_n 0), (82, .getfield 279), (85, .iaload), (86, .invokevirtual 316), (89, .aload_n 0), (90, .getfield 33), (93, .aload_n 0), (94, .getfield 279), (97, .dup2), (98, .iaload), (99, .iconst 1), (100, .iadd), (101, .iastore), (102, .return_)])
theorem mok_X11_readTune : MOK mX11_readTune 0 := ⟨tbl_ok (by decide +kernel), wm_1557, by decide +kernel, rfl, ⟨by decide +kernel, by decide +kernel, by decide +kernel⟩, wm_161, by decide⟩
def mX11_stepHere : pM := (11, yX11_stepHere, prog_13_method_25_code, 1, (Option.some FieldType.int), [(0, .aload_n 0), (1, .ldc2_w 198), (4, .invokevirtual 268), (7, .ifCond .eq 5), (10, .iconst 0), (11, .ireturn), (12, .aload_n 0), (13, .ldc2_w 200), (16, .invokevirtual 268), (19, .ifCond .eq 5), (22, .iconst 1), (23, .ireturn), (24, .aload_n 0), (25, .ldc2_w 202), (28, .invokevirtual 268), (31, .ifCond .eq 5), (34, .iconst 2), (35, .ireturn), (36, .aload_n 0), (37, .ldc2_w 204), (40, .invokevirtual 268), (43, .ifCond .eq 5), (46, .iconst 3), (47, .ireturn), (48, .aload_n 0), (49, .ldc2_w 206), (52, .invokevirtual 268), (55, .ifCond .eq 7), (58, .iconst 4), (59, .goto 4), (62, .iconst (-1)), (63, .ireturn)])
theorem mok_X11_stepHere : MOK mX11_stepHere 0 := ⟨tbl_ok (by decide +kernel), wm_1613, by decide +kernel, rfl, ⟨by decide +kernel, by decide +kernel, by decide +kernel⟩, wm_161, by decide⟩
def mX11_readSkater : pM := (11, yX11_readSkater, prog_13_method_26_code, 2, (Option.none : Option FieldType), [(0, .bipush 6), (2, .aload_n 0), (3, .getfield 279), (6, .imul), (7, .aload_n 0), (8, .getfield 36), (11, .aload_n 0), (12, .getfield 279), (15, .iaload), (16, .iadd), (17, .istore_n 1), (18, .aload_n 0), (19, .getfield 86), (22, .iload_n 1), (23, .aload_n 0), (24, .aload_n 0), (25, .aload_n 0), (26, .getfield 86), (29, .bipush 6), (31, .aload_n 0), (32, .getfield 279), (35, .imul), (36, .aload_n 0), (37, .getfield 36), (40, .aload_n 0), (41, .getfield 279), (44, .iaload), (45, .invokevirtual 326), (48, .ifCond .lt 7), (51, .iconst 1), (52, .goto 4), (55, .iconst 0), (56, .invokevirtual 330), (59, .lastore), (60, .aload_n 0), (61, .getfield 54), (64, .iload_n 1), (65, .aload_n 0), (66, .ldc2_w 196), (69, .iconst 1), (70, .bipush 99), (72, .invokevirtual 303), (75, .iastore), (76, .aload_n 0), (77, .getfield 57), (80, .iload_n 1), (81, .aload_n 0), (82, .ldc2_w 186), (85, .iconst 0), (86, .aload_n 0), (87, .getfield 20), (90, .aload_n 0), (91, .getfield 279), (94, .iaload), (95, .iconst 1), (96, .isub), (97, .invokevirtual 303), (100, .iastore), (101, .aload_n 0), (102, .getfield 60), (105, .iload_n 1), (106, .aload_n 0), (107, .iconst 0), (108, .aload_n 0), (109, .getfield 24), (112, .aload_n 0), (113, .getfield 279), (116, .iaload), (117, .iconst 1), (118, .isub), (119, .invokevirtual 275), (122, .iastore), (123, .aload_n 0), (124, .getfield 63), (127, .iload_n 1), (128, .iconst 0), (129, .iastore), (130, .aload_n 0), (131, .invokevirtual 258), (134, .ifCond .eq 63), (137, .aload_n 0), (138, .invokevirtual 334), (141, .ifCond .lt 56), (144, .aload_n 0), (145, .getfield 63), (148, .iload_n 1), (149, .iaload), (150, .bipush 8), (152, .if_icmp .ne 8), (155, .aload_n 0), (156, .invokevirtual 265), (159, .return_), (160, .aload_n 0), (161, .getfield 66), (164, .bipush 8), (166, .iload_n 1), (167, .imul), (168, .aload_n 0), (169, .getfield 63), (172, .iload_n 1), (173, .iaload), (174, .iadd), (175, .aload_n 0), (176, .invokevirtual 334), (179, .iastore), (180, .aload_n 0), (181, .getfield 63), (184, .iload_n 1), (185, .dup2), (186, .iaload), (187, .iconst 1), (188, .iadd), (189, .iastore), (190, .aload_n 0), (191, .invokevirtual 262), (194, .goto (-64)), (197, .aload_n 0), (198, .getfield 36), (201, .aload_n 0), (202, .getfield 279), (205, .dup2), (206, .iaload), (207, .iconst 1), (208, .iadd), (209, .iastore), (210, .return_)])
theorem mok_X11_readSkater : MOK mX11_readSkater 0 := ⟨tbl_ok (by decide +kernel), wm_1609, by decide +kernel, rfl, ⟨by decide +kernel, by decide +kernel, by decide +kernel⟩, wm_161, by decide⟩
def mX11_readRule : pM := (11, yX11_readRule, prog_13_method_27_code, 2, (Option.none : Option FieldType), [(0, .aload_n 0), (1, .iconst 0), (2, .putfield 338), (5, .aload_n 0), (6, .getfield 48), (9, .bipush 7), (11, .aload_n 0), (12, .getfield 279), (15, .imul), (16, .iload_n 1), (17, .iadd), (18, .aload_n 0), (19, .getfield 282), (22, .iastore), (23, .aload_n 0), (24, .invokevirtual 341), (27, .aload_n 0), (28, .getfield 51), (31, .bipush 7), (33, .aload_n 0), (34, .getfield 279), (37, .imul), (38, .iload_n 1), (39, .iadd), (40, .aload_n 0), (41, .getfield 282), (44, .iastore), (45, .return_)])
theorem mok_X11_readRule : MOK mX11_readRule 1 := ⟨tbl_ok (by decide +kernel), wm_1569, by decide +kernel, rfl, ⟨by decide +kernel, by decide +kernel, by decide +kernel⟩, wm_161, by decide⟩
def mX11_emit : pM := (11, yX11_emit, prog_13_method_28_code, 3, (Option.none : Option FieldType), [(0, .aload_n 0), (1, .getfield 89), (4, .aload_n 0), (5, .getfield 282), (8, .iload_n 1), (9, .iastore), (10, .aload_n 0), (11, .getfield 92), (14, .aload_n 0), (15, .getfield 282), (18, .iload_n 2), (19, .iastore), (20, .aload_n 0), (21, .dup), (22, .getfield 282), (25, .iconst 1), (26, .iadd), (27, .putfield 282), (30, .return_)])
theorem mok_X11_emit : MOK mX11_emit 2 := ⟨tbl_ok (by decide +kernel), wm_1593, by decide +kernel, rfl, ⟨by decide +kernel, by decide +kernel, by decide +kernel⟩, wm_161, by decide⟩
def mX11_pushE : pM := (11, yX11_pushE, prog_13_method_29_code, 3, (Option.none : Option FieldType), [(0, .aload_n 0), (1, .getfield 95), (4, .aload_n 0), (5, .getfield 344), (8, .iload_n 1), (9, .iastore), (10, .aload_n 0), (11, .getfield 98), (14, .aload_n 0), (15, .getfield 344), (18, .iload_n 2), (19, .iastore), (20, .aload_n 0), (21, .dup), (22, .getfield 344), (25, .iconst 1), (26, .iadd), (27, .putfield 344), (30, .return_)])
theorem mok_X11_pushE : MOK mX11_pushE 2 := ⟨tbl_ok (by decide +kernel), wm_1577, by decide +kernel, rfl, ⟨by decide +kernel, by decide +kernel, by decide +kernel⟩, wm_161, by decide⟩
def mX11_e : pM := (11, yX11_e, prog_13_method_30_code, 2, (Option.none : Option FieldType), [(0, .aload_n 0), (1, .iconst 0), (2, .putfield 344), (5, .aload_n 0), (6, .iconst 0), (7, .putfield 347), (10, .aload_n 0), (11, .bipush 8), (13, .iconst 0), (14, .invokevirtual 350), (17, .iconst 1), (18, .istore_n 1), (19, .aload_n 0), (20, .invokevirtual 258), (23, .ifCond .eq 29), (26, .aload_n 0), (27, .getfield 344), (30, .ifCond .le 22), (33, .iload_n 1), (34, .ifCond .eq 10), (37, .aload_n 0), (38, .invokevirtual 353), (41, .goto 7), (44, .aload_n 0), (45, .invokevirtual 356), (48, .istore_n 1), (49, .goto (-30)), (52, .return_)])
theorem mok_X11_e : MOK mX11_e 0 := ⟨tbl_ok (by decide +kernel), wm_1573, by decide +kernel, rfl, ⟨by decide +kernel, by decide +kernel, by decide +kernel⟩, wm_161, by decide⟩
def mX11_wordHere : pM := (11, yX11_wordHere, prog_13_method_31_code, 1, (Option.some FieldType.int), [(0, .aload_n 0), (1, .ldc2_w 180), (4, .invokevirtual 268), (7, .ifCond .eq 6), (10, .bipush 105), (12, .ireturn), (13, .aload_n 0), (14, .ldc2_w 208), (17, .invokevirtual 268), (20, .ifCond .eq 6), (23, .bipush 98), (25, .ireturn), (26, .aload_n 0), (27, .ldc2_w 210), (30, .invokevirtual 268), (33, .ifCond .eq 6), (36, .bipush 108), (38, .ireturn), (39, .aload_n 0), (40, .ldc2_w 212), (43, .invokevirtual 268), (46, .ifCond .eq 8), (49, .bipush 97), (51, .goto 4), (54, .iconst 0), (55, .ireturn)])
theorem mok_X11_wordHere : MOK mX11_wordHere 0 := ⟨tbl_ok (by decide +kernel), wm_1589, by decide +kernel, rfl, ⟨by decide +kernel, by decide +kernel, by decide +kernel⟩, wm_161, by decide⟩
def mX11_unit : pM := (11, yX11_unit, prog_13_method_32_code, 7, (Option.some FieldType.boolean), [(0, .aload_n 0), (1, .getfield 95), (4, .aload_n 0), (5, .getfield 344), (8, .iconst 1), (9, .isub), (10, .iaload), (11, .iconst 3), (12, .if_icmp .le 19), (15, .aload_n 0), (16, .getfield 95), (19, .aload_n 0), (20, .getfield 344), (23, .iconst 1), (24, .isub), (25, .iaload), (26, .bipush 7), (28, .if_icmp .lt 7), (31, .iconst 1), (32, .goto 4), (35, .iconst 0), (36, .istore_n 1), (37, .iload_n 1), (38, .ifCond .eq 17), (41, .aload_n 0), (42, .ldc2_w 218), (45, .invokevirtual 268), (48, .ifCond .eq 7), (51, .iconst 1), (52, .goto 4), (55, .iconst 0), (56, .istore_n 2), (57, .aload_n 0), (58, .bipush 40), (60, .invokevirtual 323), (63, .istore_n 3), (64, .aload_n 0), (65, .invokevirtual 359), (68, .istore 4), (70, .aload_n 0), (71, .getfield 39), (74, .aload_n 0), (75, .getfield 279), (78, .iaload), (79, .bipush 90), (81, .if_icmp .eq 12), (84, .aload_n 0), (85, .getfield 338), (88, .bipush 30), (90, .if_icmp .ne 7), (93, .iconst 1), (94, .goto 4), (97, .iconst 0), (98, .istore 5), (100, .iload_n 2), (101, .ifCond .ne 25), (104, .iload 4), (106, .ifCond .ne 15), (109, .aload_n 0), (110, .getfield 230), (113, .iconst 4), (114, .if_icmp .eq 7), (117, .iload_n 3), (118, .ifCond .eq 25), (121, .iload 5), (123, .ifCond .ne 20), (126, .iload_n 2), (127, .ifCond .ne 7), (130, .iload_n 3), (131, .ifCond .eq 16), (134, .aload_n 0), (135, .getfield 347), (138, .bipush 7), (140, .if_icmp .ne 7), (143, .aload_n 0), (144, .invokevirtual 265), (147, .aload_n 0), (148, .invokevirtual 258), (151, .ifCond .ne 5), (154, .iconst 1), (155, .ireturn), (156, .aload_n 0), (157, .getfield 39), (160, .aload_n 0), (161, .getfield 279), (164, .dup2), (165, .iaload), (166, .iload_n 2), (167, .ifCond .eq 7), (170, .iconst 0), (171, .goto 4), (174, .iconst 1), (175, .iadd), (176, .iastore), (177, .aload_n 0), (178, .dup), (179, .getfield 338), (182, .iload_n 2), (183, .ifCond .eq 7), (186, .iconst 0), (187, .goto 4), (190, .iconst 1), (191, .iadd), (192, .putfield 338), (195, .iload 4), (197, .ifCond .ne 10), (200, .aload_n 0), (201, .getfield 248), (204, .goto 4), (207, .iconst 0), (208, .istore 6), (210, .aload_n 0), (211, .invokevirtual 262), (214, .iload_n 2), (215, .ifCond .ne 7), (218, .iload_n 3), (219, .ifCond .eq 31), (222, .aload_n 0), (223, .iload_n 2), (224, .ifCond .eq 7), (227, .iconst 3), (228, .goto 5), (231, .bipush 7), (233, .bipush 126), (235, .invokevirtual 350), (238, .aload_n 0), (239, .dup), (240, .getfield 347), (243, .iconst 1), (244, .iadd), (245, .putfield 347), (248, .iconst 1), (249, .ireturn), (250, .aload_n 0), (251, .iload 4), (253, .ifCond .ne 8), (256, .bipush 110), (258, .goto 5), (261, .iload 4), (263, .iload 6), (265, .invokevirtual 362), (268, .iconst 0), (269, .ireturn)])
theorem mok_X11_unit : MOK mX11_unit 0 := ⟨tbl_ok (by decide +kernel), wm_1581, by decide +kernel, rfl, ⟨by decide +kernel, by decide +kernel, by decide +kernel⟩, wm_161, by decide⟩
def mX11_rankHere : pM := (11, yX11_rankHere, prog_13_method_33_code, 1, (Option.some FieldType.int), [(0, .aload_n 0), (1, .ldc2_w 216), (4, .invokevirtual 268), (7, .ifCond .eq 5), (10, .iconst 2), (11, .ireturn), (12, .aload_n 0), (13, .ldc2_w 214), (16, .invokevirtual 268), (19, .ifCond .eq 5), (22, .iconst 1), (23, .ireturn), (24, .aload_n 0), (25, .bipush 60), (27, .invokevirtual 323), (30, .ifCond .ne 21), (33, .aload_n 0), (34, .bipush 62), (36, .invokevirtual 323), (39, .ifCond .ne 12), (42, .aload_n 0), (43, .bipush 61), (45, .invokevirtual 323), (48, .ifCond .eq 5), (51, .iconst 4), (52, .ireturn), (53, .aload_n 0), (54, .bipush 43), (56, .invokevirtual 323), (59, .ifCond .ne 12), (62, .aload_n 0), (63, .bipush 45), (65, .invokevirtual 323), (68, .ifCond .eq 5), (71, .iconst 5), (72, .ireturn), (73, .aload_n 0), (74, .bipush 42), (76, .invokevirtual 323), (79, .ifCond .ne 21), (82, .aload_n 0), (83, .bipush 47), (85, .invokevirtual 323), (88, .ifCond .ne 12), (91, .aload_n 0), (92, .bipush 37), (94, .invokevirtual 323), (97, .ifCond .eq 8), (100, .bipush 6), (102, .goto 4), (105, .iconst 0), (106, .ireturn)])
theorem mok_X11_rankHere : MOK mX11_rankHere 0 := ⟨tbl_ok (by decide +kernel), wm_1601, by decide +kernel, rfl, ⟨by decide +kernel, by decide +kernel, by decide +kernel⟩, wm_161, by decide⟩
def mX11_isCompared : pM := (11, yX11_isCompared, prog_13_method_34_code, 2, (Option.some FieldType.boolean), [(0, .aload_n 0), (1, .getfield 344), (4, .iconst 1), (5, .isub), (6, .istore_n 1), (7, .aload_n 0), (8, .getfield 95), (11, .iload_n 1), (12, .iaload), (13, .iconst 5), (14, .if_icmp .eq 14), (17, .aload_n 0), (18, .getfield 95), (21, .iload_n 1), (22, .iaload), (23, .bipush 6), (25, .if_icmp .ne 9), (28, .iinc 1 (-1)), (31, .goto (-24)), (34, .aload_n 0), (35, .getfield 95), (38, .iload_n 1), (39, .iaload), (40, .iconst 4), (41, .if_icmp .ne 7), (44, .iconst 1), (45, .goto 4), (48, .iconst 0), (49, .ireturn)])
theorem mok_X11_isCompared : MOK mX11_isCompared 0 := ⟨tbl_ok (by decide +kernel), wm_1605, by decide +kernel, rfl, ⟨by decide +kernel, by decide +kernel, by decide +kernel⟩, wm_161, by decide⟩
def mX11_behindUnit : pM := (11, yX11_behindUnit, prog_13_method_35_code, 2, (Option.some FieldType.boolean), [(0, .aload_n 0), (1, .invokevirtual 365), (4, .istore_n 1), (5, .iload_n 1), (6, .iconst 4), (7, .if_icmp .ne 16), (10, .aload_n 0), (11, .invokevirtual 368), (14, .ifCond .eq 9), (17, .aload_n 0), (18, .invokevirtual 265), (21, .iconst 1), (22, .ireturn), (23, .aload_n 0), (24, .getfield 95), (27, .aload_n 0), (28, .getfield 344), (31, .iconst 1), (32, .isub), (33, .iaload), (34, .bipush 6), (36, .if_icmp .gt 68), (39, .aload_n 0), (40, .getfield 95), (43, .aload_n 0), (44, .getfield 344), (47, .iconst 1), (48, .isub), (49, .iaload), (50, .iload_n 1), (51, .if_icmp .lt 53), (54, .aload_n 0), (55, .dup), (56, .getfield 344), (59, .iconst 1), (60, .isub), (61, .putfield 344), (64, .aload_n 0), (65, .getfield 95), (68, .aload_n 0), (69, .getfield 344), (72, .iaload), (73, .iconst 3), (74, .if_icmp .ne 13), (77, .aload_n 0), (78, .dup), (79, .getfield 347), (82, .iconst 1), (83, .isub), (84, .putfield 347), (87, .aload_n 0), (88, .aload_n 0), (89, .getfield 98), (92, .aload_n 0), (93, .getfield 344), (96, .iaload), (97, .iconst 0), (98, .invokevirtual 362), (101, .goto (-78)), (104, .iload_n 1), (105, .ifCond .le 42), (108, .aload_n 0), (109, .iload_n 1), (110, .iload_n 1), (111, .iconst 2), (112, .if_icmp .ne 8), (115, .bipush 38), (117, .goto 21), (120, .iload_n 1), (121, .iconst 1), (122, .if_icmp .ne 8), (125, .bipush 124), (127, .goto 11), (130, .aload_n 0), (131, .aload_n 0), (132, .getfield 223), (135, .invokevirtual 226), (138, .invokevirtual 350), (141, .aload_n 0), (142, .invokevirtual 262), (145, .iconst 1), (146, .ireturn), (147, .aload_n 0), (148, .dup), (149, .getfield 344), (152, .iconst 1), (153, .isub), (154, .putfield 344), (157, .aload_n 0), (158, .getfield 95), (161, .aload_n 0), (162, .getfield 344), (165, .iaload), (166, .bipush 7), (168, .if_icmp .ne 23), (171, .aload_n 0), (172, .dup), (173, .getfield 347), (176, .iconst 1), (177, .isub), (178, .putfield 347), (181, .aload_n 0), (182, .aload_n 0), (183, .bipush 41), (185, .invokevirtual 323), (188, .invokevirtual 271), (191, .iconst 0), (192, .ireturn)])
theorem mok_X11_behindUnit : MOK mX11_behindUnit 0 := ⟨tbl_ok (by decide +kernel), wm_1597, by decide +kernel, rfl, ⟨by decide +kernel, by decide +kernel, by decide +kernel⟩, wm_161, by decide⟩
end
section
def mX11_two : pM := (11, yX11_two, prog_13_method_36_code, 3, (Option.some FieldType.int), [(0, .iload_n 0), (1, .tableswitch 202 37 62 #[143, 188, 202, 202, 202, 127, 119, 202, 123, 202, 131, 202, 202, 202, 202, 202, 202, 202, 202, 202, 202, 202, 202, 155, 177, 166]), (120, .iload_n 1), (121, .iload_n 2), (122, .iadd), (123, .ireturn), (124, .iload_n 1), (125, .iload_n 2), (126, .isub), (127, .ireturn), (128, .iload_n 1), (129, .iload_n 2), (130, .imul), (131, .ireturn), (132, .iload_n 2), (133, .ifCond .ne 7), (136, .iconst 0), (137, .goto 6), (140, .iload_n 1), (141, .iload_n 2), (142, .idiv), (143, .ireturn), (144, .iload_n 2), (145, .ifCond .ne 7), (148, .iconst 0), (149, .goto 6), (152, .iload_n 1), (153, .iload_n 2), (154, .irem), (155, .ireturn), (156, .iload_n 1), (157, .iload_n 2), (158, .if_icmp .ge 7), (161, .iconst 1), (162, .goto 4), (165, .iconst 0), (166, .ireturn), (167, .iload_n 1), (168, .iload_n 2), (169, .if_icmp .le 7), (172, .iconst 1), (173, .goto 4), (176, .iconst 0), (177, .ireturn), (178, .iload_n 1), (179, .iload_n 2), (180, .if_icmp .ne 7), (183, .iconst 1), (184, .goto 4), (187, .iconst 0), (188, .ireturn), (189, .iload_n 1), (190, .ifCond .eq 11), (193, .iload_n 2), (194, .ifCond .eq 7), (197, .iconst 1), (198, .goto 4), (201, .iconst 0), (202, .ireturn), (203, .iload_n 1), (204, .ifCond .ne 7), (207, .iload_n 2), (208, .ifCond .eq 7), (211, .iconst 1), (212, .goto 4), (215, .iconst 0), (216, .ireturn)])
theorem mok_X11_two : MOK mX11_two 3 := ⟨tbl_ok (by decide +kernel), wm_1683, by decide +kernel, rfl, ⟨by decide +kernel, by decide +kernel, by decide +kernel⟩, wm_161, by decide⟩
def mX11_comes : pM := (11, yX11_comes, prog_13_method_37_code, 9, (Option.some FieldType.int), [(0, .iconst 0), (1, .istore 6), (3, .aload_n 0), (4, .getfield 48), (7, .bipush 7), (9, .aload_n 0), (10, .getfield 288), (13, .imul), (14, .iload_n 1), (15, .iadd), (16, .iaload), (17, .istore 7), (19, .iload 7), (21, .aload_n 0), (22, .getfield 51), (25, .bipush 7), (27, .aload_n 0), (28, .getfield 288), (31, .imul), (32, .iload_n 1), (33, .iadd), (34, .iaload), (35, .if_icmp .ge 161), (38, .aload_n 0), (39, .getfield 89), (42, .iload 7), (44, .iaload), (45, .istore 8), (47, .iload 8), (49, .bipush 126), (51, .if_icmp .ne 32), (54, .aload_n 0), (55, .getfield 101), (58, .iload 6), (60, .iconst 1), (61, .isub), (62, .aload_n 0), (63, .getfield 101), (66, .iload 6), (68, .iconst 1), (69, .isub), (70, .iaload), (71, .ifCond .ne 7), (74, .iconst 1), (75, .goto 4), (78, .iconst 0), (79, .iastore), (80, .goto 110), (83, .iload 8), (85, .invokestatic 233), (88, .ifCond .eq 69), (91, .aload_n 0), (92, .getfield 101), (95, .iload 6), (97, .iload 8), (99, .bipush 110), (101, .if_icmp .ne 13), (104, .aload_n 0), (105, .getfield 92), (108, .iload 7), (110, .iaload), (111, .goto 39), (114, .iload 8), (116, .bipush 105), (118, .if_icmp .ne 7), (121, .iload_n 2), (122, .goto 28), (125, .iload 8), (127, .bipush 98), (129, .if_icmp .ne 7), (132, .iload_n 3), (133, .goto 17), (136, .iload 8), (138, .bipush 108), (140, .if_icmp .ne 8), (143, .iload 4), (145, .goto 5), (148, .iload 5), (150, .iastore), (151, .iinc 6 1), (154, .goto 36), (157, .iinc 6 (-1)), (160, .aload_n 0), (161, .getfield 101), (164, .iload 6), (166, .iconst 1), (167, .isub), (168, .iload 8), (170, .aload_n 0), (171, .getfield 101), (174, .iload 6), (176, .iconst 1), (177, .isub), (178, .iaload), (179, .aload_n 0), (180, .getfield 101), (183, .iload 6), (185, .iaload), (186, .invokestatic 371), (189, .iastore), (190, .iinc 7 1), (193, .goto (-174)), (196, .iload 6), (198, .ifCond .ne 7), (201, .iconst 0), (202, .goto 9), (205, .aload_n 0), (206, .getfield 101), (209, .iconst 0), (210, .iaload), (211, .ireturn)])
theorem mok_X11_comes : MOK mX11_comes 5 := ⟨tbl_ok (by decide +kernel), wm_1680, by decide +kernel, rfl, ⟨by decide +kernel, by decide +kernel, by decide +kernel⟩, wm_161, by decide⟩
def mX11_fault : pM := (11, yX11_fault, prog_13_method_38_code, 2, (Option.some FieldType.int), [(0, .iload_n 1), (1, .ifCond .ne 10), (4, .aload_n 0), (5, .getfield 173), (8, .goto 16), (11, .iload_n 1), (12, .iconst 1), (13, .if_icmp .ne 10), (16, .aload_n 0), (17, .getfield 16), (20, .goto 4), (23, .iconst (-1)), (24, .ireturn)])
theorem mok_X11_fault : MOK mX11_fault 1 := ⟨tbl_ok (by decide +kernel), wm_1617, by decide +kernel, rfl, ⟨by decide +kernel, by decide +kernel, by decide +kernel⟩, wm_161, by decide⟩
def mX11_isIn : pM := (11, yX11_isIn, prog_13_method_39_code, 3, (Option.some FieldType.boolean), [(0, .iload_n 0), (1, .iload_n 1), (2, .if_icmp .lt 12), (5, .iload_n 0), (6, .iload_n 2), (7, .if_icmp .gt 7), (10, .iconst 1), (11, .goto 4), (14, .iconst 0), (15, .ireturn)])
theorem mok_X11_isIn : MOK mX11_isIn 3 := ⟨tbl_ok (by decide +kernel), wm_1628, by decide +kernel, rfl, ⟨by decide +kernel, by decide +kernel, by decide +kernel⟩, wm_161, by decide⟩
def mX11_isCell : pM := (11, yX11_isCell, prog_13_method_40_code, 3, (Option.some FieldType.boolean), [(0, .iload_n 1), (1, .iconst 0), (2, .aload_n 0), (3, .getfield 20), (6, .aload_n 0), (7, .getfield 288), (10, .iaload), (11, .iconst 1), (12, .isub), (13, .invokestatic 375), (16, .ifCond .eq 26), (19, .iload_n 2), (20, .iconst 0), (21, .aload_n 0), (22, .getfield 24), (25, .aload_n 0), (26, .getfield 288), (29, .iaload), (30, .iconst 1), (31, .isub), (32, .invokestatic 375), (35, .ifCond .eq 7), (38, .iconst 1), (39, .goto 4), (42, .iconst 0), (43, .ireturn)])
theorem mok_X11_isCell : MOK mX11_isCell 2 := ⟨tbl_ok (by decide +kernel), wm_1625, by decide +kernel, rfl, ⟨by decide +kernel, by decide +kernel, by decide +kernel⟩, wm_161, by decide⟩
def mX11_isTune : pM := (11, yX11_isTune, prog_13_method_41_code, 2, (Option.some FieldType.boolean), [(0, .iload_n 1), (1, .iconst 0), (2, .aload_n 0), (3, .getfield 33), (6, .aload_n 0), (7, .getfield 288), (10, .iaload), (11, .iconst 1), (12, .isub), (13, .invokestatic 375), (16, .ireturn)])
theorem mok_X11_isTune : MOK mX11_isTune 1 := ⟨tbl_ok (by decide +kernel), wm_1656, by decide +kernel, rfl, ⟨by decide +kernel, by decide +kernel, by decide +kernel⟩, wm_161, by decide⟩
def mX11_isSkater : pM := (11, yX11_isSkater, prog_13_method_42_code, 2, (Option.some FieldType.boolean), [(0, .iload_n 1), (1, .iconst 0), (2, .aload_n 0), (3, .getfield 36), (6, .aload_n 0), (7, .getfield 288), (10, .iaload), (11, .iconst 1), (12, .isub), (13, .invokestatic 375), (16, .ireturn)])
theorem mok_X11_isSkater : MOK mX11_isSkater 1 := ⟨tbl_ok (by decide +kernel), wm_1648, by decide +kernel, rfl, ⟨by decide +kernel, by decide +kernel, by decide +kernel⟩, wm_161, by decide⟩
def mX11_of : pM := (11, yX11_of, prog_13_method_43_code, 3, (Option.some FieldType.int), [(0, .aload_n 0), (1, .getfield 104), (4, .bipush 25), (6, .bipush 6), (8, .iload_n 1), (9, .imul), (10, .iadd), (11, .iload_n 2), (12, .iadd), (13, .iaload), (14, .ireturn)])
theorem mok_X11_of : MOK mX11_of 2 := ⟨tbl_ok (by decide +kernel), wm_1640, by decide +kernel, rfl, ⟨by decide +kernel, by decide +kernel, by decide +kernel⟩, wm_161, by decide⟩
def mX11_put : pM := (11, yX11_put, prog_13_method_44_code, 4, (Option.none : Option FieldType), [(0, .aload_n 0), (1, .getfield 104), (4, .bipush 25), (6, .bipush 6), (8, .iload_n 1), (9, .imul), (10, .iadd), (11, .iload_n 2), (12, .iadd), (13, .iload_n 3), (14, .iastore), (15, .return_)])
theorem mok_X11_put : MOK mX11_put 3 := ⟨tbl_ok (by decide +kernel), wm_1248, by decide +kernel, rfl, ⟨by decide +kernel, by decide +kernel, by decide +kernel⟩, wm_161, by decide⟩
def mX11_layFirst : pM := (11, yX11_layFirst, prog_13_method_45_code, 3, (Option.none : Option FieldType), [(0, .iconst 0), (1, .istore_n 1), (2, .iload_n 1), (3, .bipush 62), (5, .if_icmp .ge 16), (8, .aload_n 0), (9, .getfield 104), (12, .iload_n 1), (13, .iconst 0), (14, .iastore), (15, .iinc 1 1), (18, .goto (-16)), (21, .iconst 0), (22, .istore_n 1), (23, .iload_n 1), (24, .bipush 25), (26, .if_icmp .ge 58), (29, .aload_n 0), (30, .getfield 104), (33, .iload_n 1), (34, .aload_n 0), (35, .getfield 42), (38, .bipush 25), (40, .aload_n 0), (41, .getfield 288), (44, .imul), (45, .iload_n 1), (46, .iadd), (47, .iaload), (48, .ifCond .lt 20), (51, .aload_n 0), (52, .getfield 42), (55, .bipush 25), (57, .aload_n 0), (58, .getfield 288), (61, .imul), (62, .iload_n 1), (63, .iadd), (64, .iaload), (65, .goto 12), (68, .aload_n 0), (69, .getfield 27), (72, .aload_n 0), (73, .getfield 288), (76, .iaload), (77, .iastore), (78, .iinc 1 1), (81, .goto (-58)), (84, .iconst 0), (85, .istore_n 1), (86, .iload_n 1), (87, .aload_n 0), (88, .getfield 36), (91, .aload_n 0), (92, .getfield 288), (95, .iaload), (96, .if_icmp .ge 77), (99, .aload_n 0), (100, .iload_n 1), (101, .iconst 0), (102, .aload_n 0), (103, .getfield 57), (106, .bipush 6), (108, .aload_n 0), (109, .getfield 288), (112, .imul), (113, .iload_n 1), (114, .iadd), (115, .iaload), (116, .invokevirtual 379), (119, .aload_n 0), (120, .iload_n 1), (121, .iconst 1), (122, .aload_n 0), (123, .getfield 60), (126, .bipush 6), (128, .aload_n 0), (129, .getfield 288), (132, .imul), (133, .iload_n 1), (134, .iadd), (135, .iaload), (136, .invokevirtual 379), (139, .aload_n 0), (140, .iload_n 1), (141, .iconst 2), (142, .iconst 1), (143, .invokevirtual 379), (146, .iconst 3), (147, .istore_n 2), (148, .iload_n 2), (149, .bipush 6), (151, .if_icmp .ge 16), (154, .aload_n 0), (155, .iload_n 1), (156, .iload_n 2), (157, .iconst (-1)), (158, .invokevirtual 379), (161, .iinc 2 1), (164, .goto (-16)), (167, .iinc 1 1), (170, .goto (-84)), (173, .return_)])
theorem mok_X11_layFirst : MOK mX11_layFirst 0 := ⟨tbl_ok (by decide +kernel), wm_1244, by decide +kernel, rfl, ⟨by decide +kernel, by decide +kernel, by decide +kernel⟩, wm_161, by decide⟩
def mX11_begin : pM := (11, yX11_begin, prog_13_method_46_code, 1, (Option.none : Option FieldType), [(0, .aload_n 0), (1, .invokevirtual 383), (4, .aload_n 0), (5, .iconst 0), (6, .putfield 386), (9, .aload_n 0), (10, .iconst 0), (11, .putfield 389), (14, .return_)])
theorem mok_X11_begin : MOK mX11_begin 0 := ⟨tbl_ok (by decide +kernel), wm_1240, by decide +kernel, rfl, ⟨by decide +kernel, by decide +kernel, by decide +kernel⟩, wm_161, by decide⟩
def mX11_keep : pM := (11, yX11_keep, prog_13_method_47_code, 3, (Option.none : Option FieldType), [(0, .iconst 0), (1, .istore_n 2), (2, .iload_n 2), (3, .bipush 62), (5, .if_icmp .ge 26), (8, .aload_n 0), (9, .getfield 107), (12, .bipush 62), (14, .iload_n 1), (15, .imul), (16, .iload_n 2), (17, .iadd), (18, .aload_n 0), (19, .getfield 104), (22, .iload_n 2), (23, .iaload), (24, .iastore), (25, .iinc 2 1), (28, .goto (-26)), (31, .return_)])
theorem mok_X11_keep : MOK mX11_keep 1 := ⟨tbl_ok (by decide +kernel), wm_1731, by decide +kernel, rfl, ⟨by decide +kernel, by decide +kernel, by decide +kernel⟩, wm_161, by decide⟩
def mX11_bring : pM := (11, yX11_bring, prog_13_method_48_code, 3, (Option.none : Option FieldType), [(0, .iconst 0), (1, .istore_n 2), (2, .iload_n 2), (3, .bipush 62), (5, .if_icmp .ge 26), (8, .aload_n 0), (9, .getfield 104), (12, .iload_n 2), (13, .aload_n 0), (14, .getfield 107), (17, .bipush 62), (19, .iload_n 1), (20, .imul), (21, .iload_n 2), (22, .iadd), (23, .iaload), (24, .iastore), (25, .iinc 2 1), (28, .goto (-26)), (31, .return_)])
theorem mok_X11_bring : MOK mX11_bring 1 := ⟨tbl_ok (by decide +kernel), wm_1739, by decide +kernel, rfl, ⟨by decide +kernel, by decide +kernel, by decide +kernel⟩, wm_161, by decide⟩
def mX11_goes : pM := (11, yX11_goes, prog_13_method_49_code, 6, (Option.none : Option FieldType), [(0, .bipush 6), (2, .aload_n 0), (3, .getfield 288), (6, .imul), (7, .iload_n 1), (8, .iadd), (9, .istore_n 2), (10, .aload_n 0), (11, .getfield 63), (14, .iload_n 2), (15, .iaload), (16, .ifCond .ne 7), (19, .iconst 0), (20, .goto 27), (23, .aload_n 0), (24, .getfield 66), (27, .bipush 8), (29, .iload_n 2), (30, .imul), (31, .aload_n 0), (32, .getfield 104), (35, .bipush 61), (37, .iaload), (38, .aload_n 0), (39, .getfield 63), (42, .iload_n 2), (43, .iaload), (44, .irem), (45, .iadd), (46, .iaload), (47, .istore_n 3), (48, .aload_n 0), (49, .iload_n 1), (50, .iconst 0), (51, .invokevirtual 392), (54, .iload_n 3), (55, .iconst 2), (56, .if_icmp .ne 7), (59, .iconst 1), (60, .goto 13), (63, .iload_n 3), (64, .iconst 4), (65, .if_icmp .ne 7), (68, .iconst (-1)), (69, .goto 4), (72, .iconst 0), (73, .iadd), (74, .istore 4), (76, .aload_n 0), (77, .iload_n 1), (78, .iconst 1), (79, .invokevirtual 392), (82, .iload_n 3), (83, .iconst 3), (84, .if_icmp .ne 7), (87, .iconst 1), (88, .goto 13), (91, .iload_n 3), (92, .iconst 1), (93, .if_icmp .ne 7), (96, .iconst (-1)), (97, .goto 4), (100, .iconst 0), (101, .iadd), (102, .istore 5), (104, .aload_n 0), (105, .iload 4), (107, .iload 5), (109, .invokevirtual 395), (112, .ifCond .ne 4), (115, .return_), (116, .aload_n 0), (117, .iload_n 1), (118, .iconst 0), (119, .iload 4), (121, .invokevirtual 379), (124, .aload_n 0), (125, .iload_n 1), (126, .iconst 1), (127, .iload 5), (129, .invokevirtual 379), (132, .return_)])
theorem mok_X11_goes : MOK mX11_goes 1 := ⟨tbl_ok (by decide +kernel), wm_1672, by decide +kernel, rfl, ⟨by decide +kernel, by decide +kernel, by decide +kernel⟩, wm_161, by decide⟩
def mX11_layLoads : pM := (11, yX11_layLoads, prog_13_method_50_code, 2, (Option.none : Option FieldType), [(0, .iconst 0), (1, .istore_n 1), (2, .iload_n 1), (3, .bipush 25), (5, .if_icmp .ge 16), (8, .aload_n 0), (9, .getfield 110), (12, .iload_n 1), (13, .iconst 0), (14, .iastore), (15, .iinc 1 1), (18, .goto (-16)), (21, .iconst 0), (22, .istore_n 1), (23, .iload_n 1), (24, .aload_n 0), (25, .getfield 36), (28, .aload_n 0), (29, .getfield 288), (32, .iaload), (33, .if_icmp .ge 56), (36, .aload_n 0), (37, .iload_n 1), (38, .iconst 2), (39, .invokevirtual 392), (42, .iconst 1), (43, .if_icmp .ne 40), (46, .aload_n 0), (47, .getfield 110), (50, .aload_n 0), (51, .iload_n 1), (52, .iconst 0), (53, .invokevirtual 392), (56, .iconst 5), (57, .aload_n 0), (58, .iload_n 1), (59, .iconst 1), (60, .invokevirtual 392), (63, .imul), (64, .iadd), (65, .dup2), (66, .iaload), (67, .aload_n 0), (68, .getfield 54), (71, .bipush 6), (73, .aload_n 0), (74, .getfield 288), (77, .imul), (78, .iload_n 1), (79, .iadd), (80, .iaload), (81, .iadd), (82, .iastore), (83, .iinc 1 1), (86, .goto (-63)), (89, .return_)])
theorem mok_X11_layLoads : MOK mX11_layLoads 0 := ⟨tbl_ok (by decide +kernel), wm_1636, by decide +kernel, rfl, ⟨by decide +kernel, by decide +kernel, by decide +kernel⟩, wm_161, by decide⟩
def mX11_iceAt : pM := (11, yX11_iceAt, prog_13_method_51_code, 3, (Option.some FieldType.int), [(0, .aload_n 0), (1, .iload_n 1), (2, .iload_n 2), (3, .invokevirtual 395), (6, .ifCond .eq 16), (9, .aload_n 0), (10, .getfield 104), (13, .iload_n 1), (14, .iconst 5), (15, .iload_n 2), (16, .imul), (17, .iadd), (18, .iaload), (19, .goto 4), (22, .iconst 0), (23, .ireturn)])
theorem mok_X11_iceAt : MOK mX11_iceAt 2 := ⟨tbl_ok (by decide +kernel), wm_1676, by decide +kernel, rfl, ⟨by decide +kernel, by decide +kernel, by decide +kernel⟩, wm_161, by decide⟩
def mX11_bar : pM := (11, yX11_bar, prog_13_method_52_code, 8, (Option.none : Option FieldType), [(0, .iconst 0), (1, .istore_n 3), (2, .iload_n 3), (3, .aload_n 0), (4, .getfield 36), (7, .aload_n 0), (8, .getfield 288), (11, .iaload), (12, .if_icmp .ge 24), (15, .aload_n 0), (16, .iload_n 3), (17, .iconst 2), (18, .invokevirtual 392), (21, .iconst 1), (22, .if_icmp .ne 8), (25, .aload_n 0), (26, .iload_n 3), (27, .invokevirtual 399), (30, .iinc 3 1), (33, .goto (-31)), (36, .aload_n 0), (37, .invokevirtual 402), (40, .iconst 0), (41, .istore_n 3), (42, .iload_n 3), (43, .bipush 25), (45, .if_icmp .ge 136), (48, .iload_n 3), (49, .iconst 5), (50, .irem), (51, .istore 4), (53, .iload_n 3), (54, .iconst 5), (55, .idiv), (56, .istore 5), (58, .aload_n 0), (59, .iload 4), (61, .iload 5), (63, .invokevirtual 395), (66, .ifCond .ne 6), (69, .goto 106), (72, .aload_n 0), (73, .iload 4), (75, .iconst 1), (76, .isub), (77, .iload 5), (79, .invokevirtual 405), (82, .aload_n 0), (83, .iload 4), (85, .iconst 1), (86, .iadd), (87, .iload 5), (89, .invokevirtual 405), (92, .iadd), (93, .aload_n 0), (94, .iload 4), (96, .iload 5), (98, .iconst 1), (99, .isub), (100, .invokevirtual 405), (103, .iadd), (104, .aload_n 0), (105, .iload 4), (107, .iload 5), (109, .iconst 1), (110, .iadd), (111, .invokevirtual 405), (114, .iadd), (115, .istore 6), (117, .aload_n 0), (118, .getfield 104), (121, .iload_n 3), (122, .iaload), (123, .aload_n 0), (124, .iload_n 1), (125, .aload_n 0), (126, .getfield 104), (129, .iload_n 3), (130, .iaload), (131, .iload_n 2), (132, .aload_n 0), (133, .getfield 110), (136, .iload_n 3), (137, .iaload), (138, .iload 6), (140, .invokevirtual 408), (143, .iadd), (144, .istore 7), (146, .aload_n 0), (147, .getfield 113), (150, .iload_n 3), (151, .iload 7), (153, .ifCond .ge 7), (156, .iconst 0), (157, .goto 17), (160, .iload 7), (162, .bipush 99), (164, .if_icmp .le 8), (167, .bipush 99), (169, .goto 5), (172, .iload 7), (174, .iastore), (175, .iinc 3 1), (178, .goto (-136)), (181, .aload_n 0), (182, .iconst 0), (183, .putfield 412), (186, .iconst 0), (187, .istore_n 3), (188, .iload_n 3), (189, .bipush 25), (191, .if_icmp .ge 85), (194, .aload_n 0), (195, .iload_n 3), (196, .iconst 5), (197, .irem), (198, .iload_n 3), (199, .iconst 5), (200, .idiv), (201, .invokevirtual 395), (204, .ifCond .ne 6), (207, .goto 63), (210, .aload_n 0), (211, .getfield 104), (214, .iload_n 3), (215, .aload_n 0), (216, .getfield 113), (219, .iload_n 3), (220, .iaload), (221, .iastore), (222, .aload_n 0), (223, .getfield 79), (226, .bipush 25), (228, .aload_n 0), (229, .getfield 288), (232, .imul), (233, .iload_n 3), (234, .iadd), (235, .baload), (236, .ifCond .ne 34), (239, .aload_n 0), (240, .getfield 116), (243, .iload_n 3), (244, .baload), (245, .ifCond .ne 25), (248, .aload_n 0), (249, .getfield 110), (252, .iload_n 3), (253, .iaload), (254, .aload_n 0), (255, .getfield 104), (258, .iload_n 3), (259, .iaload), (260, .if_icmp .le 10), (263, .aload_n 0), (264, .iload_n 3), (265, .iload_n 1), (266, .iload_n 2), (267, .invokevirtual 416), (270, .iinc 3 1), (273, .goto (-85)), (276, .aload_n 0), (277, .getfield 104), (280, .bipush 61), (282, .dup2), (283, .iaload), (284, .iconst 1), (285, .iadd), (286, .iastore), (287, .return_)])
theorem mok_X11_bar : MOK mX11_bar 2 := ⟨tbl_ok (by decide +kernel), wm_1668, by decide +kernel, rfl, ⟨by decide +kernel, by decide +kernel, by decide +kernel⟩, wm_161, by decide⟩
def mX11_breaksAt : pM := (11, yX11_breaksAt, prog_13_method_53_code, 5, (Option.none : Option FieldType), [(0, .aload_n 0), (1, .iconst 1), (2, .putfield 412), (5, .aload_n 0), (6, .getfield 104), (9, .iload_n 1), (10, .iconst 0), (11, .iastore), (12, .iconst 0), (13, .istore 4), (15, .iload 4), (17, .aload_n 0), (18, .getfield 36), (21, .aload_n 0), (22, .getfield 288), (25, .iaload), (26, .if_icmp .ge 91), (29, .aload_n 0), (30, .iload 4), (32, .iconst 2), (33, .invokevirtual 392), (36, .ifCond .eq 75), (39, .aload_n 0), (40, .iload 4), (42, .iconst 0), (43, .invokevirtual 392), (46, .iconst 5), (47, .aload_n 0), (48, .iload 4), (50, .iconst 1), (51, .invokevirtual 392), (54, .imul), (55, .iadd), (56, .iload_n 1), (57, .if_icmp .eq 6), (60, .goto 51), (63, .aload_n 0), (64, .iload 4), (66, .iconst 2), (67, .iconst 0), (68, .invokevirtual 379), (71, .aload_n 0), (72, .iload 4), (74, .iconst 3), (75, .aload_n 0), (76, .getfield 104), (79, .bipush 61), (81, .iaload), (82, .invokevirtual 379), (85, .aload_n 0), (86, .iload 4), (88, .iconst 4), (89, .iload_n 2), (90, .bipush 6), (92, .if_icmp .ne 7), (95, .iconst (-1)), (96, .goto 4), (99, .iload_n 2), (100, .invokevirtual 379), (103, .aload_n 0), (104, .iload 4), (106, .iconst 5), (107, .iload_n 3), (108, .invokevirtual 379), (111, .iinc 4 1), (114, .goto (-99)), (117, .return_)])
theorem mok_X11_breaksAt : MOK mX11_breaksAt 3 := ⟨tbl_ok (by decide +kernel), wm_1687, by decide +kernel, rfl, ⟨by decide +kernel, by decide +kernel, by decide +kernel⟩, wm_161, by decide⟩
def mX11_tune : pM := (11, yX11_tune, prog_13_method_54_code, 3, (Option.none : Option FieldType), [(0, .iconst 0), (1, .istore_n 2), (2, .iload_n 2), (3, .aload_n 0), (4, .getfield 45), (7, .bipush 6), (9, .aload_n 0), (10, .getfield 288), (13, .imul), (14, .iload_n 1), (15, .iadd), (16, .iaload), (17, .if_icmp .ge 15), (20, .aload_n 0), (21, .iload_n 1), (22, .iload_n 2), (23, .invokevirtual 419), (26, .iinc 2 1), (29, .goto (-27)), (32, .return_)])
theorem mok_X11_tune : MOK mX11_tune 1 := ⟨tbl_ok (by decide +kernel), wm_1664, by decide +kernel, rfl, ⟨by decide +kernel, by decide +kernel, by decide +kernel⟩, wm_161, by decide⟩
def mX11_silence : pM := (11, yX11_silence, prog_13_method_55_code, 3, (Option.none : Option FieldType), [(0, .iconst 0), (1, .istore_n 2), (2, .iload_n 2), (3, .iload_n 1), (4, .if_icmp .ge 16), (7, .aload_n 0), (8, .bipush 6), (10, .iload_n 2), (11, .invokevirtual 419), (14, .iinc 2 1), (17, .goto (-15)), (20, .return_)])
theorem mok_X11_silence : MOK mX11_silence 1 := ⟨tbl_ok (by decide +kernel), wm_1699, by decide +kernel, rfl, ⟨by decide +kernel, by decide +kernel, by decide +kernel⟩, wm_161, by decide⟩
def mX11_upMany : pM := (11, yX11_upMany, prog_13_method_56_code, 3, (Option.some FieldType.int), [(0, .iconst 0), (1, .istore_n 1), (2, .iconst 0), (3, .istore_n 2), (4, .iload_n 2), (5, .aload_n 0), (6, .getfield 36), (9, .aload_n 0), (10, .getfield 288), (13, .iaload), (14, .if_icmp .ge 18), (17, .iload_n 1), (18, .aload_n 0), (19, .iload_n 2), (20, .iconst 2), (21, .invokevirtual 392), (24, .iadd), (25, .istore_n 1), (26, .iinc 2 1), (29, .goto (-25)), (32, .iload_n 1), (33, .ireturn)])
theorem mok_X11_upMany : MOK mX11_upMany 0 := ⟨tbl_ok (by decide +kernel), wm_1691, by decide +kernel, rfl, ⟨by decide +kernel, by decide +kernel, by decide +kernel⟩, wm_161, by decide⟩
def mX11_inMany : pM := (11, yX11_inMany, prog_13_method_57_code, 1, (Option.some FieldType.int), [(0, .aload_n 0), (1, .getfield 36), (4, .aload_n 0), (5, .getfield 288), (8, .iaload), (9, .aload_n 0), (10, .invokevirtual 422), (13, .isub), (14, .ireturn)])
theorem mok_X11_inMany : MOK mX11_inMany 0 := ⟨tbl_ok (by decide +kernel), wm_1735, by decide +kernel, rfl, ⟨by decide +kernel, by decide +kernel, by decide +kernel⟩, wm_161, by decide⟩
def mX11_ice : pM := (11, yX11_ice, prog_13_method_58_code, 3, (Option.some FieldType.int), [(0, .aload_n 0), (1, .iload_n 1), (2, .iload_n 2), (3, .invokevirtual 395), (6, .ifCond .eq 16), (9, .aload_n 0), (10, .getfield 104), (13, .iload_n 1), (14, .iconst 5), (15, .iload_n 2), (16, .imul), (17, .iadd), (18, .iaload), (19, .goto 4), (22, .iconst (-1)), (23, .ireturn)])
theorem mok_X11_ice : MOK mX11_ice 2 := ⟨tbl_ok (by decide +kernel), wm_1621, by decide +kernel, rfl, ⟨by decide +kernel, by decide +kernel, by decide +kernel⟩, wm_161, by decide⟩
def mX11_load : pM := (11, yX11_load, prog_13_method_59_code, 3, (Option.some FieldType.int), [(0, .aload_n 0), (1, .invokevirtual 402), (4, .aload_n 0), (5, .iload_n 1), (6, .iload_n 2), (7, .invokevirtual 395), (10, .ifCond .eq 16), (13, .aload_n 0), (14, .getfield 110), (17, .iload_n 1), (18, .iconst 5), (19, .iload_n 2), (20, .imul), (21, .iadd), (22, .iaload), (23, .goto 4), (26, .iconst (-1)), (27, .ireturn)])
theorem mok_X11_load : MOK mX11_load 2 := ⟨tbl_ok (by decide +kernel), wm_1632, by decide +kernel, rfl, ⟨by decide +kernel, by decide +kernel, by decide +kernel⟩, wm_161, by decide⟩
def mX11_skater : pM := (11, yX11_skater, prog_13_method_60_code, 3, (Option.some FieldType.int), [(0, .aload_n 0), (1, .iload_n 1), (2, .invokevirtual 425), (5, .ifCond .eq 21), (8, .iload_n 2), (9, .iconst 0), (10, .iconst 5), (11, .invokestatic 375), (14, .ifCond .eq 12), (17, .aload_n 0), (18, .iload_n 1), (19, .iload_n 2), (20, .invokevirtual 392), (23, .goto 5), (26, .bipush (-2)), (28, .ireturn)])
theorem mok_X11_skater : MOK mX11_skater 2 := ⟨tbl_ok (by decide +kernel), wm_1644, by decide +kernel, rfl, ⟨by decide +kernel, by decide +kernel, by decide +kernel⟩, wm_161, by decide⟩
def mX11_keepAct : pM := (11, yX11_keepAct, prog_13_method_61_code, 2, (Option.none : Option FieldType), [(0, .aload_n 0), (1, .getfield 386), (4, .bipush 40), (6, .if_icmp .ne 43), (9, .iconst 0), (10, .istore_n 1), (11, .iload_n 1), (12, .sipush 2480), (15, .if_icmp .ge 24), (18, .aload_n 0), (19, .getfield 119), (22, .iload_n 1), (23, .aload_n 0), (24, .getfield 119), (27, .iload_n 1), (28, .bipush 62), (30, .iadd), (31, .iaload), (32, .iastore), (33, .iinc 1 1), (36, .goto (-25)), (39, .aload_n 0), (40, .dup), (41, .getfield 386), (44, .iconst 1), (45, .isub), (46, .putfield 386), (49, .iconst 0), (50, .istore_n 1), (51, .iload_n 1), (52, .bipush 62), (54, .if_icmp .ge 29), (57, .aload_n 0), (58, .getfield 119), (61, .bipush 62), (63, .aload_n 0), (64, .getfield 386), (67, .imul), (68, .iload_n 1), (69, .iadd), (70, .aload_n 0), (71, .getfield 104), (74, .iload_n 1), (75, .iaload), (76, .iastore), (77, .iinc 1 1), (80, .goto (-29)), (83, .aload_n 0), (84, .dup), (85, .getfield 386), (88, .iconst 1), (89, .iadd), (90, .putfield 386), (93, .aload_n 0), (94, .iconst 0), (95, .putfield 389), (98, .return_)])
theorem mok_X11_keepAct : MOK mX11_keepAct 0 := ⟨tbl_ok (by decide +kernel), wm_1660, by decide +kernel, rfl, ⟨by decide +kernel, by decide +kernel, by decide +kernel⟩, wm_161, by decide⟩
def mX11_exchange : pM := (11, yX11_exchange, prog_13_method_62_code, 3, (Option.none : Option FieldType), [(0, .iconst 0), (1, .istore_n 1), (2, .iload_n 1), (3, .bipush 62), (5, .if_icmp .ge 51), (8, .aload_n 0), (9, .getfield 119), (12, .bipush 62), (14, .aload_n 0), (15, .getfield 386), (18, .imul), (19, .iload_n 1), (20, .iadd), (21, .iaload), (22, .istore_n 2), (23, .aload_n 0), (24, .getfield 119), (27, .bipush 62), (29, .aload_n 0), (30, .getfield 386), (33, .imul), (34, .iload_n 1), (35, .iadd), (36, .aload_n 0), (37, .getfield 104), (40, .iload_n 1), (41, .iaload), (42, .iastore), (43, .aload_n 0), (44, .getfield 104), (47, .iload_n 1), (48, .iload_n 2), (49, .iastore), (50, .iinc 1 1), (53, .goto (-51)), (56, .return_)])
theorem mok_X11_exchange : MOK mX11_exchange 0 := ⟨tbl_ok (by decide +kernel), wm_1707, by decide +kernel, rfl, ⟨by decide +kernel, by decide +kernel, by decide +kernel⟩, wm_161, by decide⟩
def mX11_play : pM := (11, yX11_play, prog_13_method_63_code, 2, (Option.some FieldType.int), [(0, .aload_n 0), (1, .iload_n 1), (2, .invokevirtual 428), (5, .ifCond .eq 31), (8, .aload_n 0), (9, .getfield 104), (12, .bipush 61), (14, .iaload), (15, .aload_n 0), (16, .getfield 45), (19, .bipush 6), (21, .aload_n 0), (22, .getfield 288), (25, .imul), (26, .iload_n 1), (27, .iadd), (28, .iaload), (29, .iadd), (30, .sipush 2000), (33, .if_icmp .le 5), (36, .iconst (-1)), (37, .ireturn), (38, .aload_n 0), (39, .invokevirtual 431), (42, .aload_n 0), (43, .iload_n 1), (44, .invokevirtual 434), (47, .aload_n 0), (48, .invokevirtual 422), (51, .ireturn)])
theorem mok_X11_play : MOK mX11_play 1 := ⟨tbl_ok (by decide +kernel), wm_1652, by decide +kernel, rfl, ⟨by decide +kernel, by decide +kernel, by decide +kernel⟩, wm_161, by decide⟩
def mX11_hold : pM := (11, yX11_hold, prog_13_method_64_code, 2, (Option.some FieldType.int), [(0, .iload_n 1), (1, .iconst 0), (2, .bipush 20), (4, .invokestatic 375), (7, .ifCond .eq 18), (10, .aload_n 0), (11, .getfield 104), (14, .bipush 61), (16, .iaload), (17, .iload_n 1), (18, .iadd), (19, .sipush 2000), (22, .if_icmp .le 5), (25, .iconst (-1)), (26, .ireturn), (27, .aload_n 0), (28, .invokevirtual 431), (31, .aload_n 0), (32, .iload_n 1), (33, .invokevirtual 437), (36, .aload_n 0), (37, .invokevirtual 422), (40, .ireturn)])
theorem mok_X11_hold : MOK mX11_hold 1 := ⟨tbl_ok (by decide +kernel), wm_1695, by decide +kernel, rfl, ⟨by decide +kernel, by decide +kernel, by decide +kernel⟩, wm_161, by decide⟩
def mX11_undo : pM := (11, yX11_undo, prog_13_method_65_code, 1, (Option.some FieldType.boolean), [(0, .aload_n 0), (1, .getfield 386), (4, .ifCond .ne 5), (7, .iconst 0), (8, .ireturn), (9, .aload_n 0), (10, .dup), (11, .getfield 386), (14, .iconst 1), (15, .isub), (16, .putfield 386), (19, .aload_n 0), (20, .dup), (21, .getfield 389), (24, .iconst 1), (25, .iadd), (26, .putfield 389), (29, .aload_n 0), (30, .invokevirtual 440), (33, .iconst 1), (34, .ireturn)])
theorem mok_X11_undo : MOK mX11_undo 0 := ⟨tbl_ok (by decide +kernel), wm_1703, by decide +kernel, rfl, ⟨by decide +kernel, by decide +kernel, by decide +kernel⟩, wm_161, by decide⟩
def mX11_redo : pM := (11, yX11_redo, prog_13_method_66_code, 1, (Option.some FieldType.boolean), [(0, .aload_n 0), (1, .getfield 389), (4, .ifCond .ne 5), (7, .iconst 0), (8, .ireturn), (9, .aload_n 0), (10, .invokevirtual 440), (13, .aload_n 0), (14, .dup), (15, .getfield 386), (18, .iconst 1), (19, .iadd), (20, .putfield 386), (23, .aload_n 0), (24, .dup), (25, .getfield 389), (28, .iconst 1), (29, .isub), (30, .putfield 389), (33, .iconst 1), (34, .ireturn)])
theorem mok_X11_redo : MOK mX11_redo 0 := ⟨tbl_ok (by decide +kernel), wm_1711, by decide +kernel, rfl, ⟨by decide +kernel, by decide +kernel, by decide +kernel⟩, wm_161, by decide⟩
def mX11_lay : pM := (11, yX11_lay, prog_13_method_67_code, 4, (Option.none : Option FieldType), [(0, .iconst 0), (1, .istore_n 3), (2, .iload_n 3), (3, .iload_n 2), (4, .if_icmp .ge 18), (7, .aload_n 0), (8, .getfield 128), (11, .iload_n 3), (12, .aload_n 1), (13, .iload_n 3), (14, .iaload), (15, .iastore), (16, .iinc 3 1), (19, .goto (-17)), (22, .aload_n 0), (23, .iload_n 2), (24, .putfield 297), (27, .return_)])
theorem mok_X11_lay : MOK mX11_lay 2 := ⟨tbl_ok (by decide +kernel), wm_1751, by decide +kernel, rfl, ⟨by decide +kernel, by decide +kernel, by decide +kernel⟩, wm_161, by decide⟩
def mX11_lies : pM := (11, yX11_lies, prog_13_method_68_code, 2, (Option.some FieldType.int), [(0, .iload_n 1), (1, .iconst 0), (2, .aload_n 0), (3, .getfield 297), (6, .iconst 1), (7, .isub), (8, .invokestatic 375), (11, .ifCond .eq 12), (14, .aload_n 0), (15, .getfield 128), (18, .iload_n 1), (19, .iaload), (20, .goto 4), (23, .iconst (-1)), (24, .ireturn)])
theorem mok_X11_lies : MOK mX11_lies 1 := ⟨tbl_ok (by decide +kernel), wm_1715, by decide +kernel, rfl, ⟨by decide +kernel, by decide +kernel, by decide +kernel⟩, wm_161, by decide⟩
def mX11_nextOrder : pM := (11, yX11_nextOrder, prog_13_method_69_code, 6, (Option.some FieldType.boolean), [(0, .iload_n 1), (1, .iconst 2), (2, .isub), (3, .istore_n 2), (4, .iload_n 2), (5, .ifCond .lt 26), (8, .aload_n 0), (9, .getfield 122), (12, .iload_n 2), (13, .iaload), (14, .aload_n 0), (15, .getfield 122), (18, .iload_n 2), (19, .iconst 1), (20, .iadd), (21, .iaload), (22, .if_icmp .le 9), (25, .iinc 2 (-1)), (28, .goto (-24)), (31, .iload_n 2), (32, .ifCond .ge 5), (35, .iconst 0), (36, .ireturn), (37, .iload_n 1), (38, .iconst 1), (39, .isub), (40, .istore_n 3), (41, .aload_n 0), (42, .getfield 122), (45, .iload_n 3), (46, .iaload), (47, .aload_n 0), (48, .getfield 122), (51, .iload_n 2), (52, .iaload), (53, .if_icmp .ge 9), (56, .iinc 3 (-1)), (59, .goto (-18)), (62, .aload_n 0), (63, .iload_n 3), (64, .iload_n 2), (65, .invokevirtual 443), (68, .iload_n 2), (69, .iconst 1), (70, .iadd), (71, .istore 4), (73, .iload_n 1), (74, .iconst 1), (75, .isub), (76, .istore 5), (78, .iload 4), (80, .iload 5), (82, .if_icmp .ge 20), (85, .aload_n 0), (86, .iload 4), (88, .iload 5), (90, .invokevirtual 443), (93, .iinc 4 1), (96, .iinc 5 (-1)), (99, .goto (-21)), (102, .iconst 1), (103, .ireturn)])
theorem mok_X11_nextOrder : MOK mX11_nextOrder 1 := ⟨tbl_ok (by decide +kernel), wm_1743, by decide +kernel, rfl, ⟨by decide +kernel, by decide +kernel, by decide +kernel⟩, wm_161, by decide⟩
def mX11_swap : pM := (11, yX11_swap, prog_13_method_70_code, 4, (Option.none : Option FieldType), [(0, .aload_n 0), (1, .getfield 122), (4, .iload_n 1), (5, .iaload), (6, .istore_n 3), (7, .aload_n 0), (8, .getfield 122), (11, .iload_n 1), (12, .aload_n 0), (13, .getfield 122), (16, .iload_n 2), (17, .iaload), (18, .iastore), (19, .aload_n 0), (20, .getfield 122), (23, .iload_n 2), (24, .iload_n 3), (25, .iastore), (26, .return_)])
theorem mok_X11_swap : MOK mX11_swap 2 := ⟨tbl_ok (by decide +kernel), wm_1747, by decide +kernel, rfl, ⟨by decide +kernel, by decide +kernel, by decide +kernel⟩, wm_161, by decide⟩
def mX11_layTunes : pM := (11, yX11_layTunes, prog_13_method_71_code, 4, (Option.some FieldType.int), [(0, .iconst 0), (1, .istore_n 2), (2, .iconst 0), (3, .istore_n 3), (4, .iload_n 3), (5, .aload_n 0), (6, .getfield 33), (9, .aload_n 0), (10, .getfield 288), (13, .iaload), (14, .if_icmp .ge 30), (17, .iload_n 1), (18, .iload_n 3), (19, .ishr), (20, .iconst 1), (21, .iand), (22, .ifCond .ne 6), (25, .goto 13), (28, .aload_n 0), (29, .getfield 122), (32, .iload_n 2), (33, .iload_n 3), (34, .iastore), (35, .iinc 2 1), (38, .iinc 3 1), (41, .goto (-37)), (44, .iload_n 2), (45, .ireturn)])
theorem mok_X11_layTunes : MOK mX11_layTunes 1 := ⟨tbl_ok (by decide +kernel), wm_1727, by decide +kernel, rfl, ⟨by decide +kernel, by decide +kernel, by decide +kernel⟩, wm_161, by decide⟩
def mX11_isSet : pM := (11, yX11_isSet, prog_13_method_72_code, 2, (Option.some FieldType.boolean), [(0, .iload_n 1), (1, .ifCond .lt 22), (4, .iload_n 1), (5, .iconst 1), (6, .aload_n 0), (7, .getfield 33), (10, .aload_n 0), (11, .getfield 288), (14, .iaload), (15, .ishl), (16, .if_icmp .ge 7), (19, .iconst 1), (20, .goto 4), (23, .iconst 0), (24, .ireturn)])
theorem mok_X11_isSet : MOK mX11_isSet 1 := ⟨tbl_ok (by decide +kernel), wm_1723, by decide +kernel, rfl, ⟨by decide +kernel, by decide +kernel, by decide +kernel⟩, wm_161, by decide⟩
def mX11_order : pM := (11, yX11_order, prog_13_method_73_code, 7, (Option.some FieldType.int), [(0, .aload_n 0), (1, .iconst 0), (2, .putfield 297), (5, .aload_n 0), (6, .iload_n 1), (7, .invokevirtual 446), (10, .ifCond .ne 5), (13, .iconst (-1)), (14, .ireturn), (15, .aload_n 0), (16, .iload_n 1), (17, .invokevirtual 449), (20, .istore_n 2), (21, .iconst (-1)), (22, .istore_n 3), (23, .iconst 1), (24, .istore 4), (26, .aload_n 0), (27, .iconst 0), (28, .invokevirtual 452), (31, .iload 4), (33, .ifCond .eq 92), (36, .iconst 0), (37, .istore 5), (39, .iload 5), (41, .iload_n 2), (42, .if_icmp .ge 20), (45, .aload_n 0), (46, .aload_n 0), (47, .getfield 122), (50, .iload 5), (52, .iaload), (53, .invokevirtual 434), (56, .iinc 5 1), (59, .goto (-20)), (62, .aload_n 0), (63, .invokevirtual 455), (66, .istore 5), (68, .aload_n 0), (69, .iconst 0), (70, .invokevirtual 458), (73, .iload_n 3), (74, .ifCond .lt 9), (77, .iload 5), (79, .iload_n 3), (80, .if_icmp .ge 35), (83, .iload 5), (85, .istore_n 3), (86, .iconst 0), (87, .istore 6), (89, .iload 6), (91, .iload_n 2), (92, .if_icmp .ge 23), (95, .aload_n 0), (96, .getfield 125), (99, .iload 6), (101, .aload_n 0), (102, .getfield 122), (105, .iload 6), (107, .iaload), (108, .iastore), (109, .iinc 6 1), (112, .goto (-23)), (115, .aload_n 0), (116, .iload_n 2), (117, .invokevirtual 461), (120, .istore 4), (122, .goto (-91)), (125, .aload_n 0), (126, .aload_n 0), (127, .getfield 125), (130, .iload_n 2), (131, .invokevirtual 464), (134, .iload_n 3), (135, .ireturn)])
theorem mok_X11_order : MOK mX11_order 1 := ⟨tbl_ok (by decide +kernel), wm_1719, by decide +kernel, rfl, ⟨by decide +kernel, by decide +kernel, by decide +kernel⟩, wm_161, by decide⟩
def mX11_duels : pM := (11, yX11_duels, prog_13_method_74_code, 4, (Option.some FieldType.int), [(0, .iconst 0), (1, .istore_n 3), (2, .aload_n 0), (3, .iconst 0), (4, .invokevirtual 452), (7, .aload_n 0), (8, .getfield 131), (11, .iconst 0), (12, .iconst (-1)), (13, .iastore), (14, .aload_n 0), (15, .getfield 134), (18, .iconst 0), (19, .iconst (-1)), (20, .iastore), (21, .iload_n 3), (22, .ifCond .lt 110), (25, .aload_n 0), (26, .getfield 131), (29, .iload_n 3), (30, .dup2), (31, .iaload), (32, .iconst 1), (33, .iadd), (34, .iastore), (35, .aload_n 0), (36, .iload_n 3), (37, .invokevirtual 458), (40, .aload_n 0), (41, .getfield 131), (44, .iload_n 3), (45, .iaload), (46, .iload_n 1), (47, .if_icmp .ne 26), (50, .iinc 3 (-1)), (53, .iload_n 3), (54, .ifCond .lt (-33)), (57, .aload_n 0), (58, .iload_n 3), (59, .aload_n 0), (60, .getfield 134), (63, .iload_n 3), (64, .iconst 1), (65, .iadd), (66, .iaload), (67, .invokevirtual 468), (70, .goto (-49)), (73, .aload_n 0), (74, .aload_n 0), (75, .getfield 122), (78, .aload_n 0), (79, .getfield 131), (82, .iload_n 3), (83, .iaload), (84, .iaload), (85, .invokevirtual 434), (88, .iload_n 3), (89, .iload_n 2), (90, .iconst 1), (91, .isub), (92, .if_icmp .ne 15), (95, .aload_n 0), (96, .iload_n 3), (97, .aload_n 0), (98, .invokevirtual 422), (101, .invokevirtual 468), (104, .goto (-83)), (107, .iinc 3 1), (110, .aload_n 0), (111, .iload_n 3), (112, .invokevirtual 452), (115, .aload_n 0), (116, .getfield 131), (119, .iload_n 3), (120, .iconst (-1)), (121, .iastore), (122, .aload_n 0), (123, .getfield 134), (126, .iload_n 3), (127, .iconst (-1)), (128, .iastore), (129, .goto (-108)), (132, .aload_n 0), (133, .iconst 0), (134, .invokevirtual 458), (137, .aload_n 0), (138, .getfield 134), (141, .iconst 0), (142, .iaload), (143, .ireturn)])
theorem mok_X11_duels : MOK mX11_duels 2 := ⟨tbl_ok (by decide +kernel), wm_1759, by decide +kernel, rfl, ⟨by decide +kernel, by decide +kernel, by decide +kernel⟩, wm_161, by decide⟩
def mX11_takes : pM := (11, yX11_takes, prog_13_method_75_code, 4, (Option.none : Option FieldType), [(0, .aload_n 0), (1, .getfield 134), (4, .iload_n 1), (5, .iaload), (6, .ifCond .lt 32), (9, .iload_n 1), (10, .iconst 2), (11, .irem), (12, .ifCond .ne 16), (15, .iload_n 2), (16, .aload_n 0), (17, .getfield 134), (20, .iload_n 1), (21, .iaload), (22, .if_icmp .le 20), (25, .goto 13), (28, .iload_n 2), (29, .aload_n 0), (30, .getfield 134), (33, .iload_n 1), (34, .iaload), (35, .if_icmp .ge 7), (38, .iconst 1), (39, .goto 4), (42, .iconst 0), (43, .istore_n 3), (44, .iload_n 3), (45, .ifCond .ne 4), (48, .return_), (49, .aload_n 0), (50, .getfield 134), (53, .iload_n 1), (54, .iload_n 2), (55, .iastore), (56, .iload_n 1), (57, .ifCond .ne 20), (60, .aload_n 0), (61, .getfield 125), (64, .iconst 0), (65, .aload_n 0), (66, .getfield 122), (69, .aload_n 0), (70, .getfield 131), (73, .iconst 0), (74, .iaload), (75, .iaload), (76, .iastore), (77, .return_)])
theorem mok_X11_takes : MOK mX11_takes 2 := ⟨tbl_ok (by decide +kernel), wm_1763, by decide +kernel, rfl, ⟨by decide +kernel, by decide +kernel, by decide +kernel⟩, wm_161, by decide⟩
def mX11_duel : pM := (11, yX11_duel, prog_13_method_76_code, 5, (Option.some FieldType.int), [(0, .aload_n 0), (1, .iload_n 1), (2, .invokevirtual 446), (5, .ifCond .eq 25), (8, .iload_n 1), (9, .ifCond .eq 21), (12, .iload_n 2), (13, .iconst 1), (14, .iconst 4), (15, .invokestatic 375), (18, .ifCond .eq 12), (21, .iload_n 3), (22, .iconst 0), (23, .iconst 1), (24, .invokestatic 375), (27, .ifCond .ne 5), (30, .iconst (-1)), (31, .ireturn), (32, .aload_n 0), (33, .aload_n 0), (34, .iload_n 1), (35, .invokevirtual 449), (38, .iload_n 2), (39, .invokevirtual 471), (42, .istore 4), (44, .iload_n 3), (45, .ifCond .ne 8), (48, .iload 4), (50, .goto 9), (53, .aload_n 0), (54, .getfield 125), (57, .iconst 0), (58, .iaload), (59, .ireturn)])
theorem mok_X11_duel : MOK mX11_duel 3 := ⟨tbl_ok (by decide +kernel), wm_1755, by decide +kernel, rfl, ⟨by decide +kernel, by decide +kernel, by decide +kernel⟩, wm_161, by decide⟩
end
section
def mX11_isDry : pM := (11, yX11_isDry, prog_13_method_77_code, 4, (Option.some FieldType.boolean), [(0, .aload_n 0), (1, .invokevirtual 455), (4, .istore_n 2), (5, .aload_n 0), (6, .iconst 0), (7, .invokevirtual 452), (10, .aload_n 0), (11, .iload_n 1), (12, .invokevirtual 434), (15, .aload_n 0), (16, .invokevirtual 455), (19, .iload_n 2), (20, .if_icmp .ne 7), (23, .iconst 1), (24, .goto 4), (27, .iconst 0), (28, .istore_n 3), (29, .aload_n 0), (30, .iconst 0), (31, .invokevirtual 458), (34, .iload_n 3), (35, .ireturn)])
theorem mok_X11_isDry : MOK mX11_isDry 1 := ⟨tbl_ok (by decide +kernel), wm_1771, by decide +kernel, rfl, ⟨by decide +kernel, by decide +kernel, by decide +kernel⟩, wm_161, by decide⟩
def mX11_planks : pM := (11, yX11_planks, prog_13_method_78_code, 4, (Option.some FieldType.int), [(0, .aload_n 0), (1, .iconst 0), (2, .putfield 297), (5, .aload_n 0), (6, .iload_n 1), (7, .invokevirtual 428), (10, .ifCond .ne 6), (13, .bipush (-2)), (15, .ireturn), (16, .aload_n 0), (17, .iload_n 1), (18, .invokevirtual 474), (21, .ifCond .eq 5), (24, .iconst 0), (25, .ireturn), (26, .iconst 0), (27, .istore_n 2), (28, .iload_n 2), (29, .bipush 25), (31, .if_icmp .ge 21), (34, .aload_n 0), (35, .iload_n 1), (36, .iload_n 2), (37, .iload_n 2), (38, .invokevirtual 477), (41, .ifCond .eq 5), (44, .iconst 1), (45, .ireturn), (46, .iinc 2 1), (49, .goto (-21)), (52, .iconst 0), (53, .istore_n 2), (54, .iload_n 2), (55, .bipush 25), (57, .if_icmp .ge 37), (60, .iload_n 2), (61, .iconst 1), (62, .iadd), (63, .istore_n 3), (64, .iload_n 3), (65, .bipush 25), (67, .if_icmp .ge 21), (70, .aload_n 0), (71, .iload_n 1), (72, .iload_n 2), (73, .iload_n 3), (74, .invokevirtual 477), (77, .ifCond .eq 5), (80, .iconst 2), (81, .ireturn), (82, .iinc 3 1), (85, .goto (-21)), (88, .iinc 2 1), (91, .goto (-37)), (94, .iconst (-1)), (95, .ireturn)])
theorem mok_X11_planks : MOK mX11_planks 1 := ⟨tbl_ok (by decide +kernel), wm_1767, by decide +kernel, rfl, ⟨by decide +kernel, by decide +kernel, by decide +kernel⟩, wm_161, by decide⟩
def mX11_isDryBy : pM := (11, yX11_isDryBy, prog_13_method_79_code, 5, (Option.some FieldType.boolean), [(0, .aload_n 0), (1, .iload_n 2), (2, .iconst 5), (3, .irem), (4, .iload_n 2), (5, .iconst 5), (6, .idiv), (7, .invokevirtual 395), (10, .ifCond .eq 16), (13, .aload_n 0), (14, .iload_n 3), (15, .iconst 5), (16, .irem), (17, .iload_n 3), (18, .iconst 5), (19, .idiv), (20, .invokevirtual 395), (23, .ifCond .ne 5), (26, .iconst 0), (27, .ireturn), (28, .aload_n 0), (29, .getfield 116), (32, .iload_n 2), (33, .iconst 1), (34, .bastore), (35, .aload_n 0), (36, .getfield 116), (39, .iload_n 3), (40, .iconst 1), (41, .bastore), (42, .aload_n 0), (43, .iload_n 1), (44, .invokevirtual 474), (47, .istore 4), (49, .aload_n 0), (50, .getfield 116), (53, .iload_n 2), (54, .iconst 0), (55, .bastore), (56, .aload_n 0), (57, .getfield 116), (60, .iload_n 3), (61, .iconst 0), (62, .bastore), (63, .iload 4), (65, .ifCond .ne 5), (68, .iconst 0), (69, .ireturn), (70, .aload_n 0), (71, .getfield 128), (74, .iconst 0), (75, .iload_n 2), (76, .iastore), (77, .aload_n 0), (78, .getfield 128), (81, .iconst 1), (82, .iload_n 3), (83, .iastore), (84, .aload_n 0), (85, .iload_n 2), (86, .iload_n 3), (87, .if_icmp .ne 7), (90, .iconst 1), (91, .goto 4), (94, .iconst 2), (95, .putfield 297), (98, .iconst 1), (99, .ireturn)])
theorem mok_X11_isDryBy : MOK mX11_isDryBy 3 := ⟨tbl_ok (by decide +kernel), wm_1775, by decide +kernel, rfl, ⟨by decide +kernel, by decide +kernel, by decide +kernel⟩, wm_161, by decide⟩
def mX11_hush : pM := (11, yX11_hush, prog_13_method_80_code, 7, (Option.some FieldType.int), [(0, .aload_n 0), (1, .iload_n 1), (2, .invokevirtual 428), (5, .ifCond .eq 12), (8, .iload_n 2), (9, .iconst 0), (10, .iconst 1), (11, .invokestatic 375), (14, .ifCond .ne 5), (17, .iconst (-1)), (18, .ireturn), (19, .iconst (-1)), (20, .istore_n 3), (21, .iconst 0), (22, .istore 4), (24, .aload_n 0), (25, .iconst 0), (26, .invokevirtual 452), (29, .iconst 0), (30, .istore 5), (32, .iload 5), (34, .bipush 8), (36, .if_icmp .gt 52), (39, .aload_n 0), (40, .iload 5), (42, .invokevirtual 437), (45, .aload_n 0), (46, .iload_n 1), (47, .invokevirtual 434), (50, .aload_n 0), (51, .invokevirtual 455), (54, .istore 6), (56, .aload_n 0), (57, .iconst 0), (58, .invokevirtual 458), (61, .iload_n 3), (62, .ifCond .lt 13), (65, .iload 6), (67, .iload 4), (69, .if_icmp .lt 6), (72, .goto 10), (75, .iload 5), (77, .istore_n 3), (78, .iload 6), (80, .istore 4), (82, .iinc 5 1), (85, .goto (-53)), (88, .iload_n 2), (89, .ifCond .ne 7), (92, .iload_n 3), (93, .goto 5), (96, .iload 4), (98, .ireturn)])
theorem mok_X11_hush : MOK mX11_hush 2 := ⟨tbl_ok (by decide +kernel), wm_1779, by decide +kernel, rfl, ⟨by decide +kernel, by decide +kernel, by decide +kernel⟩, wm_161, by decide⟩
def mX11_breaks : pM := (11, yX11_breaks, prog_13_method_81_code, 6, (Option.some FieldType.int), [(0, .aload_n 0), (1, .iload_n 1), (2, .invokevirtual 428), (5, .ifCond .eq 14), (8, .iload_n 2), (9, .bipush (-9)), (11, .bipush 9), (13, .invokestatic 375), (16, .ifCond .ne 6), (19, .bipush (-2)), (21, .ireturn), (22, .iconst (-1)), (23, .istore_n 3), (24, .aload_n 0), (25, .iconst 0), (26, .invokevirtual 452), (29, .iconst 0), (30, .istore 4), (32, .iload 4), (34, .bipush 25), (36, .if_icmp .ge 50), (39, .aload_n 0), (40, .getfield 104), (43, .iload 4), (45, .iaload), (46, .iload_n 2), (47, .iadd), (48, .istore 5), (50, .aload_n 0), (51, .getfield 104), (54, .iload 4), (56, .iload 5), (58, .ifCond .ge 7), (61, .iconst 0), (62, .goto 17), (65, .iload 5), (67, .bipush 99), (69, .if_icmp .le 8), (72, .bipush 99), (74, .goto 5), (77, .iload 5), (79, .iastore), (80, .iinc 4 1), (83, .goto (-51)), (86, .iconst 0), (87, .istore 4), (89, .iload 4), (91, .aload_n 0), (92, .getfield 45), (95, .bipush 6), (97, .aload_n 0), (98, .getfield 288), (101, .imul), (102, .iload_n 1), (103, .iadd), (104, .iaload), (105, .if_icmp .ge 34), (108, .iload_n 3), (109, .ifCond .ge 30), (112, .aload_n 0), (113, .iload_n 1), (114, .iload 4), (116, .invokevirtual 419), (119, .aload_n 0), (120, .getfield 412), (123, .ifCond .eq 8), (126, .iload 4), (128, .goto 4), (131, .iconst (-1)), (132, .istore_n 3), (133, .iinc 4 1), (136, .goto (-47)), (139, .aload_n 0), (140, .iconst 0), (141, .invokevirtual 458), (144, .iload_n 3), (145, .ireturn)])
theorem mok_X11_breaks : MOK mX11_breaks 2 := ⟨tbl_ok (by decide +kernel), wm_1783, by decide +kernel, rfl, ⟨by decide +kernel, by decide +kernel, by decide +kernel⟩, wm_161, by decide⟩
def mX11_addSight : pM := (11, yX11_addSight, prog_13_method_82_code, 5, (Option.some FieldType.int), [(0, .aload_n 0), (1, .getfield 137), (4, .aload_n 0), (5, .getfield 294), (8, .iload_n 1), (9, .iastore), (10, .aload_n 0), (11, .getfield 140), (14, .aload_n 0), (15, .getfield 294), (18, .iload_n 2), (19, .iastore), (20, .aload_n 0), (21, .getfield 143), (24, .aload_n 0), (25, .getfield 294), (28, .iload_n 3), (29, .iastore), (30, .aload_n 0), (31, .getfield 146), (34, .aload_n 0), (35, .getfield 294), (38, .iload 4), (40, .iastore), (41, .aload_n 0), (42, .getfield 149), (45, .aload_n 0), (46, .getfield 294), (49, .aload_n 0), (50, .getfield 480), (53, .iastore), (54, .aload_n 0), (55, .getfield 152), (58, .aload_n 0), (59, .getfield 294), (62, .iconst (-1)), (63, .iastore), (64, .aload_n 0), (65, .dup), (66, .getfield 294), (69, .iconst 1), (70, .iadd), (71, .putfield 294), (74, .aload_n 0), (75, .getfield 294), (78, .iconst 1), (79, .isub), (80, .ireturn)])
theorem mok_X11_addSight : MOK mX11_addSight 4 := ⟨tbl_ok (by decide +kernel), wm_1791, by decide +kernel, rfl, ⟨by decide +kernel, by decide +kernel, by decide +kernel⟩, wm_161, by decide⟩
def mX11_sight : pM := (11, yX11_sight, prog_13_method_83_code, 6, (Option.some FieldType.int), [(0, .iload_n 1), (1, .iconst 1), (2, .bipush 36), (4, .invokestatic 375), (7, .ifCond .eq 44), (10, .aload_n 0), (11, .iload_n 2), (12, .iload_n 3), (13, .invokevirtual 395), (16, .ifCond .eq 35), (19, .iload 4), (21, .iconst 0), (22, .bipush 99), (24, .invokestatic 375), (27, .ifCond .eq 24), (30, .iload 5), (32, .iload 4), (34, .bipush 99), (36, .invokestatic 375), (39, .ifCond .eq 12), (42, .aload_n 0), (43, .getfield 294), (46, .bipush 30), (48, .if_icmp .ne 5), (51, .iconst (-1)), (52, .ireturn), (53, .aload_n 0), (54, .iload_n 1), (55, .iload_n 2), (56, .iconst 5), (57, .iload_n 3), (58, .imul), (59, .iadd), (60, .iload 4), (62, .iload 5), (64, .invokevirtual 483), (67, .ireturn)])
theorem mok_X11_sight : MOK mX11_sight 5 := ⟨tbl_ok (by decide +kernel), wm_1787, by decide +kernel, rfl, ⟨by decide +kernel, by decide +kernel, by decide +kernel⟩, wm_161, by decide⟩
def mX11_seen : pM := (11, yX11_seen, prog_13_method_84_code, 4, (Option.some FieldType.int), [(0, .iload_n 1), (1, .iconst 1), (2, .bipush 36), (4, .invokestatic 375), (7, .ifCond .eq 20), (10, .aload_n 0), (11, .iload_n 2), (12, .invokevirtual 425), (15, .ifCond .eq 12), (18, .aload_n 0), (19, .getfield 294), (22, .bipush 30), (24, .if_icmp .ne 5), (27, .iconst (-1)), (28, .ireturn), (29, .aload_n 0), (30, .iload_n 1), (31, .iconst (-1)), (32, .iload_n 2), (33, .isub), (34, .iload_n 3), (35, .ifCond .eq 7), (38, .iconst 1), (39, .goto 4), (42, .iconst 0), (43, .iload_n 3), (44, .ifCond .eq 7), (47, .iconst 1), (48, .goto 4), (51, .iconst 0), (52, .invokevirtual 483), (55, .ireturn)])
theorem mok_X11_seen : MOK mX11_seen 3 := ⟨tbl_ok (by decide +kernel), wm_1795, by decide +kernel, rfl, ⟨by decide +kernel, by decide +kernel, by decide +kernel⟩, wm_161, by decide⟩
def mX11_untell : pM := (11, yX11_untell, prog_13_method_85_code, 2, (Option.some FieldType.boolean), [(0, .iload_n 1), (1, .iconst 0), (2, .aload_n 0), (3, .getfield 294), (6, .iconst 1), (7, .isub), (8, .invokestatic 375), (11, .ifCond .eq 12), (14, .aload_n 0), (15, .getfield 152), (18, .iload_n 1), (19, .iaload), (20, .ifCond .lt 5), (23, .iconst 0), (24, .ireturn), (25, .aload_n 0), (26, .getfield 152), (29, .iload_n 1), (30, .aload_n 0), (31, .getfield 480), (34, .iastore), (35, .iconst 1), (36, .ireturn)])
theorem mok_X11_untell : MOK mX11_untell 1 := ⟨tbl_ok (by decide +kernel), wm_1799, by decide +kernel, rfl, ⟨by decide +kernel, by decide +kernel, by decide +kernel⟩, wm_161, by decide⟩
def mX11_later : pM := (11, yX11_later, prog_13_method_86_code, 2, (Option.some FieldType.int), [(0, .iload_n 1), (1, .iconst 0), (2, .sipush 1000), (5, .invokestatic 375), (8, .ifCond .eq 15), (11, .aload_n 0), (12, .getfield 480), (15, .iload_n 1), (16, .iadd), (17, .ldc_w 487), (20, .if_icmp .le 5), (23, .iconst (-1)), (24, .ireturn), (25, .aload_n 0), (26, .dup), (27, .getfield 480), (30, .iload_n 1), (31, .iadd), (32, .putfield 480), (35, .aload_n 0), (36, .getfield 480), (39, .ireturn)])
theorem mok_X11_later : MOK mX11_later 1 := ⟨tbl_ok (by decide +kernel), wm_1803, by decide +kernel, rfl, ⟨by decide +kernel, by decide +kernel, by decide +kernel⟩, wm_161, by decide⟩
def mX11_counts : pM := (11, yX11_counts, prog_13_method_87_code, 3, (Option.some FieldType.boolean), [(0, .aload_n 0), (1, .getfield 149), (4, .iload_n 1), (5, .iaload), (6, .iload_n 2), (7, .if_icmp .gt 26), (10, .aload_n 0), (11, .getfield 152), (14, .iload_n 1), (15, .iaload), (16, .ifCond .lt 13), (19, .aload_n 0), (20, .getfield 152), (23, .iload_n 1), (24, .iaload), (25, .iload_n 2), (26, .if_icmp .le 7), (29, .iconst 1), (30, .goto 4), (33, .iconst 0), (34, .ireturn)])
theorem mok_X11_counts : MOK mX11_counts 2 := ⟨tbl_ok (by decide +kernel), wm_1824, by decide +kernel, rfl, ⟨by decide +kernel, by decide +kernel, by decide +kernel⟩, wm_161, by decide⟩
def mX11_areSoNow : pM := (11, yX11_areSoNow, prog_13_method_88_code, 4, (Option.some FieldType.boolean), [(0, .iconst 0), (1, .istore_n 2), (2, .iload_n 2), (3, .aload_n 0), (4, .getfield 294), (7, .if_icmp .ge 92), (10, .aload_n 0), (11, .getfield 140), (14, .iload_n 2), (15, .iaload), (16, .ifCond .lt 17), (19, .aload_n 0), (20, .getfield 104), (23, .aload_n 0), (24, .getfield 140), (27, .iload_n 2), (28, .iaload), (29, .iaload), (30, .goto 16), (33, .aload_n 0), (34, .iconst (-1)), (35, .aload_n 0), (36, .getfield 140), (39, .iload_n 2), (40, .iaload), (41, .isub), (42, .iconst 2), (43, .invokevirtual 392), (46, .istore_n 3), (47, .aload_n 0), (48, .getfield 137), (51, .iload_n 2), (52, .iaload), (53, .aload_n 0), (54, .getfield 104), (57, .bipush 61), (59, .iaload), (60, .if_icmp .ne 33), (63, .aload_n 0), (64, .iload_n 2), (65, .iload_n 1), (66, .invokevirtual 488), (69, .ifCond .eq 24), (72, .iload_n 3), (73, .aload_n 0), (74, .getfield 143), (77, .iload_n 2), (78, .iaload), (79, .aload_n 0), (80, .getfield 146), (83, .iload_n 2), (84, .iaload), (85, .invokestatic 375), (88, .ifCond .ne 5), (91, .iconst 0), (92, .ireturn), (93, .iinc 2 1), (96, .goto (-94)), (99, .iconst 1), (100, .ireturn)])
theorem mok_X11_areSoNow : MOK mX11_areSoNow 1 := ⟨tbl_ok (by decide +kernel), wm_1820, by decide +kernel, rfl, ⟨by decide +kernel, by decide +kernel, by decide +kernel⟩, wm_161, by decide⟩
def mX11_areSoBy : pM := (11, yX11_areSoBy, prog_13_method_89_code, 5, (Option.some FieldType.boolean), [(0, .aload_n 0), (1, .invokevirtual 383), (4, .iconst 0), (5, .istore_n 3), (6, .iload_n 3), (7, .iload_n 1), (8, .if_icmp .ge 64), (11, .iconst 0), (12, .istore 4), (14, .iload 4), (16, .aload_n 0), (17, .getfield 45), (20, .bipush 6), (22, .aload_n 0), (23, .getfield 288), (26, .imul), (27, .aload_n 0), (28, .getfield 122), (31, .iload_n 3), (32, .iaload), (33, .iadd), (34, .iaload), (35, .if_icmp .ge 31), (38, .aload_n 0), (39, .aload_n 0), (40, .getfield 122), (43, .iload_n 3), (44, .iaload), (45, .iload 4), (47, .invokevirtual 419), (50, .aload_n 0), (51, .iload_n 2), (52, .invokevirtual 491), (55, .ifCond .ne 5), (58, .iconst 0), (59, .ireturn), (60, .iinc 4 1), (63, .goto (-49)), (66, .iinc 3 1), (69, .goto (-63)), (72, .iconst 0), (73, .istore_n 3), (74, .iload_n 3), (75, .aload_n 0), (76, .getfield 294), (79, .if_icmp .ge 36), (82, .aload_n 0), (83, .getfield 137), (86, .iload_n 3), (87, .iaload), (88, .aload_n 0), (89, .getfield 104), (92, .bipush 61), (94, .iaload), (95, .if_icmp .le 14), (98, .aload_n 0), (99, .iload_n 3), (100, .iload_n 2), (101, .invokevirtual 488), (104, .ifCond .eq 5), (107, .iconst 0), (108, .ireturn), (109, .iinc 3 1), (112, .goto (-38)), (115, .iconst 1), (116, .ireturn)])
theorem mok_X11_areSoBy : MOK mX11_areSoBy 2 := ⟨tbl_ok (by decide +kernel), wm_1816, by decide +kernel, rfl, ⟨by decide +kernel, by decide +kernel, by decide +kernel⟩, wm_161, by decide⟩
def mX11_layAsked : pM := (11, yX11_layAsked, prog_13_method_90_code, 7, (Option.none : Option FieldType), [(0, .iconst 1), (1, .istore_n 3), (2, .iconst 0), (3, .istore 4), (5, .iload 4), (7, .iload_n 1), (8, .if_icmp .ge 21), (11, .iload_n 3), (12, .aload_n 0), (13, .getfield 33), (16, .aload_n 0), (17, .getfield 288), (20, .iaload), (21, .imul), (22, .istore_n 3), (23, .iinc 4 1), (26, .goto (-21)), (29, .aload_n 0), (30, .iconst 0), (31, .putfield 494), (34, .iconst 0), (35, .istore 4), (37, .iload 4), (39, .iconst 3), (40, .if_icmp .ge 17), (43, .aload_n 0), (44, .getfield 155), (47, .iload 4), (49, .iconst 0), (50, .iastore), (51, .iinc 4 1), (54, .goto (-17)), (57, .aload_n 0), (58, .iconst 0), (59, .invokevirtual 452), (62, .iconst 0), (63, .istore 4), (65, .iload 4), (67, .iload_n 3), (68, .if_icmp .ge 154), (71, .iload 4), (73, .istore 5), (75, .iload_n 1), (76, .iconst 1), (77, .isub), (78, .istore 6), (80, .iload 6), (82, .ifCond .lt 42), (85, .aload_n 0), (86, .getfield 122), (89, .iload 6), (91, .iload 5), (93, .aload_n 0), (94, .getfield 33), (97, .aload_n 0), (98, .getfield 288), (101, .iaload), (102, .irem), (103, .iastore), (104, .iload 5), (106, .aload_n 0), (107, .getfield 33), (110, .aload_n 0), (111, .getfield 288), (114, .iaload), (115, .idiv), (116, .istore 5), (118, .iinc 6 (-1)), (121, .goto (-41)), (124, .aload_n 0), (125, .iload_n 1), (126, .iload_n 2), (127, .invokevirtual 497), (130, .ifCond .ne 6), (133, .goto 83), (136, .aload_n 0), (137, .getfield 494), (140, .ifCond .ne 32), (143, .iconst 0), (144, .istore 6), (146, .iload 6), (148, .iload_n 1), (149, .if_icmp .ge 23), (152, .aload_n 0), (153, .getfield 125), (156, .iload 6), (158, .aload_n 0), (159, .getfield 122), (162, .iload 6), (164, .iaload), (165, .iastore), (166, .iinc 6 1), (169, .goto (-23)), (172, .aload_n 0), (173, .dup), (174, .getfield 494), (177, .iconst 1), (178, .iadd), (179, .putfield 494), (182, .iconst 0), (183, .istore 6), (185, .iload 6), (187, .iload_n 1), (188, .if_icmp .ge 28), (191, .aload_n 0), (192, .getfield 155), (195, .iload 6), (197, .dup2), (198, .iaload), (199, .iconst 1), (200, .aload_n 0), (201, .getfield 122), (204, .iload 6), (206, .iaload), (207, .ishl), (208, .ior), (209, .iastore), (210, .iinc 6 1), (213, .goto (-28)), (216, .iinc 4 1), (219, .goto (-154)), (222, .aload_n 0), (223, .iconst 0), (224, .invokevirtual 458), (227, .return_)])
theorem mok_X11_layAsked : MOK mX11_layAsked 2 := ⟨tbl_ok (by decide +kernel), wm_1812, by decide +kernel, rfl, ⟨by decide +kernel, by decide +kernel, by decide +kernel⟩, wm_161, by decide⟩
def mX11_asked : pM := (11, yX11_asked, prog_13_method_91_code, 3, (Option.some FieldType.int), [(0, .aload_n 0), (1, .iconst 0), (2, .putfield 297), (5, .iload_n 1), (6, .iconst 1), (7, .iconst 3), (8, .invokestatic 375), (11, .ifCond .ne 5), (14, .iconst (-1)), (15, .ireturn), (16, .aload_n 0), (17, .iload_n 1), (18, .iload_n 2), (19, .invokevirtual 500), (22, .aload_n 0), (23, .getfield 494), (26, .ifCond .le 12), (29, .aload_n 0), (30, .aload_n 0), (31, .getfield 125), (34, .iload_n 1), (35, .invokevirtual 464), (38, .aload_n 0), (39, .getfield 494), (42, .ireturn)])
theorem mok_X11_asked : MOK mX11_asked 2 := ⟨tbl_ok (by decide +kernel), wm_1808, by decide +kernel, rfl, ⟨by decide +kernel, by decide +kernel, by decide +kernel⟩, wm_161, by decide⟩
def mX11_sure : pM := (11, yX11_sure, prog_13_method_92_code, 5, (Option.some FieldType.int), [(0, .iload_n 1), (1, .iconst 1), (2, .iconst 3), (3, .invokestatic 375), (6, .ifCond .eq 14), (9, .iload_n 2), (10, .iconst 0), (11, .iload_n 1), (12, .iconst 1), (13, .isub), (14, .invokestatic 375), (17, .ifCond .ne 5), (20, .iconst (-1)), (21, .ireturn), (22, .aload_n 0), (23, .iload_n 1), (24, .iload_n 3), (25, .invokevirtual 500), (28, .aload_n 0), (29, .getfield 494), (32, .ifCond .ne 5), (35, .iconst (-1)), (36, .ireturn), (37, .iconst 0), (38, .istore 4), (40, .iload 4), (42, .bipush 6), (44, .if_icmp .ge 25), (47, .aload_n 0), (48, .getfield 155), (51, .iload_n 2), (52, .iaload), (53, .iconst 1), (54, .iload 4), (56, .ishl), (57, .if_icmp .ne 6), (60, .iload 4), (62, .ireturn), (63, .iinc 4 1), (66, .goto (-26)), (69, .bipush (-2)), (71, .ireturn)])
theorem mok_X11_sure : MOK mX11_sure 3 := ⟨tbl_ok (by decide +kernel), wm_1828, by decide +kernel, rfl, ⟨by decide +kernel, by decide +kernel, by decide +kernel⟩, wm_161, by decide⟩
def mX11_image : pM := (11, yX11_image, prog_13_method_93_code, 3, (Option.some FieldType.int), [(0, .iload_n 1), (1, .iconst 0), (2, .iconst 2), (3, .invokestatic 375), (6, .ifCond .ne 5), (9, .iconst (-1)), (10, .ireturn), (11, .iconst 0), (12, .istore_n 2), (13, .iload_n 2), (14, .bipush 62), (16, .if_icmp .ge 26), (19, .aload_n 0), (20, .getfield 158), (23, .bipush 62), (25, .iload_n 1), (26, .imul), (27, .iload_n 2), (28, .iadd), (29, .aload_n 0), (30, .getfield 104), (33, .iload_n 2), (34, .iaload), (35, .iastore), (36, .iinc 2 1), (39, .goto (-26)), (42, .aload_n 0), (43, .getfield 161), (46, .iload_n 1), (47, .iconst 1), (48, .bastore), (49, .aload_n 0), (50, .getfield 104), (53, .bipush 61), (55, .iaload), (56, .ireturn)])
theorem mok_X11_image : MOK mX11_image 1 := ⟨tbl_ok (by decide +kernel), wm_1832, by decide +kernel, rfl, ⟨by decide +kernel, by decide +kernel, by decide +kernel⟩, wm_161, by decide⟩
def mX11_back : pM := (11, yX11_back, prog_13_method_94_code, 3, (Option.some FieldType.int), [(0, .iload_n 1), (1, .iconst 0), (2, .iconst 2), (3, .invokestatic 375), (6, .ifCond .eq 12), (9, .aload_n 0), (10, .getfield 161), (13, .iload_n 1), (14, .baload), (15, .ifCond .ne 5), (18, .iconst (-1)), (19, .ireturn), (20, .iconst 0), (21, .istore_n 2), (22, .iload_n 2), (23, .bipush 62), (25, .if_icmp .ge 26), (28, .aload_n 0), (29, .getfield 104), (32, .iload_n 2), (33, .aload_n 0), (34, .getfield 158), (37, .bipush 62), (39, .iload_n 1), (40, .imul), (41, .iload_n 2), (42, .iadd), (43, .iaload), (44, .iastore), (45, .iinc 2 1), (48, .goto (-26)), (51, .aload_n 0), (52, .iconst 0), (53, .putfield 386), (56, .aload_n 0), (57, .iconst 0), (58, .putfield 389), (61, .aload_n 0), (62, .getfield 104), (65, .bipush 61), (67, .iaload), (68, .ireturn)])
theorem mok_X11_back : MOK mX11_back 1 := ⟨tbl_ok (by decide +kernel), wm_1836, by decide +kernel, rfl, ⟨by decide +kernel, by decide +kernel, by decide +kernel⟩, wm_161, by decide⟩
def mX11_about : pM := (11, yX11_about, prog_13_method_95_code, 2, (Option.some FieldType.int), [(0, .iload_n 1), (1, .tableswitch 174 0 13 #[71, 81, 91, 101, 111, 121, 129, 134, 139, 144, 149, 154, 164, 169]), (72, .aload_n 0), (73, .getfield 20), (76, .aload_n 0), (77, .getfield 288), (80, .iaload), (81, .ireturn), (82, .aload_n 0), (83, .getfield 24), (86, .aload_n 0), (87, .getfield 288), (90, .iaload), (91, .ireturn), (92, .aload_n 0), (93, .getfield 33), (96, .aload_n 0), (97, .getfield 288), (100, .iaload), (101, .ireturn), (102, .aload_n 0), (103, .getfield 36), (106, .aload_n 0), (107, .getfield 288), (110, .iaload), (111, .ireturn), (112, .aload_n 0), (113, .getfield 30), (116, .aload_n 0), (117, .getfield 288), (120, .iaload), (121, .ireturn), (122, .aload_n 0), (123, .getfield 104), (126, .bipush 61), (128, .iaload), (129, .ireturn), (130, .aload_n 0), (131, .getfield 386), (134, .ireturn), (135, .aload_n 0), (136, .getfield 389), (139, .ireturn), (140, .aload_n 0), (141, .getfield 294), (144, .ireturn), (145, .aload_n 0), (146, .getfield 480), (149, .ireturn), (150, .aload_n 0), (151, .getfield 285), (154, .ireturn), (155, .aload_n 0), (156, .getfield 39), (159, .aload_n 0), (160, .getfield 288), (163, .iaload), (164, .ireturn), (165, .aload_n 0), (166, .getfield 297), (169, .ireturn), (170, .aload_n 0), (171, .invokevirtual 422), (174, .ireturn), (175, .iconst (-1)), (176, .ireturn)])
theorem mok_X11_about : MOK mX11_about 1 := ⟨tbl_ok (by decide +kernel), wm_1840, by decide +kernel, rfl, ⟨by decide +kernel, by decide +kernel, by decide +kernel⟩, wm_161, by decide⟩
def mX11_feed : pM := (11, yX11_feed, prog_13_method_96_code, 8, (Option.some FieldType.int), [(0, .aload_n 0), (1, .getfield 285), (4, .bipush 20), (6, .iadd), (7, .sipush 1600), (10, .if_icmp .le 5), (13, .iconst (-1)), (14, .ireturn), (15, .iconst 0), (16, .istore 6), (18, .iload 6), (20, .bipush 20), (22, .if_icmp .ge 83), (25, .iload 6), (27, .iconst 4), (28, .if_icmp .ge 7), (31, .iload_n 1), (32, .goto 39), (35, .iload 6), (37, .bipush 8), (39, .if_icmp .ge 7), (42, .iload_n 2), (43, .goto 28), (46, .iload 6), (48, .bipush 12), (50, .if_icmp .ge 7), (53, .iload_n 3), (54, .goto 17), (57, .iload 6), (59, .bipush 16), (61, .if_icmp .ge 8), (64, .iload 4), (66, .goto 5), (69, .iload 5), (71, .istore 7), (73, .aload_n 0), (74, .getfield 7), (77, .aload_n 0), (78, .getfield 285), (81, .iload 6), (83, .iadd), (84, .iload 7), (86, .bipush 24), (88, .bipush 8), (90, .iload 6), (92, .iconst 3), (93, .iand), (94, .imul), (95, .isub), (96, .ishr), (97, .i2b), (98, .bastore), (99, .iinc 6 1), (102, .goto (-84)), (105, .aload_n 0), (106, .dup), (107, .getfield 285), (110, .bipush 20), (112, .iadd), (113, .putfield 285), (116, .aload_n 0), (117, .getfield 285), (120, .ireturn)])
theorem mok_X11_feed : MOK mX11_feed 5 := ⟨tbl_ok (by decide +kernel), wm_1844, by decide +kernel, rfl, ⟨by decide +kernel, by decide +kernel, by decide +kernel⟩, wm_161, by decide⟩
def mX11_end : pM := (11, yX11_end, prog_13_method_97_code, 2, (Option.some FieldType.int), [(0, .iload_n 1), (1, .ifCond .lt 11), (4, .iload_n 1), (5, .aload_n 0), (6, .getfield 285), (9, .if_icmp .le 5), (12, .iconst (-1)), (13, .ireturn), (14, .aload_n 0), (15, .iload_n 1), (16, .putfield 285), (19, .iload_n 1), (20, .ireturn)])
theorem mok_X11_end : MOK mX11_end 1 := ⟨tbl_ok (by decide +kernel), wm_1848, by decide +kernel, rfl, ⟨by decide +kernel, by decide +kernel, by decide +kernel⟩, wm_161, by decide⟩
def mJ6_bitCount_0f7a4 : pM := (13, yJ6_bitCount_0f7a4, prog_15_method_49_code, 1, (Option.some FieldType.int), [(0, .iload_n 0), (1, .iload_n 0), (2, .iconst 1), (3, .iushr), (4, .ldc_w 265), (7, .iand), (8, .isub), (9, .istore_n 0), (10, .iload_n 0), (11, .ldc_w 266), (14, .iand), (15, .iload_n 0), (16, .iconst 2), (17, .iushr), (18, .ldc_w 266), (21, .iand), (22, .iadd), (23, .istore_n 0), (24, .iload_n 0), (25, .iload_n 0), (26, .iconst 4), (27, .iushr), (28, .iadd), (29, .ldc_w 267), (32, .iand), (33, .istore_n 0), (34, .iload_n 0), (35, .iload_n 0), (36, .bipush 8), (38, .iushr), (39, .iadd), (40, .istore_n 0), (41, .iload_n 0), (42, .iload_n 0), (43, .bipush 16), (45, .iushr), (46, .iadd), (47, .istore_n 0), (48, .iload_n 0), (49, .bipush 63), (51, .iand), (52, .ireturn)])
theorem mok_J6_bitCount_0f7a4 : MOK mJ6_bitCount_0f7a4 1 := ⟨tbl_ok (by decide +kernel), wm_1057, by decide +kernel, rfl, ⟨by decide +kernel, by decide +kernel, by decide +kernel⟩, wm_169, by decide⟩
end
section
def tL_0 : List (Nat × Instr) := [(0, .new 7), (3, .dup), (4, .invokespecial 9), (7, .astore_n 1), (8, .new 10), (11, .dup), (12, .invokespecial 12), (15, .astore_n 2), (16, .iconst 0), (17, .istore_n 3), (18, .iload_n 3), (19, .aload_n 0)]
theorem tL_0_ok : tblOK code tL_0 = true := by decide +kernel
def tL_1 : List (Nat × Instr) := [(20, .arraylength), (21, .bipush 6), (23, .isub), (24, .if_icmp .gt 918), (27, .aload_n 0), (28, .iload_n 3), (29, .iaload), (30, .bipush 31), (32, .iand), (33, .tableswitch 903 0 25 #[119, 182, 205, 218, 241, 274, 307, 340, 363, 386, 399, 412, 435, 478, 501, 534, 567, 590, 653, 712, 735, 758, 791, 834, 857, 880]), (152, .aload_n 1), (153, .aload_n 0)]
theorem tL_1_ok : tblOK code tL_1 = true := by decide +kernel
def tL_2 : List (Nat × Instr) := [(154, .iload_n 3), (155, .iconst 1), (156, .iadd), (157, .iaload), (158, .aload_n 0), (159, .iload_n 3), (160, .iconst 2), (161, .iadd), (162, .iaload), (163, .aload_n 0), (164, .iload_n 3), (165, .iconst 3)]
theorem tL_2_ok : tblOK code tL_2 = true := by decide +kernel
def tL_3 : List (Nat × Instr) := [(166, .iadd), (167, .iaload), (168, .aload_n 0), (169, .iload_n 3), (170, .iconst 4), (171, .iadd), (172, .iaload), (173, .aload_n 0), (174, .iload_n 3), (175, .iconst 5), (176, .iadd), (177, .iaload)]
theorem tL_3_ok : tblOK code tL_3 = true := by decide +kernel
def tL_4 : List (Nat × Instr) := [(178, .invokevirtual 13), (181, .pop), (182, .aload_n 2), (183, .aload_n 0), (184, .iload_n 3), (185, .iconst 1), (186, .iadd), (187, .iaload), (188, .aload_n 0), (189, .iload_n 3), (190, .iconst 2), (191, .iadd)]
theorem tL_4_ok : tblOK code tL_4 = true := by decide +kernel
def tL_5 : List (Nat × Instr) := [(192, .iaload), (193, .aload_n 0), (194, .iload_n 3), (195, .iconst 3), (196, .iadd), (197, .iaload), (198, .aload_n 0), (199, .iload_n 3), (200, .iconst 4), (201, .iadd), (202, .iaload), (203, .aload_n 0)]
theorem tL_5_ok : tblOK code tL_5 = true := by decide +kernel
def tL_6 : List (Nat × Instr) := [(204, .iload_n 3), (205, .iconst 5), (206, .iadd), (207, .iaload), (208, .invokevirtual 17), (211, .pop), (212, .goto 724), (215, .aload_n 1), (216, .aload_n 0), (217, .iload_n 3), (218, .iconst 1), (219, .iadd)]
theorem tL_6_ok : tblOK code tL_6 = true := by decide +kernel
def tL_7 : List (Nat × Instr) := [(220, .iaload), (221, .invokevirtual 18), (224, .pop), (225, .aload_n 2), (226, .aload_n 0), (227, .iload_n 3), (228, .iconst 1), (229, .iadd), (230, .iaload), (231, .invokevirtual 22), (234, .pop), (235, .goto 701)]
theorem tL_7_ok : tblOK code tL_7 = true := by decide +kernel
def tL_8 : List (Nat × Instr) := [(238, .aload_n 1), (239, .invokevirtual 23), (242, .pop), (243, .aload_n 2), (244, .invokevirtual 27), (247, .pop), (248, .goto 688), (251, .aload_n 1), (252, .aload_n 0), (253, .iload_n 3), (254, .iconst 1), (255, .iadd)]
theorem tL_8_ok : tblOK code tL_8 = true := by decide +kernel
def tL_9 : List (Nat × Instr) := [(256, .iaload), (257, .invokevirtual 28), (260, .pop), (261, .aload_n 2), (262, .aload_n 0), (263, .iload_n 3), (264, .iconst 1), (265, .iadd), (266, .iaload), (267, .invokevirtual 31), (270, .pop), (271, .goto 665)]
theorem tL_9_ok : tblOK code tL_9 = true := by decide +kernel
def tL_10 : List (Nat × Instr) := [(274, .aload_n 1), (275, .aload_n 0), (276, .iload_n 3), (277, .iconst 1), (278, .iadd), (279, .iaload), (280, .aload_n 0), (281, .iload_n 3), (282, .iconst 2), (283, .iadd), (284, .iaload), (285, .invokevirtual 32)]
theorem tL_10_ok : tblOK code tL_10 = true := by decide +kernel
def tL_11 : List (Nat × Instr) := [(288, .pop), (289, .aload_n 2), (290, .aload_n 0), (291, .iload_n 3), (292, .iconst 1), (293, .iadd), (294, .iaload), (295, .aload_n 0), (296, .iload_n 3), (297, .iconst 2), (298, .iadd), (299, .iaload)]
theorem tL_11_ok : tblOK code tL_11 = true := by decide +kernel
def tL_12 : List (Nat × Instr) := [(300, .invokevirtual 36), (303, .pop), (304, .goto 632), (307, .aload_n 1), (308, .aload_n 0), (309, .iload_n 3), (310, .iconst 1), (311, .iadd), (312, .iaload), (313, .aload_n 0), (314, .iload_n 3), (315, .iconst 2)]
theorem tL_12_ok : tblOK code tL_12 = true := by decide +kernel
def tL_13 : List (Nat × Instr) := [(316, .iadd), (317, .iaload), (318, .invokevirtual 37), (321, .pop), (322, .aload_n 2), (323, .aload_n 0), (324, .iload_n 3), (325, .iconst 1), (326, .iadd), (327, .iaload), (328, .aload_n 0), (329, .iload_n 3)]
theorem tL_13_ok : tblOK code tL_13 = true := by decide +kernel
def tL_14 : List (Nat × Instr) := [(330, .iconst 2), (331, .iadd), (332, .iaload), (333, .invokevirtual 40), (336, .pop), (337, .goto 599), (340, .aload_n 1), (341, .aload_n 0), (342, .iload_n 3), (343, .iconst 1), (344, .iadd), (345, .iaload)]
theorem tL_14_ok : tblOK code tL_14 = true := by decide +kernel
def tL_15 : List (Nat × Instr) := [(346, .aload_n 0), (347, .iload_n 3), (348, .iconst 2), (349, .iadd), (350, .iaload), (351, .invokevirtual 41), (354, .pop), (355, .aload_n 2), (356, .aload_n 0), (357, .iload_n 3), (358, .iconst 1), (359, .iadd)]
theorem tL_15_ok : tblOK code tL_15 = true := by decide +kernel
def tL_16 : List (Nat × Instr) := [(360, .iaload), (361, .aload_n 0), (362, .iload_n 3), (363, .iconst 2), (364, .iadd), (365, .iaload), (366, .invokevirtual 44), (369, .pop), (370, .goto 566), (373, .aload_n 1), (374, .aload_n 0), (375, .iload_n 3)]
theorem tL_16_ok : tblOK code tL_16 = true := by decide +kernel
def tL_17 : List (Nat × Instr) := [(376, .iconst 1), (377, .iadd), (378, .iaload), (379, .invokevirtual 45), (382, .pop), (383, .aload_n 2), (384, .aload_n 0), (385, .iload_n 3), (386, .iconst 1), (387, .iadd), (388, .iaload), (389, .invokevirtual 48)]
theorem tL_17_ok : tblOK code tL_17 = true := by decide +kernel
def tL_18 : List (Nat × Instr) := [(392, .pop), (393, .goto 543), (396, .aload_n 1), (397, .aload_n 0), (398, .iload_n 3), (399, .iconst 1), (400, .iadd), (401, .iaload), (402, .invokevirtual 49), (405, .pop), (406, .aload_n 2), (407, .aload_n 0)]
theorem tL_18_ok : tblOK code tL_18 = true := by decide +kernel
def tL_19 : List (Nat × Instr) := [(408, .iload_n 3), (409, .iconst 1), (410, .iadd), (411, .iaload), (412, .invokevirtual 52), (415, .pop), (416, .goto 520), (419, .aload_n 1), (420, .invokevirtual 53), (423, .pop), (424, .aload_n 2), (425, .invokevirtual 57)]
theorem tL_19_ok : tblOK code tL_19 = true := by decide +kernel
def tL_20 : List (Nat × Instr) := [(428, .pop), (429, .goto 507), (432, .aload_n 1), (433, .invokevirtual 58), (436, .pop), (437, .aload_n 2), (438, .invokevirtual 61), (441, .pop), (442, .goto 494), (445, .aload_n 1), (446, .aload_n 0), (447, .iload_n 3)]
theorem tL_20_ok : tblOK code tL_20 = true := by decide +kernel
def tL_21 : List (Nat × Instr) := [(448, .iconst 1), (449, .iadd), (450, .iaload), (451, .invokevirtual 62), (454, .pop), (455, .aload_n 2), (456, .aload_n 0), (457, .iload_n 3), (458, .iconst 1), (459, .iadd), (460, .iaload), (461, .invokevirtual 65)]
theorem tL_21_ok : tblOK code tL_21 = true := by decide +kernel
def tL_22 : List (Nat × Instr) := [(464, .pop), (465, .goto 471), (468, .aload_n 1), (469, .aload_n 0), (470, .iload_n 3), (471, .iconst 1), (472, .iadd), (473, .iaload), (474, .aload_n 0), (475, .iload_n 3), (476, .iconst 2), (477, .iadd)]
theorem tL_22_ok : tblOK code tL_22 = true := by decide +kernel
def tL_23 : List (Nat × Instr) := [(478, .iaload), (479, .aload_n 0), (480, .iload_n 3), (481, .iconst 3), (482, .iadd), (483, .iaload), (484, .invokevirtual 66), (487, .pop), (488, .aload_n 2), (489, .aload_n 0), (490, .iload_n 3), (491, .iconst 1)]
theorem tL_23_ok : tblOK code tL_23 = true := by decide +kernel
def tL_24 : List (Nat × Instr) := [(492, .iadd), (493, .iaload), (494, .aload_n 0), (495, .iload_n 3), (496, .iconst 2), (497, .iadd), (498, .iaload), (499, .aload_n 0), (500, .iload_n 3), (501, .iconst 3), (502, .iadd), (503, .iaload)]
theorem tL_24_ok : tblOK code tL_24 = true := by decide +kernel
def tL_25 : List (Nat × Instr) := [(504, .invokevirtual 70), (507, .pop), (508, .goto 428), (511, .aload_n 1), (512, .aload_n 0), (513, .iload_n 3), (514, .iconst 1), (515, .iadd), (516, .iaload), (517, .invokevirtual 71), (520, .pop), (521, .aload_n 2)]
theorem tL_25_ok : tblOK code tL_25 = true := by decide +kernel
def tL_26 : List (Nat × Instr) := [(522, .aload_n 0), (523, .iload_n 3), (524, .iconst 1), (525, .iadd), (526, .iaload), (527, .invokevirtual 74), (530, .pop), (531, .goto 405), (534, .aload_n 1), (535, .aload_n 0), (536, .iload_n 3), (537, .iconst 1)]
theorem tL_26_ok : tblOK code tL_26 = true := by decide +kernel
def tL_27 : List (Nat × Instr) := [(538, .iadd), (539, .iaload), (540, .aload_n 0), (541, .iload_n 3), (542, .iconst 2), (543, .iadd), (544, .iaload), (545, .invokevirtual 75), (548, .pop), (549, .aload_n 2), (550, .aload_n 0), (551, .iload_n 3)]
theorem tL_27_ok : tblOK code tL_27 = true := by decide +kernel
def tL_28 : List (Nat × Instr) := [(552, .iconst 1), (553, .iadd), (554, .iaload), (555, .aload_n 0), (556, .iload_n 3), (557, .iconst 2), (558, .iadd), (559, .iaload), (560, .invokevirtual 78), (563, .pop), (564, .goto 372), (567, .aload_n 1)]
theorem tL_28_ok : tblOK code tL_28 = true := by decide +kernel
def tL_29 : List (Nat × Instr) := [(568, .aload_n 0), (569, .iload_n 3), (570, .iconst 1), (571, .iadd), (572, .iaload), (573, .aload_n 0), (574, .iload_n 3), (575, .iconst 2), (576, .iadd), (577, .iaload), (578, .invokevirtual 79), (581, .pop)]
theorem tL_29_ok : tblOK code tL_29 = true := by decide +kernel
def tL_30 : List (Nat × Instr) := [(582, .aload_n 2), (583, .aload_n 0), (584, .iload_n 3), (585, .iconst 1), (586, .iadd), (587, .iaload), (588, .aload_n 0), (589, .iload_n 3), (590, .iconst 2), (591, .iadd), (592, .iaload), (593, .invokevirtual 82)]
theorem tL_30_ok : tblOK code tL_30 = true := by decide +kernel
def tL_31 : List (Nat × Instr) := [(596, .pop), (597, .goto 339), (600, .aload_n 1), (601, .aload_n 0), (602, .iload_n 3), (603, .iconst 1), (604, .iadd), (605, .iaload), (606, .invokevirtual 83), (609, .pop), (610, .aload_n 2), (611, .aload_n 0)]
theorem tL_31_ok : tblOK code tL_31 = true := by decide +kernel
def tL_32 : List (Nat × Instr) := [(612, .iload_n 3), (613, .iconst 1), (614, .iadd), (615, .iaload), (616, .invokevirtual 86), (619, .pop), (620, .goto 316), (623, .aload_n 1), (624, .aload_n 0), (625, .iload_n 3), (626, .iconst 1), (627, .iadd)]
theorem tL_32_ok : tblOK code tL_32 = true := by decide +kernel
def tL_33 : List (Nat × Instr) := [(628, .iaload), (629, .aload_n 0), (630, .iload_n 3), (631, .iconst 2), (632, .iadd), (633, .iaload), (634, .aload_n 0), (635, .iload_n 3), (636, .iconst 3), (637, .iadd), (638, .iaload), (639, .aload_n 0)]
theorem tL_33_ok : tblOK code tL_33 = true := by decide +kernel
def tL_34 : List (Nat × Instr) := [(640, .iload_n 3), (641, .iconst 4), (642, .iadd), (643, .iaload), (644, .aload_n 0), (645, .iload_n 3), (646, .iconst 5), (647, .iadd), (648, .iaload), (649, .invokevirtual 87), (652, .pop), (653, .aload_n 2)]
theorem tL_34_ok : tblOK code tL_34 = true := by decide +kernel
def tL_35 : List (Nat × Instr) := [(654, .aload_n 0), (655, .iload_n 3), (656, .iconst 1), (657, .iadd), (658, .iaload), (659, .aload_n 0), (660, .iload_n 3), (661, .iconst 2), (662, .iadd), (663, .iaload), (664, .aload_n 0), (665, .iload_n 3)]
theorem tL_35_ok : tblOK code tL_35 = true := by decide +kernel
def tL_36 : List (Nat × Instr) := [(666, .iconst 3), (667, .iadd), (668, .iaload), (669, .aload_n 0), (670, .iload_n 3), (671, .iconst 4), (672, .iadd), (673, .iaload), (674, .aload_n 0), (675, .iload_n 3), (676, .iconst 5), (677, .iadd)]
theorem tL_36_ok : tblOK code tL_36 = true := by decide +kernel
def tL_37 : List (Nat × Instr) := [(678, .iaload), (679, .invokevirtual 90), (682, .pop), (683, .goto 253), (686, .aload_n 1), (687, .aload_n 0), (688, .iload_n 3), (689, .iconst 1), (690, .iadd), (691, .iaload), (692, .aload_n 0), (693, .iload_n 3)]
theorem tL_37_ok : tblOK code tL_37 = true := by decide +kernel
def tL_38 : List (Nat × Instr) := [(694, .iconst 2), (695, .iadd), (696, .iaload), (697, .aload_n 0), (698, .iload_n 3), (699, .iconst 3), (700, .iadd), (701, .iaload), (702, .ifCond .eq 7), (705, .iconst 1), (706, .goto 4), (709, .iconst 0)]
theorem tL_38_ok : tblOK code tL_38 = true := by decide +kernel
def tL_39 : List (Nat × Instr) := [(710, .invokevirtual 91), (713, .pop), (714, .aload_n 2), (715, .aload_n 0), (716, .iload_n 3), (717, .iconst 1), (718, .iadd), (719, .iaload), (720, .aload_n 0), (721, .iload_n 3), (722, .iconst 2), (723, .iadd)]
theorem tL_39_ok : tblOK code tL_39 = true := by decide +kernel
def tL_40 : List (Nat × Instr) := [(724, .iaload), (725, .aload_n 0), (726, .iload_n 3), (727, .iconst 3), (728, .iadd), (729, .iaload), (730, .ifCond .eq 7), (733, .iconst 1), (734, .goto 4), (737, .iconst 0), (738, .invokevirtual 95), (741, .pop)]
theorem tL_40_ok : tblOK code tL_40 = true := by decide +kernel
def tL_41 : List (Nat × Instr) := [(742, .goto 194), (745, .aload_n 1), (746, .aload_n 0), (747, .iload_n 3), (748, .iconst 1), (749, .iadd), (750, .iaload), (751, .invokevirtual 96), (754, .pop), (755, .aload_n 2), (756, .aload_n 0), (757, .iload_n 3)]
theorem tL_41_ok : tblOK code tL_41 = true := by decide +kernel
def tL_42 : List (Nat × Instr) := [(758, .iconst 1), (759, .iadd), (760, .iaload), (761, .invokevirtual 100), (764, .pop), (765, .goto 171), (768, .aload_n 1), (769, .aload_n 0), (770, .iload_n 3), (771, .iconst 1), (772, .iadd), (773, .iaload)]
theorem tL_42_ok : tblOK code tL_42 = true := by decide +kernel
def tL_43 : List (Nat × Instr) := [(774, .invokevirtual 101), (777, .aload_n 2), (778, .aload_n 0), (779, .iload_n 3), (780, .iconst 1), (781, .iadd), (782, .iaload), (783, .invokevirtual 104), (786, .if_icmp .eq 150), (789, .iconst 0), (790, .ireturn), (791, .aload_n 1)]
theorem tL_43_ok : tblOK code tL_43 = true := by decide +kernel
def tL_44 : List (Nat × Instr) := [(792, .aload_n 0), (793, .iload_n 3), (794, .iconst 1), (795, .iadd), (796, .iaload), (797, .aload_n 0), (798, .iload_n 3), (799, .iconst 2), (800, .iadd), (801, .iaload), (802, .invokevirtual 105), (805, .pop)]
theorem tL_44_ok : tblOK code tL_44 = true := by decide +kernel
def tL_45 : List (Nat × Instr) := [(806, .aload_n 2), (807, .aload_n 0), (808, .iload_n 3), (809, .iconst 1), (810, .iadd), (811, .iaload), (812, .aload_n 0), (813, .iload_n 3), (814, .iconst 2), (815, .iadd), (816, .iaload), (817, .invokevirtual 108)]
theorem tL_45_ok : tblOK code tL_45 = true := by decide +kernel
def tL_46 : List (Nat × Instr) := [(820, .pop), (821, .goto 115), (824, .aload_n 1), (825, .aload_n 0), (826, .iload_n 3), (827, .iconst 1), (828, .iadd), (829, .iaload), (830, .aload_n 0), (831, .iload_n 3), (832, .iconst 2), (833, .iadd)]
theorem tL_46_ok : tblOK code tL_46 = true := by decide +kernel
def tL_47 : List (Nat × Instr) := [(834, .iaload), (835, .aload_n 0), (836, .iload_n 3), (837, .iconst 3), (838, .iadd), (839, .iaload), (840, .invokevirtual 109), (843, .pop), (844, .aload_n 2), (845, .aload_n 0), (846, .iload_n 3), (847, .iconst 1)]
theorem tL_47_ok : tblOK code tL_47 = true := by decide +kernel
def tL_48 : List (Nat × Instr) := [(848, .iadd), (849, .iaload), (850, .aload_n 0), (851, .iload_n 3), (852, .iconst 2), (853, .iadd), (854, .iaload), (855, .aload_n 0), (856, .iload_n 3), (857, .iconst 3), (858, .iadd), (859, .iaload)]
theorem tL_48_ok : tblOK code tL_48 = true := by decide +kernel
def tL_49 : List (Nat × Instr) := [(860, .invokevirtual 112), (863, .pop), (864, .goto 72), (867, .aload_n 1), (868, .aload_n 0), (869, .iload_n 3), (870, .iconst 1), (871, .iadd), (872, .iaload), (873, .invokevirtual 113), (876, .pop), (877, .aload_n 2)]
theorem tL_49_ok : tblOK code tL_49 = true := by decide +kernel
def tL_50 : List (Nat × Instr) := [(878, .aload_n 0), (879, .iload_n 3), (880, .iconst 1), (881, .iadd), (882, .iaload), (883, .invokevirtual 116), (886, .pop), (887, .goto 49), (890, .aload_n 1), (891, .aload_n 0), (892, .iload_n 3), (893, .iconst 1)]
theorem tL_50_ok : tblOK code tL_50 = true := by decide +kernel
def tL_51 : List (Nat × Instr) := [(894, .iadd), (895, .iaload), (896, .invokevirtual 117), (899, .pop), (900, .aload_n 2), (901, .aload_n 0), (902, .iload_n 3), (903, .iconst 1), (904, .iadd), (905, .iaload), (906, .invokevirtual 120), (909, .pop)]
theorem tL_51_ok : tblOK code tL_51 = true := by decide +kernel
def tL_52 : List (Nat × Instr) := [(910, .goto 26), (913, .aload_n 1), (914, .aload_n 0), (915, .iload_n 3), (916, .iconst 1), (917, .iadd), (918, .iaload), (919, .invokevirtual 121), (922, .pop), (923, .aload_n 2), (924, .aload_n 0), (925, .iload_n 3)]
theorem tL_52_ok : tblOK code tL_52 = true := by decide +kernel
def tL_53 : List (Nat × Instr) := [(926, .iconst 1), (927, .iadd), (928, .iaload), (929, .invokevirtual 124), (932, .pop), (933, .goto 3), (936, .iinc 3 6), (939, .goto (-921)), (942, .iconst 1), (943, .ireturn)]
theorem tL_53_ok : tblOK code tL_53 = true := by decide +kernel
def mL_law : pM := (12, yL_law, code, 4, some .boolean, tL_0 ++ tL_1 ++ tL_2 ++ tL_3 ++ tL_4 ++ tL_5 ++ tL_6 ++ tL_7 ++ tL_8 ++ tL_9 ++ tL_10 ++ tL_11 ++ tL_12 ++ tL_13 ++ tL_14 ++ tL_15 ++ tL_16 ++ tL_17 ++ tL_18 ++ tL_19 ++ tL_20 ++ tL_21 ++ tL_22 ++ tL_23 ++ tL_24 ++ tL_25 ++ tL_26 ++ tL_27 ++ tL_28 ++ tL_29 ++ tL_30 ++ tL_31 ++ tL_32 ++ tL_33 ++ tL_34 ++ tL_35 ++ tL_36 ++ tL_37 ++ tL_38 ++ tL_39 ++ tL_40 ++ tL_41 ++ tL_42 ++ tL_43 ++ tL_44 ++ tL_45 ++ tL_46 ++ tL_47 ++ tL_48 ++ tL_49 ++ tL_50 ++ tL_51 ++ tL_52 ++ tL_53)
theorem tbl_app {cc : ByteArray} {a b : List (Nat × Instr)} (h : tblOK cc a = true) (k : tblOK cc b = true) : tblOK cc (a ++ b) = true := by
  unfold tblOK at h k ⊢
  rw [List.all_append, h, k]
  rfl
theorem dec_L_law : ∀ pc ins, instrAt mL_law pc = some ins → DecAt mL_law.2.2.1 pc ins := tbl_ok (M := mL_law) (tbl_app (tbl_app (tbl_app (tbl_app (tbl_app (tbl_app (tbl_app (tbl_app (tbl_app (tbl_app (tbl_app (tbl_app (tbl_app (tbl_app (tbl_app (tbl_app (tbl_app (tbl_app (tbl_app (tbl_app (tbl_app (tbl_app (tbl_app (tbl_app (tbl_app (tbl_app (tbl_app (tbl_app (tbl_app (tbl_app (tbl_app (tbl_app (tbl_app (tbl_app (tbl_app (tbl_app (tbl_app (tbl_app (tbl_app (tbl_app (tbl_app (tbl_app (tbl_app (tbl_app (tbl_app (tbl_app (tbl_app (tbl_app (tbl_app (tbl_app (tbl_app (tbl_app (tbl_app tL_0_ok tL_1_ok) tL_2_ok) tL_3_ok) tL_4_ok) tL_5_ok) tL_6_ok) tL_7_ok) tL_8_ok) tL_9_ok) tL_10_ok) tL_11_ok) tL_12_ok) tL_13_ok) tL_14_ok) tL_15_ok) tL_16_ok) tL_17_ok) tL_18_ok) tL_19_ok) tL_20_ok) tL_21_ok) tL_22_ok) tL_23_ok) tL_24_ok) tL_25_ok) tL_26_ok) tL_27_ok) tL_28_ok) tL_29_ok) tL_30_ok) tL_31_ok) tL_32_ok) tL_33_ok) tL_34_ok) tL_35_ok) tL_36_ok) tL_37_ok) tL_38_ok) tL_39_ok) tL_40_ok) tL_41_ok) tL_42_ok) tL_43_ok) tL_44_ok) tL_45_ok) tL_46_ok) tL_47_ok) tL_48_ok) tL_49_ok) tL_50_ok) tL_51_ok) tL_52_ok) tL_53_ok)
end
section
def FF : pF := [[(.object "IceTunes$Pond", false), (.array .int, true), (.array .int, true), (.array .int, true), (.int, false), (.int, false), (.int, false), (.int, false)],
  [(.object "IceTunes$Band", true), (.array (.object "IceTunes$Evening"), true), (.int, false), (.int, false), (.int, false)],
  [(.int, false), (.int, false), (.array .int, true), (.array .int, true), (.array .int, true), (.array .int, true), (.array .int, true)],
  [(.object "IceTunes$Band", true), (.array (.object "IceTunes$Evening"), true), (.array .int, true), (.array .int, true), (.int, false)],
  [(.array (.object "IceTunes$Evening"), true), (.int, false), (.int, false), (.int, false)],
  [(.int, false), (.int, false), (.int, false), (.array .int, true), (.array .boolean, true), (.int, false), (.int, false), (.array .int, true), (.boolean, false), (.int, false), (.array .int, true), (.array .int, true), (.array .byte, true), (.array .int, true), (.int, false), (.array .int, true), (.int, false), (.array .int, true), (.array .int, true)],
  [(.object "IceTunes$Tokens", true), (.object "IceTunes$Pond", false), (.int, false), (.int, false), (.int, false), (.int, false), (.int, false), (.array .int, true), (.array .int, true)],
  [(.object "IceTunes$Band", true), (.array (.object "IceTunes$Evening"), true), (.object "IceTunes$Sights", true), (.array .int, true), (.array .int, true), (.array .int, true), (.int, false), (.int, false), (.int, false), (.int, false)],
  [(.int, false), (.array .int, true), (.array .int, true), (.array .int, true), (.array .int, true), (.array .int, true), (.array .int, true), (.array .int, true)],
  [(.array .byte, false), (.int, false), (.int, false), (.int, false), (.int, false), (.int, false)],
  [(.array .byte, true), (.int, false), (.object "IceTunes$Pond", false), (.object "IceTunes$Pond", false), (.object "IceTunes$Reader", true), (.object "IceTunes$Band", true), (.object "IceTunes$History", true), (.array (.object "IceTunes$Evening"), true), (.array .boolean, true), (.object "IceTunes$Sights", true), (.object "IceTunes$Forecast", true), (.object "IceTunes$Duel", true), (.object "IceTunes$Rows", true), (.array .int, true), (.int, false), (.int, false)],
  [(.array .byte, true), (.array .byte, true), (.int, false), (.int, false), (.int, false), (.int, false), (.int, false), (.int, false), (.int, false), (.int, false), (.long, false), (.array .int, true), (.array .int, true), (.array .int, true), (.array .int, true), (.array .int, true), (.array .int, true), (.array .int, true), (.array .int, true), (.array .int, true), (.array .int, true), (.array .int, true), (.array .int, true), (.array .int, true), (.array .int, true), (.array .int, true), (.array .int, true), (.array .boolean, true), (.array .boolean, true), (.array .boolean, true), (.array .boolean, true), (.array .long, true), (.array .long, true), (.array .int, true), (.array .int, true), (.array .int, true), (.array .int, true), (.array .int, true), (.int, false), (.int, false), (.int, false), (.int, false), (.int, false), (.int, false), (.array .int, true), (.array .int, true), (.array .int, true), (.array .int, true), (.array .boolean, true), (.boolean, false), (.array .int, true), (.int, false), (.int, false), (.array .int, true), (.array .int, true), (.array .int, true), (.int, false), (.array .int, true), (.array .int, true), (.array .int, true), (.array .int, true), (.array .int, true), (.array .int, true), (.array .int, true), (.array .int, true), (.array .int, true), (.int, false), (.int, false), (.int, false), (.array .int, true), (.array .boolean, true)]]
theorem cl_X0 : ∃ ty0 : Nat → FieldType, (∀ w ∈ u_ws RX0 TX0 8, w ∈ wt) ∧ (∀ k, k < 8 → parseFieldDescriptor (TX0 k).2.2.1 = some (ty0 k)) ∧ (∀ a, a < 8 → ∀ b, b < 8 → a ≠ b → (TX0 a).2.1 ≠ (TX0 b).2.1) ∧ (∀ k, k < 8 → (TX0 k).1 = RX0) ∧ Cond.instantiable RX0 8 ∈ wt ∧ Cond.initialized RX0 ∈ wt ∧ (FF.getD 0 []).length = 8 ∧ (∀ k, k < 8 → (FF.getD 0 [])[k]? = some (ty0 k, (TX0 k).2.2.2)) ∧ ∀ k, k < 8 → defaultValue (ty0 k) = dflt (ty0 k) := ⟨tyX0, in_X0, tyX0_ok, nmX0, by decide +kernel, wm_356, wm_154, rfl, by decide +kernel, by decide +kernel⟩
theorem cl_X1 : ∃ ty0 : Nat → FieldType, (∀ w ∈ u_ws RX1 TX1 5, w ∈ wt) ∧ (∀ k, k < 5 → parseFieldDescriptor (TX1 k).2.2.1 = some (ty0 k)) ∧ (∀ a, a < 5 → ∀ b, b < 5 → a ≠ b → (TX1 a).2.1 ≠ (TX1 b).2.1) ∧ (∀ k, k < 5 → (TX1 k).1 = RX1) ∧ Cond.instantiable RX1 5 ∈ wt ∧ Cond.initialized RX1 ∈ wt ∧ (FF.getD 1 []).length = 5 ∧ (∀ k, k < 5 → (FF.getD 1 [])[k]? = some (ty0 k, (TX1 k).2.2.2)) ∧ ∀ k, k < 5 → defaultValue (ty0 k) = dflt (ty0 k) := ⟨tyX1, in_X1, tyX1_ok, nmX1, by decide +kernel, wm_517, wm_159, rfl, by decide +kernel, by decide +kernel⟩
theorem cl_X2 : ∃ ty0 : Nat → FieldType, (∀ w ∈ u_ws RX2 TX2 7, w ∈ wt) ∧ (∀ k, k < 7 → parseFieldDescriptor (TX2 k).2.2.1 = some (ty0 k)) ∧ (∀ a, a < 7 → ∀ b, b < 7 → a ≠ b → (TX2 a).2.1 ≠ (TX2 b).2.1) ∧ (∀ k, k < 7 → (TX2 k).1 = RX2) ∧ Cond.instantiable RX2 7 ∈ wt ∧ Cond.initialized RX2 ∈ wt ∧ (FF.getD 2 []).length = 7 ∧ (∀ k, k < 7 → (FF.getD 2 [])[k]? = some (ty0 k, (TX2 k).2.2.2)) ∧ ∀ k, k < 7 → defaultValue (ty0 k) = dflt (ty0 k) := ⟨tyX2, in_X2, tyX2_ok, nmX2, by decide +kernel, wm_398, wm_156, rfl, by decide +kernel, by decide +kernel⟩
theorem cl_X3 : ∃ ty0 : Nat → FieldType, (∀ w ∈ u_ws RX3 TX3 5, w ∈ wt) ∧ (∀ k, k < 5 → parseFieldDescriptor (TX3 k).2.2.1 = some (ty0 k)) ∧ (∀ a, a < 5 → ∀ b, b < 5 → a ≠ b → (TX3 a).2.1 ≠ (TX3 b).2.1) ∧ (∀ k, k < 5 → (TX3 k).1 = RX3) ∧ Cond.instantiable RX3 5 ∈ wt ∧ Cond.initialized RX3 ∈ wt ∧ (FF.getD 3 []).length = 5 ∧ (∀ k, k < 5 → (FF.getD 3 [])[k]? = some (ty0 k, (TX3 k).2.2.2)) ∧ ∀ k, k < 5 → defaultValue (ty0 k) = dflt (ty0 k) := ⟨tyX3, in_X3, tyX3_ok, nmX3, by decide +kernel, wm_493, wm_158, rfl, by decide +kernel, by decide +kernel⟩
theorem cl_X4 : ∃ ty0 : Nat → FieldType, (∀ w ∈ u_ws RX4 TX4 4, w ∈ wt) ∧ (∀ k, k < 4 → parseFieldDescriptor (TX4 k).2.2.1 = some (ty0 k)) ∧ (∀ a, a < 4 → ∀ b, b < 4 → a ≠ b → (TX4 a).2.1 ≠ (TX4 b).2.1) ∧ (∀ k, k < 4 → (TX4 k).1 = RX4) ∧ Cond.instantiable RX4 4 ∈ wt ∧ Cond.initialized RX4 ∈ wt ∧ (FF.getD 4 []).length = 4 ∧ (∀ k, k < 4 → (FF.getD 4 [])[k]? = some (ty0 k, (TX4 k).2.2.2)) ∧ ∀ k, k < 4 → defaultValue (ty0 k) = dflt (ty0 k) := ⟨tyX4, in_X4, tyX4_ok, nmX4, by decide +kernel, wm_391, wm_155, rfl, by decide +kernel, by decide +kernel⟩
theorem cl_X5 : ∃ ty0 : Nat → FieldType, (∀ w ∈ u_ws RX5 TX5 19, w ∈ wt) ∧ (∀ k, k < 19 → parseFieldDescriptor (TX5 k).2.2.1 = some (ty0 k)) ∧ (∀ a, a < 19 → ∀ b, b < 19 → a ≠ b → (TX5 a).2.1 ≠ (TX5 b).2.1) ∧ (∀ k, k < 19 → (TX5 k).1 = RX5) ∧ Cond.instantiable RX5 19 ∈ wt ∧ Cond.initialized RX5 ∈ wt ∧ (FF.getD 5 []).length = 19 ∧ (∀ k, k < 19 → (FF.getD 5 [])[k]? = some (ty0 k, (TX5 k).2.2.2)) ∧ ∀ k, k < 19 → defaultValue (ty0 k) = dflt (ty0 k) := ⟨tyX5, in_X5, tyX5_ok, nmX5, by decide +kernel, wm_179, wm_151, rfl, by decide +kernel, by decide +kernel⟩
theorem cl_X6 : ∃ ty0 : Nat → FieldType, (∀ w ∈ u_ws RX6 TX6 9, w ∈ wt) ∧ (∀ k, k < 9 → parseFieldDescriptor (TX6 k).2.2.1 = some (ty0 k)) ∧ (∀ a, a < 9 → ∀ b, b < 9 → a ≠ b → (TX6 a).2.1 ≠ (TX6 b).2.1) ∧ (∀ k, k < 9 → (TX6 k).1 = RX6) ∧ Cond.instantiable RX6 9 ∈ wt ∧ Cond.initialized RX6 ∈ wt ∧ (FF.getD 6 []).length = 9 ∧ (∀ k, k < 9 → (FF.getD 6 [])[k]? = some (ty0 k, (TX6 k).2.2.2)) ∧ ∀ k, k < 9 → defaultValue (ty0 k) = dflt (ty0 k) := ⟨tyX6, in_X6, tyX6_ok, nmX6, by decide +kernel, wm_291, wm_152, rfl, by decide +kernel, by decide +kernel⟩
theorem cl_X7 : ∃ ty0 : Nat → FieldType, (∀ w ∈ u_ws RX7 TX7 10, w ∈ wt) ∧ (∀ k, k < 10 → parseFieldDescriptor (TX7 k).2.2.1 = some (ty0 k)) ∧ (∀ a, a < 10 → ∀ b, b < 10 → a ≠ b → (TX7 a).2.1 ≠ (TX7 b).2.1) ∧ (∀ k, k < 10 → (TX7 k).1 = RX7) ∧ Cond.instantiable RX7 10 ∈ wt ∧ Cond.initialized RX7 ∈ wt ∧ (FF.getD 7 []).length = 10 ∧ (∀ k, k < 10 → (FF.getD 7 [])[k]? = some (ty0 k, (TX7 k).2.2.2)) ∧ ∀ k, k < 10 → defaultValue (ty0 k) = dflt (ty0 k) := ⟨tyX7, in_X7, tyX7_ok, nmX7, by decide +kernel, wm_540, wm_160, rfl, by decide +kernel, by decide +kernel⟩
theorem cl_X8 : ∃ ty0 : Nat → FieldType, (∀ w ∈ u_ws RX8 TX8 8, w ∈ wt) ∧ (∀ k, k < 8 → parseFieldDescriptor (TX8 k).2.2.1 = some (ty0 k)) ∧ (∀ a, a < 8 → ∀ b, b < 8 → a ≠ b → (TX8 a).2.1 ≠ (TX8 b).2.1) ∧ (∀ k, k < 8 → (TX8 k).1 = RX8) ∧ Cond.instantiable RX8 8 ∈ wt ∧ Cond.initialized RX8 ∈ wt ∧ (FF.getD 8 []).length = 8 ∧ (∀ k, k < 8 → (FF.getD 8 [])[k]? = some (ty0 k, (TX8 k).2.2.2)) ∧ ∀ k, k < 8 → defaultValue (ty0 k) = dflt (ty0 k) := ⟨tyX8, in_X8, tyX8_ok, nmX8, by decide +kernel, wm_460, wm_157, rfl, by decide +kernel, by decide +kernel⟩
theorem cl_X9 : ∃ ty0 : Nat → FieldType, (∀ w ∈ u_ws RX9 TX9 6, w ∈ wt) ∧ (∀ k, k < 6 → parseFieldDescriptor (TX9 k).2.2.1 = some (ty0 k)) ∧ (∀ a, a < 6 → ∀ b, b < 6 → a ≠ b → (TX9 a).2.1 ≠ (TX9 b).2.1) ∧ (∀ k, k < 6 → (TX9 k).1 = RX9) ∧ Cond.instantiable RX9 6 ∈ wt ∧ Cond.initialized RX9 ∈ wt ∧ (FF.getD 9 []).length = 6 ∧ (∀ k, k < 6 → (FF.getD 9 [])[k]? = some (ty0 k, (TX9 k).2.2.2)) ∧ ∀ k, k < 6 → defaultValue (ty0 k) = dflt (ty0 k) := ⟨tyX9, in_X9, tyX9_ok, nmX9, by decide +kernel, wm_297, wm_153, rfl, by decide +kernel, by decide +kernel⟩
theorem cl_X10 : ∃ ty0 : Nat → FieldType, (∀ w ∈ u_ws RX10 TX10 16, w ∈ wt) ∧ (∀ k, k < 16 → parseFieldDescriptor (TX10 k).2.2.1 = some (ty0 k)) ∧ (∀ a, a < 16 → ∀ b, b < 16 → a ≠ b → (TX10 a).2.1 ≠ (TX10 b).2.1) ∧ (∀ k, k < 16 → (TX10 k).1 = RX10) ∧ Cond.instantiable RX10 16 ∈ wt ∧ Cond.initialized RX10 ∈ wt ∧ (FF.getD 10 []).length = 16 ∧ (∀ k, k < 16 → (FF.getD 10 [])[k]? = some (ty0 k, (TX10 k).2.2.2)) ∧ ∀ k, k < 16 → defaultValue (ty0 k) = dflt (ty0 k) := ⟨tyX10, in_X10, tyX10_ok, nmX10, by decide +kernel, wm_171, wm_150, rfl, by decide +kernel, by decide +kernel⟩
theorem cl_X11 : ∃ ty0 : Nat → FieldType, (∀ w ∈ u_ws RX11 TX11 71, w ∈ wt) ∧ (∀ k, k < 71 → parseFieldDescriptor (TX11 k).2.2.1 = some (ty0 k)) ∧ (∀ a, a < 71 → ∀ b, b < 71 → a ≠ b → (TX11 a).2.1 ≠ (TX11 b).2.1) ∧ (∀ k, k < 71 → (TX11 k).1 = RX11) ∧ Cond.instantiable RX11 71 ∈ wt ∧ Cond.initialized RX11 ∈ wt ∧ (FF.getD 11 []).length = 71 ∧ (∀ k, k < 71 → (FF.getD 11 [])[k]? = some (ty0 k, (TX11 k).2.2.2)) ∧ ∀ k, k < 71 → defaultValue (ty0 k) = dflt (ty0 k) := ⟨tyX11, in_X11, tyX11_ok, nmX11, by decide +kernel, wm_1228, wm_161, rfl, by decide +kernel, by decide +kernel⟩
theorem clsOK : ClsOK FF := by
  intro ci C T N h
  have hi : ci < 12 := (List.getElem?_eq_some_iff.mp h).1
  match ci, hi, h with
  | 0, _, h => cases h; exact cl_X0
  | 1, _, h => cases h; exact cl_X1
  | 2, _, h => cases h; exact cl_X2
  | 3, _, h => cases h; exact cl_X3
  | 4, _, h => cases h; exact cl_X4
  | 5, _, h => cases h; exact cl_X5
  | 6, _, h => cases h; exact cl_X6
  | 7, _, h => cases h; exact cl_X7
  | 8, _, h => cases h; exact cl_X8
  | 9, _, h => cases h; exact cl_X9
  | 10, _, h => cases h; exact cl_X10
  | 11, _, h => cases h; exact cl_X11
def tl {α : Type} (T : List (List (Nat × α))) (o i : Nat) : Option α := ((T.getD o []).find? (fun q => q.1 == i)).map (fun q => q.2)
theorem tl_mem {α : Type} {T : List (List (Nat × α))} {o i : Nat} {x : α} (h : tl T o i = some x) : ∃ row, T[o]? = some row ∧ (i, x) ∈ row := by
  unfold tl at h
  cases hr : T[o]? with
  | none =>
    rw [List.getD_eq_getElem?_getD, hr] at h
    cases h
  | some row =>
    refine ⟨row, rfl, ?_⟩
    rw [List.getD_eq_getElem?_getD, hr, Option.getD_some] at h
    cases hf : row.find? (fun q => q.1 == i) with
    | none => rw [hf] at h; cases h
    | some q =>
      rw [hf] at h
      have h1 := List.mem_of_find?_eq_some hf
      have h2 := List.find?_some hf
      simp only [beq_iff_eq] at h2
      have h3 : q.2 = x := Option.some.inj h
      rw [← h2, ← h3]
      exact h1
theorem fm_nil {α : Type} {p : α → Prop} : ∀ x ∈ ([] : List α), p x := fun _ h => by cases h
def pf0_0 : List (Nat × Nat × Nat) := [(9, (0, 1)), (15, (0, 2)), (18, (0, 3)), (21, (0, 0)), (25, (5, 7)), (45, (2, 0)), (50, (5, 9)), (57, (2, 3)), (67, (5, 10)), (70, (5, 17)), (73, (5, 18)), (76, (0, 5)), (79, (5, 1)), (82, (5, 0)), (85, (2, 2)), (88, (0, 4)), (90, (0, 6)), (97, (0, 7)), (117, (5, 15)), (130, (5, 4)), (142, (2, 4)), (145, (2, 5)), (148, (2, 6)), (151, (2, 1))]
theorem pf0_0_ok : ∀ q ∈ pf0_0, FLk RX0 q.1 q.2.1 q.2.2 := List.forall_mem_cons.mpr ⟨⟨RX0, TX0, 8, rfl, by decide, Or.inl wm_366⟩, List.forall_mem_cons.mpr ⟨⟨RX0, TX0, 8, rfl, by decide, Or.inl wm_367⟩, List.forall_mem_cons.mpr ⟨⟨RX0, TX0, 8, rfl, by decide, Or.inl wm_368⟩, List.forall_mem_cons.mpr ⟨⟨RX0, TX0, 8, rfl, by decide, Or.inl wm_361⟩, List.forall_mem_cons.mpr ⟨⟨RX5, TX5, 19, rfl, by decide, Or.inr ⟨"IceTunes", nm_211, by decide +kernel⟩⟩, List.forall_mem_cons.mpr ⟨⟨RX2, TX2, 7, rfl, by decide, Or.inr ⟨"IceTunes", nm_405, by decide +kernel⟩⟩, List.forall_mem_cons.mpr ⟨⟨RX5, TX5, 19, rfl, by decide, Or.inr ⟨"IceTunes", nm_220, by decide +kernel⟩⟩, List.forall_mem_cons.mpr ⟨⟨RX2, TX2, 7, rfl, by decide, Or.inr ⟨"IceTunes", nm_417, by decide +kernel⟩⟩, List.forall_mem_cons.mpr ⟨⟨RX5, TX5, 19, rfl, by decide, Or.inr ⟨"IceTunes", nm_224, by decide +kernel⟩⟩, List.forall_mem_cons.mpr ⟨⟨RX5, TX5, 19, rfl, by decide, Or.inr ⟨"IceTunes", nm_243, by decide +kernel⟩⟩, List.forall_mem_cons.mpr ⟨⟨RX5, TX5, 19, rfl, by decide, Or.inr ⟨"IceTunes", nm_246, by decide +kernel⟩⟩, List.forall_mem_cons.mpr ⟨⟨RX0, TX0, 8, rfl, by decide, Or.inl wm_370⟩, List.forall_mem_cons.mpr ⟨⟨RX5, TX5, 19, rfl, by decide, Or.inr ⟨"IceTunes", nm_194, by decide +kernel⟩⟩, List.forall_mem_cons.mpr ⟨⟨RX5, TX5, 19, rfl, by decide, Or.inr ⟨"IceTunes", nm_191, by decide +kernel⟩⟩, List.forall_mem_cons.mpr ⟨⟨RX2, TX2, 7, rfl, by decide, Or.inr ⟨"IceTunes", nm_413, by decide +kernel⟩⟩, List.forall_mem_cons.mpr ⟨⟨RX0, TX0, 8, rfl, by decide, Or.inl wm_369⟩, List.forall_mem_cons.mpr ⟨⟨RX0, TX0, 8, rfl, by decide, Or.inl wm_371⟩, List.forall_mem_cons.mpr ⟨⟨RX0, TX0, 8, rfl, by decide, Or.inl wm_372⟩, List.forall_mem_cons.mpr ⟨⟨RX5, TX5, 19, rfl, by decide, Or.inr ⟨"IceTunes", nm_238, by decide +kernel⟩⟩, List.forall_mem_cons.mpr ⟨⟨RX5, TX5, 19, rfl, by decide, Or.inr ⟨"IceTunes", nm_202, by decide +kernel⟩⟩, List.forall_mem_cons.mpr ⟨⟨RX2, TX2, 7, rfl, by decide, Or.inr ⟨"IceTunes", nm_421, by decide +kernel⟩⟩, List.forall_mem_cons.mpr ⟨⟨RX2, TX2, 7, rfl, by decide, Or.inr ⟨"IceTunes", nm_424, by decide +kernel⟩⟩, List.forall_mem_cons.mpr ⟨⟨RX2, TX2, 7, rfl, by decide, Or.inr ⟨"IceTunes", nm_427, by decide +kernel⟩⟩, List.forall_mem_cons.mpr ⟨⟨RX2, TX2, 7, rfl, by decide, Or.inr ⟨"IceTunes", nm_411, by decide +kernel⟩⟩, fm_nil⟩⟩⟩⟩⟩⟩⟩⟩⟩⟩⟩⟩⟩⟩⟩⟩⟩⟩⟩⟩⟩⟩⟩⟩
def pf0 : List (Nat × Nat × Nat) := pf0_0
theorem pf0_ok : ∀ q ∈ pf0, FLk RX0 q.1 q.2.1 q.2.2 := pf0_0_ok
def pk0 : List (Nat × Nat) := []
theorem pk0_ok : ∀ q ∈ pk0, ∃ (C : String) (T : u_T) (N : Nat), classes[q.2]? = some (C, T, N) ∧ Cond.classLink RX0 q.1 C ∈ wt := fm_nil
def TR : List (String × Nat × Nat) := [("IceTunes$Tokens", 60, 1), ("IceTunes$Tokens", 48, 2)]
def pc0 : List (Nat × Value) := []
theorem pc0_ok : ∀ q ∈ pc0, (∀ x, q.2 = .int x → Cond.constant RX0 q.1 x ∈ wt) ∧ (∀ x, q.2 = .long x → Cond.constantLong RX0 q.1 x ∈ wt) ∧ ∀ a, q.2 = .ref a → (a = 1 ∨ a = 2) ∧ isText TR RX0 q.1 a := fm_nil
def pf1_0 : List (Nat × Nat × Nat) := [(9, (1, 0)), (15, (1, 1)), (19, (1, 2)), (23, (1, 3)), (26, (1, 4)), (35, (0, 0))]
theorem pf1_0_ok : ∀ q ∈ pf1_0, FLk RX1 q.1 q.2.1 q.2.2 := List.forall_mem_cons.mpr ⟨⟨RX1, TX1, 5, rfl, by decide, Or.inl wm_522⟩, List.forall_mem_cons.mpr ⟨⟨RX1, TX1, 5, rfl, by decide, Or.inl wm_523⟩, List.forall_mem_cons.mpr ⟨⟨RX1, TX1, 5, rfl, by decide, Or.inl wm_524⟩, List.forall_mem_cons.mpr ⟨⟨RX1, TX1, 5, rfl, by decide, Or.inl wm_525⟩, List.forall_mem_cons.mpr ⟨⟨RX1, TX1, 5, rfl, by decide, Or.inl wm_526⟩, List.forall_mem_cons.mpr ⟨⟨RX0, TX0, 8, rfl, by decide, Or.inr ⟨"IceTunes", nm_362, by decide +kernel⟩⟩, fm_nil⟩⟩⟩⟩⟩⟩
def pf1 : List (Nat × Nat × Nat) := pf1_0
theorem pf1_ok : ∀ q ∈ pf1, FLk RX1 q.1 q.2.1 q.2.2 := pf1_0_ok
def pk1 : List (Nat × Nat) := []
theorem pk1_ok : ∀ q ∈ pk1, ∃ (C : String) (T : u_T) (N : Nat), classes[q.2]? = some (C, T, N) ∧ Cond.classLink RX1 q.1 C ∈ wt := fm_nil
def pc1 : List (Nat × Value) := []
theorem pc1_ok : ∀ q ∈ pc1, (∀ x, q.2 = .int x → Cond.constant RX1 q.1 x ∈ wt) ∧ (∀ x, q.2 = .long x → Cond.constantLong RX1 q.1 x ∈ wt) ∧ ∀ a, q.2 = .ref a → (a = 1 ∨ a = 2) ∧ isText TR RX1 q.1 a := fm_nil
def pf2_0 : List (Nat × Nat × Nat) := [(9, (2, 2)), (15, (2, 3)), (18, (2, 4)), (21, (2, 5)), (24, (2, 6)), (27, (2, 0)), (31, (2, 1)), (40, (5, 9)), (43, (5, 11)), (56, (5, 10))]
theorem pf2_0_ok : ∀ q ∈ pf2_0, FLk RX2 q.1 q.2.1 q.2.2 := List.forall_mem_cons.mpr ⟨⟨RX2, TX2, 7, rfl, by decide, Or.inl wm_412⟩, List.forall_mem_cons.mpr ⟨⟨RX2, TX2, 7, rfl, by decide, Or.inl wm_416⟩, List.forall_mem_cons.mpr ⟨⟨RX2, TX2, 7, rfl, by decide, Or.inl wm_419⟩, List.forall_mem_cons.mpr ⟨⟨RX2, TX2, 7, rfl, by decide, Or.inl wm_422⟩, List.forall_mem_cons.mpr ⟨⟨RX2, TX2, 7, rfl, by decide, Or.inl wm_425⟩, List.forall_mem_cons.mpr ⟨⟨RX2, TX2, 7, rfl, by decide, Or.inl wm_403⟩, List.forall_mem_cons.mpr ⟨⟨RX2, TX2, 7, rfl, by decide, Or.inl wm_409⟩, List.forall_mem_cons.mpr ⟨⟨RX5, TX5, 19, rfl, by decide, Or.inr ⟨"IceTunes", nm_218, by decide +kernel⟩⟩, List.forall_mem_cons.mpr ⟨⟨RX5, TX5, 19, rfl, by decide, Or.inr ⟨"IceTunes", nm_228, by decide +kernel⟩⟩, List.forall_mem_cons.mpr ⟨⟨RX5, TX5, 19, rfl, by decide, Or.inr ⟨"IceTunes", nm_225, by decide +kernel⟩⟩, fm_nil⟩⟩⟩⟩⟩⟩⟩⟩⟩⟩
def pf2 : List (Nat × Nat × Nat) := pf2_0
theorem pf2_ok : ∀ q ∈ pf2, FLk RX2 q.1 q.2.1 q.2.2 := pf2_0_ok
def pk2 : List (Nat × Nat) := []
theorem pk2_ok : ∀ q ∈ pk2, ∃ (C : String) (T : u_T) (N : Nat), classes[q.2]? = some (C, T, N) ∧ Cond.classLink RX2 q.1 C ∈ wt := fm_nil
def pc2 : List (Nat × Value) := []
theorem pc2_ok : ∀ q ∈ pc2, (∀ x, q.2 = .int x → Cond.constant RX2 q.1 x ∈ wt) ∧ (∀ x, q.2 = .long x → Cond.constantLong RX2 q.1 x ∈ wt) ∧ ∀ a, q.2 = .ref a → (a = 1 ∨ a = 2) ∧ isText TR RX2 q.1 a := fm_nil
def pf3_0 : List (Nat × Nat × Nat) := [(9, (3, 2)), (15, (3, 3)), (18, (3, 0)), (22, (3, 1)), (26, (3, 4)), (40, (2, 1)), (55, (0, 0)), (59, (5, 7)), (71, (2, 0))]
theorem pf3_0_ok : ∀ q ∈ pf3_0, FLk RX3 q.1 q.2.1 q.2.2 := List.forall_mem_cons.mpr ⟨⟨RX3, TX3, 5, rfl, by decide, Or.inl wm_500⟩, List.forall_mem_cons.mpr ⟨⟨RX3, TX3, 5, rfl, by decide, Or.inl wm_501⟩, List.forall_mem_cons.mpr ⟨⟨RX3, TX3, 5, rfl, by decide, Or.inl wm_498⟩, List.forall_mem_cons.mpr ⟨⟨RX3, TX3, 5, rfl, by decide, Or.inl wm_499⟩, List.forall_mem_cons.mpr ⟨⟨RX3, TX3, 5, rfl, by decide, Or.inl wm_503⟩, List.forall_mem_cons.mpr ⟨⟨RX2, TX2, 7, rfl, by decide, Or.inr ⟨"IceTunes", nm_410, by decide +kernel⟩⟩, List.forall_mem_cons.mpr ⟨⟨RX0, TX0, 8, rfl, by decide, Or.inr ⟨"IceTunes", nm_364, by decide +kernel⟩⟩, List.forall_mem_cons.mpr ⟨⟨RX5, TX5, 19, rfl, by decide, Or.inr ⟨"IceTunes", nm_213, by decide +kernel⟩⟩, List.forall_mem_cons.mpr ⟨⟨RX2, TX2, 7, rfl, by decide, Or.inr ⟨"IceTunes", nm_406, by decide +kernel⟩⟩, fm_nil⟩⟩⟩⟩⟩⟩⟩⟩⟩
def pf3 : List (Nat × Nat × Nat) := pf3_0
theorem pf3_ok : ∀ q ∈ pf3, FLk RX3 q.1 q.2.1 q.2.2 := pf3_0_ok
def pk3 : List (Nat × Nat) := []
theorem pk3_ok : ∀ q ∈ pk3, ∃ (C : String) (T : u_T) (N : Nat), classes[q.2]? = some (C, T, N) ∧ Cond.classLink RX3 q.1 C ∈ wt := fm_nil
def pc3 : List (Nat × Value) := []
theorem pc3_ok : ∀ q ∈ pc3, (∀ x, q.2 = .int x → Cond.constant RX3 q.1 x ∈ wt) ∧ (∀ x, q.2 = .long x → Cond.constantLong RX3 q.1 x ∈ wt) ∧ ∀ a, q.2 = .ref a → (a = 1 ∨ a = 2) ∧ isText TR RX3 q.1 a := fm_nil
def pf4_0 : List (Nat × Nat × Nat) := [(11, (4, 0)), (16, (4, 1)), (20, (4, 2)), (27, (4, 3))]
theorem pf4_0_ok : ∀ q ∈ pf4_0, FLk RX4 q.1 q.2.1 q.2.2 := List.forall_mem_cons.mpr ⟨⟨RX4, TX4, 4, rfl, by decide, Or.inl wm_443⟩, List.forall_mem_cons.mpr ⟨⟨RX4, TX4, 4, rfl, by decide, Or.inl wm_444⟩, List.forall_mem_cons.mpr ⟨⟨RX4, TX4, 4, rfl, by decide, Or.inl wm_445⟩, List.forall_mem_cons.mpr ⟨⟨RX4, TX4, 4, rfl, by decide, Or.inl wm_447⟩, fm_nil⟩⟩⟩⟩
def pf4 : List (Nat × Nat × Nat) := pf4_0
theorem pf4_ok : ∀ q ∈ pf4, FLk RX4 q.1 q.2.1 q.2.2 := pf4_0_ok
def pk4_0 : List (Nat × Nat) := [(9, 2)]
theorem pk4_0_ok : ∀ q ∈ pk4_0, ∃ (C : String) (T : u_T) (N : Nat), classes[q.2]? = some (C, T, N) ∧ Cond.classLink RX4 q.1 C ∈ wt := List.forall_mem_cons.mpr ⟨⟨RX2, TX2, 7, rfl, wm_396⟩, fm_nil⟩
def pk4 : List (Nat × Nat) := pk4_0
theorem pk4_ok : ∀ q ∈ pk4, ∃ (C : String) (T : u_T) (N : Nat), classes[q.2]? = some (C, T, N) ∧ Cond.classLink RX4 q.1 C ∈ wt := pk4_0_ok
def pc4 : List (Nat × Value) := []
theorem pc4_ok : ∀ q ∈ pc4, (∀ x, q.2 = .int x → Cond.constant RX4 q.1 x ∈ wt) ∧ (∀ x, q.2 = .long x → Cond.constantLong RX4 q.1 x ∈ wt) ∧ ∀ a, q.2 = .ref a → (a = 1 ∨ a = 2) ∧ isText TR RX4 q.1 a := fm_nil
def pf5_0 : List (Nat × Nat × Nat) := [(9, (5, 3)), (15, (5, 4)), (19, (5, 7)), (22, (5, 10)), (25, (5, 11)), (28, (5, 12)), (32, (5, 13)), (35, (5, 15)), (38, (5, 17)), (41, (5, 18)), (47, (5, 0)), (51, (5, 1)), (54, (5, 2)), (57, (5, 5)), (60, (5, 6)), (63, (5, 8)), (67, (5, 9)), (70, (5, 14)), (73, (5, 16))]
theorem pf5_0_ok : ∀ q ∈ pf5_0, FLk RX5 q.1 q.2.1 q.2.2 := List.forall_mem_cons.mpr ⟨⟨RX5, TX5, 19, rfl, by decide, Or.inl wm_198⟩, List.forall_mem_cons.mpr ⟨⟨RX5, TX5, 19, rfl, by decide, Or.inl wm_200⟩, List.forall_mem_cons.mpr ⟨⟨RX5, TX5, 19, rfl, by decide, Or.inl wm_210⟩, List.forall_mem_cons.mpr ⟨⟨RX5, TX5, 19, rfl, by decide, Or.inl wm_223⟩, List.forall_mem_cons.mpr ⟨⟨RX5, TX5, 19, rfl, by decide, Or.inl wm_227⟩, List.forall_mem_cons.mpr ⟨⟨RX5, TX5, 19, rfl, by decide, Or.inl wm_230⟩, List.forall_mem_cons.mpr ⟨⟨RX5, TX5, 19, rfl, by decide, Or.inl wm_232⟩, List.forall_mem_cons.mpr ⟨⟨RX5, TX5, 19, rfl, by decide, Or.inl wm_237⟩, List.forall_mem_cons.mpr ⟨⟨RX5, TX5, 19, rfl, by decide, Or.inl wm_242⟩, List.forall_mem_cons.mpr ⟨⟨RX5, TX5, 19, rfl, by decide, Or.inl wm_245⟩, List.forall_mem_cons.mpr ⟨⟨RX5, TX5, 19, rfl, by decide, Or.inl wm_188⟩, List.forall_mem_cons.mpr ⟨⟨RX5, TX5, 19, rfl, by decide, Or.inl wm_192⟩, List.forall_mem_cons.mpr ⟨⟨RX5, TX5, 19, rfl, by decide, Or.inl wm_196⟩, List.forall_mem_cons.mpr ⟨⟨RX5, TX5, 19, rfl, by decide, Or.inl wm_203⟩, List.forall_mem_cons.mpr ⟨⟨RX5, TX5, 19, rfl, by decide, Or.inl wm_206⟩, List.forall_mem_cons.mpr ⟨⟨RX5, TX5, 19, rfl, by decide, Or.inl wm_216⟩, List.forall_mem_cons.mpr ⟨⟨RX5, TX5, 19, rfl, by decide, Or.inl wm_219⟩, List.forall_mem_cons.mpr ⟨⟨RX5, TX5, 19, rfl, by decide, Or.inl wm_234⟩, List.forall_mem_cons.mpr ⟨⟨RX5, TX5, 19, rfl, by decide, Or.inl wm_240⟩, fm_nil⟩⟩⟩⟩⟩⟩⟩⟩⟩⟩⟩⟩⟩⟩⟩⟩⟩⟩⟩
def pf5 : List (Nat × Nat × Nat) := pf5_0
theorem pf5_ok : ∀ q ∈ pf5, FLk RX5 q.1 q.2.1 q.2.2 := pf5_0_ok
def pk5 : List (Nat × Nat) := []
theorem pk5_ok : ∀ q ∈ pk5, ∃ (C : String) (T : u_T) (N : Nat), classes[q.2]? = some (C, T, N) ∧ Cond.classLink RX5 q.1 C ∈ wt := fm_nil
def pc5 : List (Nat × Value) := []
theorem pc5_ok : ∀ q ∈ pc5, (∀ x, q.2 = .int x → Cond.constant RX5 q.1 x ∈ wt) ∧ (∀ x, q.2 = .long x → Cond.constantLong RX5 q.1 x ∈ wt) ∧ ∀ a, q.2 = .ref a → (a = 1 ∨ a = 2) ∧ isText TR RX5 q.1 a := fm_nil
def pf6_0 : List (Nat × Nat × Nat) := [(12, (6, 0)), (18, (6, 3)), (22, (6, 7)), (26, (6, 8)), (29, (6, 2)), (32, (6, 1)), (45, (9, 2)), (83, (9, 3)), (86, (9, 5)), (89, (6, 4)), (92, (5, 0)), (95, (5, 2)), (98, (5, 6)), (101, (5, 8)), (105, (5, 9)), (112, (5, 1)), (118, (5, 3)), (121, (6, 5)), (124, (5, 4)), (128, (5, 5)), (140, (9, 4)), (146, (5, 7)), (149, (5, 17)), (152, (5, 16)), (155, (6, 6))]
theorem pf6_0_ok : ∀ q ∈ pf6_0, FLk RX6 q.1 q.2.1 q.2.2 := List.forall_mem_cons.mpr ⟨⟨RX6, TX6, 9, rfl, by decide, Or.inl wm_325⟩, List.forall_mem_cons.mpr ⟨⟨RX6, TX6, 9, rfl, by decide, Or.inl wm_329⟩, List.forall_mem_cons.mpr ⟨⟨RX6, TX6, 9, rfl, by decide, Or.inl wm_334⟩, List.forall_mem_cons.mpr ⟨⟨RX6, TX6, 9, rfl, by decide, Or.inl wm_335⟩, List.forall_mem_cons.mpr ⟨⟨RX6, TX6, 9, rfl, by decide, Or.inl wm_327⟩, List.forall_mem_cons.mpr ⟨⟨RX6, TX6, 9, rfl, by decide, Or.inl wm_326⟩, List.forall_mem_cons.mpr ⟨⟨RX9, TX9, 6, rfl, by decide, Or.inr ⟨"IceTunes", nm_304, by decide +kernel⟩⟩, List.forall_mem_cons.mpr ⟨⟨RX9, TX9, 6, rfl, by decide, Or.inr ⟨"IceTunes", nm_306, by decide +kernel⟩⟩, List.forall_mem_cons.mpr ⟨⟨RX9, TX9, 6, rfl, by decide, Or.inr ⟨"IceTunes", nm_310, by decide +kernel⟩⟩, List.forall_mem_cons.mpr ⟨⟨RX6, TX6, 9, rfl, by decide, Or.inl wm_331⟩, List.forall_mem_cons.mpr ⟨⟨RX5, TX5, 19, rfl, by decide, Or.inr ⟨"IceTunes", nm_190, by decide +kernel⟩⟩, List.forall_mem_cons.mpr ⟨⟨RX5, TX5, 19, rfl, by decide, Or.inr ⟨"IceTunes", nm_197, by decide +kernel⟩⟩, List.forall_mem_cons.mpr ⟨⟨RX5, TX5, 19, rfl, by decide, Or.inr ⟨"IceTunes", nm_208, by decide +kernel⟩⟩, List.forall_mem_cons.mpr ⟨⟨RX5, TX5, 19, rfl, by decide, Or.inr ⟨"IceTunes", nm_217, by decide +kernel⟩⟩, List.forall_mem_cons.mpr ⟨⟨RX5, TX5, 19, rfl, by decide, Or.inr ⟨"IceTunes", nm_221, by decide +kernel⟩⟩, List.forall_mem_cons.mpr ⟨⟨RX5, TX5, 19, rfl, by decide, Or.inr ⟨"IceTunes", nm_195, by decide +kernel⟩⟩, List.forall_mem_cons.mpr ⟨⟨RX5, TX5, 19, rfl, by decide, Or.inr ⟨"IceTunes", nm_199, by decide +kernel⟩⟩, List.forall_mem_cons.mpr ⟨⟨RX6, TX6, 9, rfl, by decide, Or.inl wm_332⟩, List.forall_mem_cons.mpr ⟨⟨RX5, TX5, 19, rfl, by decide, Or.inr ⟨"IceTunes", nm_201, by decide +kernel⟩⟩, List.forall_mem_cons.mpr ⟨⟨RX5, TX5, 19, rfl, by decide, Or.inr ⟨"IceTunes", nm_204, by decide +kernel⟩⟩, List.forall_mem_cons.mpr ⟨⟨RX9, TX9, 6, rfl, by decide, Or.inr ⟨"IceTunes", nm_309, by decide +kernel⟩⟩, List.forall_mem_cons.mpr ⟨⟨RX5, TX5, 19, rfl, by decide, Or.inr ⟨"IceTunes", nm_215, by decide +kernel⟩⟩, List.forall_mem_cons.mpr ⟨⟨RX5, TX5, 19, rfl, by decide, Or.inr ⟨"IceTunes", nm_244, by decide +kernel⟩⟩, List.forall_mem_cons.mpr ⟨⟨RX5, TX5, 19, rfl, by decide, Or.inr ⟨"IceTunes", nm_241, by decide +kernel⟩⟩, List.forall_mem_cons.mpr ⟨⟨RX6, TX6, 9, rfl, by decide, Or.inl wm_333⟩, fm_nil⟩⟩⟩⟩⟩⟩⟩⟩⟩⟩⟩⟩⟩⟩⟩⟩⟩⟩⟩⟩⟩⟩⟩⟩⟩
def pf6_1 : List (Nat × Nat × Nat) := [(161, (5, 18)), (164, (5, 10)), (167, (5, 11)), (170, (5, 12)), (174, (5, 13)), (177, (5, 15)), (202, (5, 14))]
theorem pf6_1_ok : ∀ q ∈ pf6_1, FLk RX6 q.1 q.2.1 q.2.2 := List.forall_mem_cons.mpr ⟨⟨RX5, TX5, 19, rfl, by decide, Or.inr ⟨"IceTunes", nm_247, by decide +kernel⟩⟩, List.forall_mem_cons.mpr ⟨⟨RX5, TX5, 19, rfl, by decide, Or.inr ⟨"IceTunes", nm_226, by decide +kernel⟩⟩, List.forall_mem_cons.mpr ⟨⟨RX5, TX5, 19, rfl, by decide, Or.inr ⟨"IceTunes", nm_229, by decide +kernel⟩⟩, List.forall_mem_cons.mpr ⟨⟨RX5, TX5, 19, rfl, by decide, Or.inr ⟨"IceTunes", nm_231, by decide +kernel⟩⟩, List.forall_mem_cons.mpr ⟨⟨RX5, TX5, 19, rfl, by decide, Or.inr ⟨"IceTunes", nm_233, by decide +kernel⟩⟩, List.forall_mem_cons.mpr ⟨⟨RX5, TX5, 19, rfl, by decide, Or.inr ⟨"IceTunes", nm_239, by decide +kernel⟩⟩, List.forall_mem_cons.mpr ⟨⟨RX5, TX5, 19, rfl, by decide, Or.inr ⟨"IceTunes", nm_235, by decide +kernel⟩⟩, fm_nil⟩⟩⟩⟩⟩⟩⟩
def pf6 : List (Nat × Nat × Nat) := pf6_0 ++ pf6_1
theorem pf6_ok : ∀ q ∈ pf6, FLk RX6 q.1 q.2.1 q.2.2 := fun q h => (List.mem_append.mp h).elim (pf6_0_ok q) (pf6_1_ok q)
def pk6_0 : List (Nat × Nat) := [(9, 9)]
theorem pk6_0_ok : ∀ q ∈ pk6_0, ∃ (C : String) (T : u_T) (N : Nat), classes[q.2]? = some (C, T, N) ∧ Cond.classLink RX6 q.1 C ∈ wt := List.forall_mem_cons.mpr ⟨⟨RX9, TX9, 6, rfl, wm_296⟩, fm_nil⟩
def pk6 : List (Nat × Nat) := pk6_0
theorem pk6_ok : ∀ q ∈ pk6, ∃ (C : String) (T : u_T) (N : Nat), classes[q.2]? = some (C, T, N) ∧ Cond.classLink RX6 q.1 C ∈ wt := pk6_0_ok
def pc6 : List (Nat × Value) := []
theorem pc6_ok : ∀ q ∈ pc6, (∀ x, q.2 = .int x → Cond.constant RX6 q.1 x ∈ wt) ∧ (∀ x, q.2 = .long x → Cond.constantLong RX6 q.1 x ∈ wt) ∧ ∀ a, q.2 = .ref a → (a = 1 ∨ a = 2) ∧ isText TR RX6 q.1 a := fm_nil
def pf7_0 : List (Nat × Nat × Nat) := [(9, (7, 3)), (15, (7, 4)), (18, (7, 5)), (21, (7, 0)), (25, (7, 1)), (29, (7, 2)), (33, (7, 6)), (37, (7, 7)), (40, (7, 8)), (49, (7, 9)), (51, (0, 0)), (67, (2, 0)), (73, (5, 6)), (84, (5, 7))]
theorem pf7_0_ok : ∀ q ∈ pf7_0, FLk RX7 q.1 q.2.1 q.2.2 := List.forall_mem_cons.mpr ⟨⟨RX7, TX7, 10, rfl, by decide, Or.inl wm_548⟩, List.forall_mem_cons.mpr ⟨⟨RX7, TX7, 10, rfl, by decide, Or.inl wm_549⟩, List.forall_mem_cons.mpr ⟨⟨RX7, TX7, 10, rfl, by decide, Or.inl wm_551⟩, List.forall_mem_cons.mpr ⟨⟨RX7, TX7, 10, rfl, by decide, Or.inl wm_545⟩, List.forall_mem_cons.mpr ⟨⟨RX7, TX7, 10, rfl, by decide, Or.inl wm_546⟩, List.forall_mem_cons.mpr ⟨⟨RX7, TX7, 10, rfl, by decide, Or.inl wm_547⟩, List.forall_mem_cons.mpr ⟨⟨RX7, TX7, 10, rfl, by decide, Or.inl wm_553⟩, List.forall_mem_cons.mpr ⟨⟨RX7, TX7, 10, rfl, by decide, Or.inl wm_554⟩, List.forall_mem_cons.mpr ⟨⟨RX7, TX7, 10, rfl, by decide, Or.inl wm_555⟩, List.forall_mem_cons.mpr ⟨⟨RX7, TX7, 10, rfl, by decide, Or.inl wm_556⟩, List.forall_mem_cons.mpr ⟨⟨RX0, TX0, 8, rfl, by decide, Or.inr ⟨"IceTunes", nm_363, by decide +kernel⟩⟩, List.forall_mem_cons.mpr ⟨⟨RX2, TX2, 7, rfl, by decide, Or.inr ⟨"IceTunes", nm_404, by decide +kernel⟩⟩, List.forall_mem_cons.mpr ⟨⟨RX5, TX5, 19, rfl, by decide, Or.inr ⟨"IceTunes", nm_207, by decide +kernel⟩⟩, List.forall_mem_cons.mpr ⟨⟨RX5, TX5, 19, rfl, by decide, Or.inr ⟨"IceTunes", nm_212, by decide +kernel⟩⟩, fm_nil⟩⟩⟩⟩⟩⟩⟩⟩⟩⟩⟩⟩⟩⟩
def pf7 : List (Nat × Nat × Nat) := pf7_0
theorem pf7_ok : ∀ q ∈ pf7, FLk RX7 q.1 q.2.1 q.2.2 := pf7_0_ok
def pk7 : List (Nat × Nat) := []
theorem pk7_ok : ∀ q ∈ pk7, ∃ (C : String) (T : u_T) (N : Nat), classes[q.2]? = some (C, T, N) ∧ Cond.classLink RX7 q.1 C ∈ wt := fm_nil
def pc7 : List (Nat × Value) := []
theorem pc7_ok : ∀ q ∈ pc7, (∀ x, q.2 = .int x → Cond.constant RX7 q.1 x ∈ wt) ∧ (∀ x, q.2 = .long x → Cond.constantLong RX7 q.1 x ∈ wt) ∧ ∀ a, q.2 = .ref a → (a = 1 ∨ a = 2) ∧ isText TR RX7 q.1 a := fm_nil
def pf8_0 : List (Nat × Nat × Nat) := [(11, (8, 1)), (15, (8, 2)), (18, (8, 3)), (21, (8, 4)), (24, (8, 5)), (27, (8, 6)), (30, (8, 7)), (33, (8, 0)), (51, (2, 0)), (64, (2, 2))]
theorem pf8_0_ok : ∀ q ∈ pf8_0, FLk RX8 q.1 q.2.1 q.2.2 := List.forall_mem_cons.mpr ⟨⟨RX8, TX8, 8, rfl, by decide, Or.inl wm_467⟩, List.forall_mem_cons.mpr ⟨⟨RX8, TX8, 8, rfl, by decide, Or.inl wm_468⟩, List.forall_mem_cons.mpr ⟨⟨RX8, TX8, 8, rfl, by decide, Or.inl wm_469⟩, List.forall_mem_cons.mpr ⟨⟨RX8, TX8, 8, rfl, by decide, Or.inl wm_470⟩, List.forall_mem_cons.mpr ⟨⟨RX8, TX8, 8, rfl, by decide, Or.inl wm_471⟩, List.forall_mem_cons.mpr ⟨⟨RX8, TX8, 8, rfl, by decide, Or.inl wm_472⟩, List.forall_mem_cons.mpr ⟨⟨RX8, TX8, 8, rfl, by decide, Or.inl wm_473⟩, List.forall_mem_cons.mpr ⟨⟨RX8, TX8, 8, rfl, by decide, Or.inl wm_465⟩, List.forall_mem_cons.mpr ⟨⟨RX2, TX2, 7, rfl, by decide, Or.inr ⟨"IceTunes", nm_407, by decide +kernel⟩⟩, List.forall_mem_cons.mpr ⟨⟨RX2, TX2, 7, rfl, by decide, Or.inr ⟨"IceTunes", nm_415, by decide +kernel⟩⟩, fm_nil⟩⟩⟩⟩⟩⟩⟩⟩⟩⟩
def pf8 : List (Nat × Nat × Nat) := pf8_0
theorem pf8_ok : ∀ q ∈ pf8, FLk RX8 q.1 q.2.1 q.2.2 := pf8_0_ok
def pk8 : List (Nat × Nat) := []
theorem pk8_ok : ∀ q ∈ pk8, ∃ (C : String) (T : u_T) (N : Nat), classes[q.2]? = some (C, T, N) ∧ Cond.classLink RX8 q.1 C ∈ wt := fm_nil
def pc8 : List (Nat × Value) := []
theorem pc8_ok : ∀ q ∈ pc8, (∀ x, q.2 = .int x → Cond.constant RX8 q.1 x ∈ wt) ∧ (∀ x, q.2 = .long x → Cond.constantLong RX8 q.1 x ∈ wt) ∧ ∀ a, q.2 = .ref a → (a = 1 ∨ a = 2) ∧ isText TR RX8 q.1 a := fm_nil
def pf9_0 : List (Nat × Nat × Nat) := [(7, (9, 0)), (19, (9, 1)), (23, (9, 4)), (29, (9, 3)), (32, (9, 2)), (68, (9, 5))]
theorem pf9_0_ok : ∀ q ∈ pf9_0, FLk RX9 q.1 q.2.1 q.2.2 := List.forall_mem_cons.mpr ⟨⟨RX9, TX9, 6, rfl, by decide, Or.inl wm_302⟩, List.forall_mem_cons.mpr ⟨⟨RX9, TX9, 6, rfl, by decide, Or.inl wm_303⟩, List.forall_mem_cons.mpr ⟨⟨RX9, TX9, 6, rfl, by decide, Or.inl wm_308⟩, List.forall_mem_cons.mpr ⟨⟨RX9, TX9, 6, rfl, by decide, Or.inl wm_307⟩, List.forall_mem_cons.mpr ⟨⟨RX9, TX9, 6, rfl, by decide, Or.inl wm_305⟩, List.forall_mem_cons.mpr ⟨⟨RX9, TX9, 6, rfl, by decide, Or.inl wm_311⟩, fm_nil⟩⟩⟩⟩⟩⟩
def pf9 : List (Nat × Nat × Nat) := pf9_0
theorem pf9_ok : ∀ q ∈ pf9, FLk RX9 q.1 q.2.1 q.2.2 := pf9_0_ok
def pk9 : List (Nat × Nat) := []
theorem pk9_ok : ∀ q ∈ pk9, ∃ (C : String) (T : u_T) (N : Nat), classes[q.2]? = some (C, T, N) ∧ Cond.classLink RX9 q.1 C ∈ wt := fm_nil
def pc9_0 : List (Nat × Value) := [(48, .ref 2), (60, .ref 1)]
theorem pc9_0_ok : ∀ q ∈ pc9_0, (∀ x, q.2 = .int x → Cond.constant RX9 q.1 x ∈ wt) ∧ (∀ x, q.2 = .long x → Cond.constantLong RX9 q.1 x ∈ wt) ∧ ∀ a, q.2 = .ref a → (a = 1 ∨ a = 2) ∧ isText TR RX9 q.1 a := List.forall_mem_cons.mpr ⟨⟨fun x h => (by cases h), fun x h => (by cases h), fun x h => (by cases h; exact ⟨by decide, List.mem_of_elem_eq_true (by decide +kernel)⟩)⟩, List.forall_mem_cons.mpr ⟨⟨fun x h => (by cases h), fun x h => (by cases h), fun x h => (by cases h; exact ⟨by decide, List.mem_of_elem_eq_true (by decide +kernel)⟩)⟩, fm_nil⟩⟩
def pc9 : List (Nat × Value) := pc9_0
theorem pc9_ok : ∀ q ∈ pc9, (∀ x, q.2 = .int x → Cond.constant RX9 q.1 x ∈ wt) ∧ (∀ x, q.2 = .long x → Cond.constantLong RX9 q.1 x ∈ wt) ∧ ∀ a, q.2 = .ref a → (a = 1 ∨ a = 2) ∧ isText TR RX9 q.1 a := pc9_0_ok
def pf10_0 : List (Nat × Nat × Nat) := [(9, (10, 0)), (16, (10, 2)), (20, (10, 3)), (26, (10, 4)), (35, (10, 5)), (42, (10, 6)), (48, (10, 7)), (52, (10, 8)), (59, (10, 9)), (63, (10, 13)), (73, (10, 10)), (80, (10, 11)), (89, (10, 12)), (100, (10, 1)), (112, (0, 0)), (121, (10, 14)), (124, (5, 0)), (127, (5, 1)), (130, (6, 2)), (133, (6, 3)), (140, (2, 2)), (151, (2, 3)), (157, (2, 4)), (160, (2, 5)), (163, (2, 6))]
theorem pf10_0_ok : ∀ q ∈ pf10_0, FLk RX10 q.1 q.2.1 q.2.2 := List.forall_mem_cons.mpr ⟨⟨RX10, TX10, 16, rfl, by decide, Or.inl wm_590⟩, List.forall_mem_cons.mpr ⟨⟨RX10, TX10, 16, rfl, by decide, Or.inl wm_592⟩, List.forall_mem_cons.mpr ⟨⟨RX10, TX10, 16, rfl, by decide, Or.inl wm_593⟩, List.forall_mem_cons.mpr ⟨⟨RX10, TX10, 16, rfl, by decide, Or.inl wm_594⟩, List.forall_mem_cons.mpr ⟨⟨RX10, TX10, 16, rfl, by decide, Or.inl wm_595⟩, List.forall_mem_cons.mpr ⟨⟨RX10, TX10, 16, rfl, by decide, Or.inl wm_596⟩, List.forall_mem_cons.mpr ⟨⟨RX10, TX10, 16, rfl, by decide, Or.inl wm_597⟩, List.forall_mem_cons.mpr ⟨⟨RX10, TX10, 16, rfl, by decide, Or.inl wm_598⟩, List.forall_mem_cons.mpr ⟨⟨RX10, TX10, 16, rfl, by decide, Or.inl wm_599⟩, List.forall_mem_cons.mpr ⟨⟨RX10, TX10, 16, rfl, by decide, Or.inl wm_603⟩, List.forall_mem_cons.mpr ⟨⟨RX10, TX10, 16, rfl, by decide, Or.inl wm_600⟩, List.forall_mem_cons.mpr ⟨⟨RX10, TX10, 16, rfl, by decide, Or.inl wm_601⟩, List.forall_mem_cons.mpr ⟨⟨RX10, TX10, 16, rfl, by decide, Or.inl wm_602⟩, List.forall_mem_cons.mpr ⟨⟨RX10, TX10, 16, rfl, by decide, Or.inl wm_591⟩, List.forall_mem_cons.mpr ⟨⟨RX0, TX0, 8, rfl, by decide, Or.inr ⟨"IceTunes", nm_365, by decide +kernel⟩⟩, List.forall_mem_cons.mpr ⟨⟨RX10, TX10, 16, rfl, by decide, Or.inl wm_604⟩, List.forall_mem_cons.mpr ⟨⟨RX5, TX5, 19, rfl, by decide, Or.inr ⟨"IceTunes", nm_189, by decide +kernel⟩⟩, List.forall_mem_cons.mpr ⟨⟨RX5, TX5, 19, rfl, by decide, Or.inr ⟨"IceTunes", nm_193, by decide +kernel⟩⟩, List.forall_mem_cons.mpr ⟨⟨RX6, TX6, 9, rfl, by decide, Or.inr ⟨"IceTunes", nm_328, by decide +kernel⟩⟩, List.forall_mem_cons.mpr ⟨⟨RX6, TX6, 9, rfl, by decide, Or.inr ⟨"IceTunes", nm_330, by decide +kernel⟩⟩, List.forall_mem_cons.mpr ⟨⟨RX2, TX2, 7, rfl, by decide, Or.inr ⟨"IceTunes", nm_414, by decide +kernel⟩⟩, List.forall_mem_cons.mpr ⟨⟨RX2, TX2, 7, rfl, by decide, Or.inr ⟨"IceTunes", nm_418, by decide +kernel⟩⟩, List.forall_mem_cons.mpr ⟨⟨RX2, TX2, 7, rfl, by decide, Or.inr ⟨"IceTunes", nm_420, by decide +kernel⟩⟩, List.forall_mem_cons.mpr ⟨⟨RX2, TX2, 7, rfl, by decide, Or.inr ⟨"IceTunes", nm_423, by decide +kernel⟩⟩, List.forall_mem_cons.mpr ⟨⟨RX2, TX2, 7, rfl, by decide, Or.inr ⟨"IceTunes", nm_426, by decide +kernel⟩⟩, fm_nil⟩⟩⟩⟩⟩⟩⟩⟩⟩⟩⟩⟩⟩⟩⟩⟩⟩⟩⟩⟩⟩⟩⟩⟩⟩
def pf10_1 : List (Nat × Nat × Nat) := [(169, (2, 0)), (172, (5, 7)), (202, (3, 3)), (219, (1, 4)), (228, (3, 4)), (237, (10, 15)), (256, (7, 4)), (259, (7, 5)), (266, (5, 6)), (269, (5, 9)), (272, (5, 5)), (275, (4, 2)), (278, (4, 3)), (281, (8, 0)), (283, (5, 14))]
theorem pf10_1_ok : ∀ q ∈ pf10_1, FLk RX10 q.1 q.2.1 q.2.2 := List.forall_mem_cons.mpr ⟨⟨RX2, TX2, 7, rfl, by decide, Or.inr ⟨"IceTunes", nm_408, by decide +kernel⟩⟩, List.forall_mem_cons.mpr ⟨⟨RX5, TX5, 19, rfl, by decide, Or.inr ⟨"IceTunes", nm_214, by decide +kernel⟩⟩, List.forall_mem_cons.mpr ⟨⟨RX3, TX3, 5, rfl, by decide, Or.inr ⟨"IceTunes", nm_502, by decide +kernel⟩⟩, List.forall_mem_cons.mpr ⟨⟨RX1, TX1, 5, rfl, by decide, Or.inr ⟨"IceTunes", nm_527, by decide +kernel⟩⟩, List.forall_mem_cons.mpr ⟨⟨RX3, TX3, 5, rfl, by decide, Or.inr ⟨"IceTunes", nm_504, by decide +kernel⟩⟩, List.forall_mem_cons.mpr ⟨⟨RX10, TX10, 16, rfl, by decide, Or.inl wm_605⟩, List.forall_mem_cons.mpr ⟨⟨RX7, TX7, 10, rfl, by decide, Or.inr ⟨"IceTunes", nm_550, by decide +kernel⟩⟩, List.forall_mem_cons.mpr ⟨⟨RX7, TX7, 10, rfl, by decide, Or.inr ⟨"IceTunes", nm_552, by decide +kernel⟩⟩, List.forall_mem_cons.mpr ⟨⟨RX5, TX5, 19, rfl, by decide, Or.inr ⟨"IceTunes", nm_209, by decide +kernel⟩⟩, List.forall_mem_cons.mpr ⟨⟨RX5, TX5, 19, rfl, by decide, Or.inr ⟨"IceTunes", nm_222, by decide +kernel⟩⟩, List.forall_mem_cons.mpr ⟨⟨RX5, TX5, 19, rfl, by decide, Or.inr ⟨"IceTunes", nm_205, by decide +kernel⟩⟩, List.forall_mem_cons.mpr ⟨⟨RX4, TX4, 4, rfl, by decide, Or.inr ⟨"IceTunes", nm_446, by decide +kernel⟩⟩, List.forall_mem_cons.mpr ⟨⟨RX4, TX4, 4, rfl, by decide, Or.inr ⟨"IceTunes", nm_448, by decide +kernel⟩⟩, List.forall_mem_cons.mpr ⟨⟨RX8, TX8, 8, rfl, by decide, Or.inr ⟨"IceTunes", nm_466, by decide +kernel⟩⟩, List.forall_mem_cons.mpr ⟨⟨RX5, TX5, 19, rfl, by decide, Or.inr ⟨"IceTunes", nm_236, by decide +kernel⟩⟩, fm_nil⟩⟩⟩⟩⟩⟩⟩⟩⟩⟩⟩⟩⟩⟩⟩
def pf10 : List (Nat × Nat × Nat) := pf10_0 ++ pf10_1
theorem pf10_ok : ∀ q ∈ pf10, FLk RX10 q.1 q.2.1 q.2.2 := fun q h => (List.mem_append.mp h).elim (pf10_0_ok q) (pf10_1_ok q)
def pk10_0 : List (Nat × Nat) := [(13, 5), (23, 6), (30, 0), (39, 4), (46, 2), (56, 8), (68, 3), (77, 1), (84, 7)]
theorem pk10_0_ok : ∀ q ∈ pk10_0, ∃ (C : String) (T : u_T) (N : Nat), classes[q.2]? = some (C, T, N) ∧ Cond.classLink RX10 q.1 C ∈ wt := List.forall_mem_cons.mpr ⟨⟨RX5, TX5, 19, rfl, wm_178⟩, List.forall_mem_cons.mpr ⟨⟨RX6, TX6, 9, rfl, wm_290⟩, List.forall_mem_cons.mpr ⟨⟨RX0, TX0, 8, rfl, wm_355⟩, List.forall_mem_cons.mpr ⟨⟨RX4, TX4, 4, rfl, wm_390⟩, List.forall_mem_cons.mpr ⟨⟨RX2, TX2, 7, rfl, wm_458⟩, List.forall_mem_cons.mpr ⟨⟨RX8, TX8, 8, rfl, wm_459⟩, List.forall_mem_cons.mpr ⟨⟨RX3, TX3, 5, rfl, wm_492⟩, List.forall_mem_cons.mpr ⟨⟨RX1, TX1, 5, rfl, wm_516⟩, List.forall_mem_cons.mpr ⟨⟨RX7, TX7, 10, rfl, wm_539⟩, fm_nil⟩⟩⟩⟩⟩⟩⟩⟩⟩
def pk10 : List (Nat × Nat) := pk10_0
theorem pk10_ok : ∀ q ∈ pk10, ∃ (C : String) (T : u_T) (N : Nat), classes[q.2]? = some (C, T, N) ∧ Cond.classLink RX10 q.1 C ∈ wt := pk10_0_ok
def pc10_0 : List (Nat × Value) := [(251, .int (100000))]
theorem pc10_0_ok : ∀ q ∈ pc10_0, (∀ x, q.2 = .int x → Cond.constant RX10 q.1 x ∈ wt) ∧ (∀ x, q.2 = .long x → Cond.constantLong RX10 q.1 x ∈ wt) ∧ ∀ a, q.2 = .ref a → (a = 1 ∨ a = 2) ∧ isText TR RX10 q.1 a := List.forall_mem_cons.mpr ⟨⟨fun x h => (by cases h; exact wm_1168), fun x h => (by cases h), fun x h => (by cases h)⟩, fm_nil⟩
def pc10 : List (Nat × Value) := pc10_0
theorem pc10_ok : ∀ q ∈ pc10, (∀ x, q.2 = .int x → Cond.constant RX10 q.1 x ∈ wt) ∧ (∀ x, q.2 = .long x → Cond.constantLong RX10 q.1 x ∈ wt) ∧ ∀ a, q.2 = .ref a → (a = 1 ∨ a = 2) ∧ isText TR RX10 q.1 a := pc10_0_ok
def pf11_0 : List (Nat × Nat × Nat) := [(7, (11, 0)), (13, (11, 1)), (16, (11, 5)), (20, (11, 11)), (24, (11, 12)), (27, (11, 13)), (30, (11, 14)), (33, (11, 15)), (36, (11, 16)), (39, (11, 17)), (42, (11, 18)), (45, (11, 19)), (48, (11, 20)), (51, (11, 21)), (54, (11, 22)), (57, (11, 23)), (60, (11, 24)), (63, (11, 25)), (66, (11, 26)), (69, (11, 27)), (73, (11, 28)), (76, (11, 29)), (79, (11, 30)), (82, (11, 31)), (86, (11, 32))]
theorem pf11_0_ok : ∀ q ∈ pf11_0, FLk RX11 q.1 q.2.1 q.2.2 := List.forall_mem_cons.mpr ⟨⟨RX11, TX11, 71, rfl, by decide, Or.inl wm_1249⟩, List.forall_mem_cons.mpr ⟨⟨RX11, TX11, 71, rfl, by decide, Or.inl wm_1250⟩, List.forall_mem_cons.mpr ⟨⟨RX11, TX11, 71, rfl, by decide, Or.inl wm_1254⟩, List.forall_mem_cons.mpr ⟨⟨RX11, TX11, 71, rfl, by decide, Or.inl wm_1260⟩, List.forall_mem_cons.mpr ⟨⟨RX11, TX11, 71, rfl, by decide, Or.inl wm_1261⟩, List.forall_mem_cons.mpr ⟨⟨RX11, TX11, 71, rfl, by decide, Or.inl wm_1262⟩, List.forall_mem_cons.mpr ⟨⟨RX11, TX11, 71, rfl, by decide, Or.inl wm_1263⟩, List.forall_mem_cons.mpr ⟨⟨RX11, TX11, 71, rfl, by decide, Or.inl wm_1264⟩, List.forall_mem_cons.mpr ⟨⟨RX11, TX11, 71, rfl, by decide, Or.inl wm_1265⟩, List.forall_mem_cons.mpr ⟨⟨RX11, TX11, 71, rfl, by decide, Or.inl wm_1266⟩, List.forall_mem_cons.mpr ⟨⟨RX11, TX11, 71, rfl, by decide, Or.inl wm_1267⟩, List.forall_mem_cons.mpr ⟨⟨RX11, TX11, 71, rfl, by decide, Or.inl wm_1268⟩, List.forall_mem_cons.mpr ⟨⟨RX11, TX11, 71, rfl, by decide, Or.inl wm_1269⟩, List.forall_mem_cons.mpr ⟨⟨RX11, TX11, 71, rfl, by decide, Or.inl wm_1270⟩, List.forall_mem_cons.mpr ⟨⟨RX11, TX11, 71, rfl, by decide, Or.inl wm_1271⟩, List.forall_mem_cons.mpr ⟨⟨RX11, TX11, 71, rfl, by decide, Or.inl wm_1272⟩, List.forall_mem_cons.mpr ⟨⟨RX11, TX11, 71, rfl, by decide, Or.inl wm_1273⟩, List.forall_mem_cons.mpr ⟨⟨RX11, TX11, 71, rfl, by decide, Or.inl wm_1274⟩, List.forall_mem_cons.mpr ⟨⟨RX11, TX11, 71, rfl, by decide, Or.inl wm_1275⟩, List.forall_mem_cons.mpr ⟨⟨RX11, TX11, 71, rfl, by decide, Or.inl wm_1276⟩, List.forall_mem_cons.mpr ⟨⟨RX11, TX11, 71, rfl, by decide, Or.inl wm_1277⟩, List.forall_mem_cons.mpr ⟨⟨RX11, TX11, 71, rfl, by decide, Or.inl wm_1278⟩, List.forall_mem_cons.mpr ⟨⟨RX11, TX11, 71, rfl, by decide, Or.inl wm_1279⟩, List.forall_mem_cons.mpr ⟨⟨RX11, TX11, 71, rfl, by decide, Or.inl wm_1280⟩, List.forall_mem_cons.mpr ⟨⟨RX11, TX11, 71, rfl, by decide, Or.inl wm_1281⟩, fm_nil⟩⟩⟩⟩⟩⟩⟩⟩⟩⟩⟩⟩⟩⟩⟩⟩⟩⟩⟩⟩⟩⟩⟩⟩⟩
def pf11_1 : List (Nat × Nat × Nat) := [(89, (11, 33)), (92, (11, 34)), (95, (11, 35)), (98, (11, 36)), (101, (11, 37)), (104, (11, 44)), (107, (11, 45)), (110, (11, 46)), (113, (11, 47)), (116, (11, 48)), (119, (11, 50)), (122, (11, 53)), (125, (11, 54)), (128, (11, 55)), (131, (11, 57)), (134, (11, 58)), (137, (11, 59)), (140, (11, 60)), (143, (11, 61)), (146, (11, 62)), (149, (11, 63)), (152, (11, 64)), (155, (11, 65)), (158, (11, 69)), (161, (11, 70))]
theorem pf11_1_ok : ∀ q ∈ pf11_1, FLk RX11 q.1 q.2.1 q.2.2 := List.forall_mem_cons.mpr ⟨⟨RX11, TX11, 71, rfl, by decide, Or.inl wm_1282⟩, List.forall_mem_cons.mpr ⟨⟨RX11, TX11, 71, rfl, by decide, Or.inl wm_1283⟩, List.forall_mem_cons.mpr ⟨⟨RX11, TX11, 71, rfl, by decide, Or.inl wm_1284⟩, List.forall_mem_cons.mpr ⟨⟨RX11, TX11, 71, rfl, by decide, Or.inl wm_1285⟩, List.forall_mem_cons.mpr ⟨⟨RX11, TX11, 71, rfl, by decide, Or.inl wm_1286⟩, List.forall_mem_cons.mpr ⟨⟨RX11, TX11, 71, rfl, by decide, Or.inl wm_1293⟩, List.forall_mem_cons.mpr ⟨⟨RX11, TX11, 71, rfl, by decide, Or.inl wm_1294⟩, List.forall_mem_cons.mpr ⟨⟨RX11, TX11, 71, rfl, by decide, Or.inl wm_1295⟩, List.forall_mem_cons.mpr ⟨⟨RX11, TX11, 71, rfl, by decide, Or.inl wm_1296⟩, List.forall_mem_cons.mpr ⟨⟨RX11, TX11, 71, rfl, by decide, Or.inl wm_1297⟩, List.forall_mem_cons.mpr ⟨⟨RX11, TX11, 71, rfl, by decide, Or.inl wm_1299⟩, List.forall_mem_cons.mpr ⟨⟨RX11, TX11, 71, rfl, by decide, Or.inl wm_1302⟩, List.forall_mem_cons.mpr ⟨⟨RX11, TX11, 71, rfl, by decide, Or.inl wm_1303⟩, List.forall_mem_cons.mpr ⟨⟨RX11, TX11, 71, rfl, by decide, Or.inl wm_1304⟩, List.forall_mem_cons.mpr ⟨⟨RX11, TX11, 71, rfl, by decide, Or.inl wm_1306⟩, List.forall_mem_cons.mpr ⟨⟨RX11, TX11, 71, rfl, by decide, Or.inl wm_1307⟩, List.forall_mem_cons.mpr ⟨⟨RX11, TX11, 71, rfl, by decide, Or.inl wm_1308⟩, List.forall_mem_cons.mpr ⟨⟨RX11, TX11, 71, rfl, by decide, Or.inl wm_1309⟩, List.forall_mem_cons.mpr ⟨⟨RX11, TX11, 71, rfl, by decide, Or.inl wm_1310⟩, List.forall_mem_cons.mpr ⟨⟨RX11, TX11, 71, rfl, by decide, Or.inl wm_1311⟩, List.forall_mem_cons.mpr ⟨⟨RX11, TX11, 71, rfl, by decide, Or.inl wm_1312⟩, List.forall_mem_cons.mpr ⟨⟨RX11, TX11, 71, rfl, by decide, Or.inl wm_1313⟩, List.forall_mem_cons.mpr ⟨⟨RX11, TX11, 71, rfl, by decide, Or.inl wm_1314⟩, List.forall_mem_cons.mpr ⟨⟨RX11, TX11, 71, rfl, by decide, Or.inl wm_1318⟩, List.forall_mem_cons.mpr ⟨⟨RX11, TX11, 71, rfl, by decide, Or.inl wm_1319⟩, fm_nil⟩⟩⟩⟩⟩⟩⟩⟩⟩⟩⟩⟩⟩⟩⟩⟩⟩⟩⟩⟩⟩⟩⟩⟩⟩
def pf11_2 : List (Nat × Nat × Nat) := [(170, (11, 3)), (173, (11, 4)), (220, (11, 7)), (223, (11, 6)), (230, (11, 8)), (237, (11, 10)), (248, (11, 9)), (279, (11, 39)), (282, (11, 40)), (285, (11, 2)), (288, (11, 38)), (294, (11, 66)), (297, (11, 56)), (338, (11, 43)), (344, (11, 42)), (347, (11, 41)), (386, (11, 51)), (389, (11, 52)), (412, (11, 49)), (480, (11, 67)), (494, (11, 68))]
theorem pf11_2_ok : ∀ q ∈ pf11_2, FLk RX11 q.1 q.2.1 q.2.2 := List.forall_mem_cons.mpr ⟨⟨RX11, TX11, 71, rfl, by decide, Or.inl wm_1252⟩, List.forall_mem_cons.mpr ⟨⟨RX11, TX11, 71, rfl, by decide, Or.inl wm_1253⟩, List.forall_mem_cons.mpr ⟨⟨RX11, TX11, 71, rfl, by decide, Or.inl wm_1256⟩, List.forall_mem_cons.mpr ⟨⟨RX11, TX11, 71, rfl, by decide, Or.inl wm_1255⟩, List.forall_mem_cons.mpr ⟨⟨RX11, TX11, 71, rfl, by decide, Or.inl wm_1257⟩, List.forall_mem_cons.mpr ⟨⟨RX11, TX11, 71, rfl, by decide, Or.inl wm_1259⟩, List.forall_mem_cons.mpr ⟨⟨RX11, TX11, 71, rfl, by decide, Or.inl wm_1258⟩, List.forall_mem_cons.mpr ⟨⟨RX11, TX11, 71, rfl, by decide, Or.inl wm_1288⟩, List.forall_mem_cons.mpr ⟨⟨RX11, TX11, 71, rfl, by decide, Or.inl wm_1289⟩, List.forall_mem_cons.mpr ⟨⟨RX11, TX11, 71, rfl, by decide, Or.inl wm_1251⟩, List.forall_mem_cons.mpr ⟨⟨RX11, TX11, 71, rfl, by decide, Or.inl wm_1287⟩, List.forall_mem_cons.mpr ⟨⟨RX11, TX11, 71, rfl, by decide, Or.inl wm_1315⟩, List.forall_mem_cons.mpr ⟨⟨RX11, TX11, 71, rfl, by decide, Or.inl wm_1305⟩, List.forall_mem_cons.mpr ⟨⟨RX11, TX11, 71, rfl, by decide, Or.inl wm_1292⟩, List.forall_mem_cons.mpr ⟨⟨RX11, TX11, 71, rfl, by decide, Or.inl wm_1291⟩, List.forall_mem_cons.mpr ⟨⟨RX11, TX11, 71, rfl, by decide, Or.inl wm_1290⟩, List.forall_mem_cons.mpr ⟨⟨RX11, TX11, 71, rfl, by decide, Or.inl wm_1300⟩, List.forall_mem_cons.mpr ⟨⟨RX11, TX11, 71, rfl, by decide, Or.inl wm_1301⟩, List.forall_mem_cons.mpr ⟨⟨RX11, TX11, 71, rfl, by decide, Or.inl wm_1298⟩, List.forall_mem_cons.mpr ⟨⟨RX11, TX11, 71, rfl, by decide, Or.inl wm_1316⟩, List.forall_mem_cons.mpr ⟨⟨RX11, TX11, 71, rfl, by decide, Or.inl wm_1317⟩, fm_nil⟩⟩⟩⟩⟩⟩⟩⟩⟩⟩⟩⟩⟩⟩⟩⟩⟩⟩⟩⟩⟩
def pf11 : List (Nat × Nat × Nat) := pf11_0 ++ pf11_1 ++ pf11_2
theorem pf11_ok : ∀ q ∈ pf11, FLk RX11 q.1 q.2.1 q.2.2 := fun q h => (List.mem_append.mp h).elim ((fun q h => (List.mem_append.mp h).elim (pf11_0_ok q) (pf11_1_ok q)) q) (pf11_2_ok q)
def pk11 : List (Nat × Nat) := []
theorem pk11_ok : ∀ q ∈ pk11, ∃ (C : String) (T : u_T) (N : Nat), classes[q.2]? = some (C, T, N) ∧ Cond.classLink RX11 q.1 C ∈ wt := fm_nil
def pc11_0 : List (Nat × Value) := [(176, .long (1886350948)), (178, .long (25209)), (180, .long (6906725)), (182, .long (1667591276)), (184, .long (482854661739)), (186, .long (24948)), (188, .long (1953853029)), (190, .long (1650553459)), (192, .long (32485536600843109)), (194, .long (126905033713010)), (196, .long (131277443786868)), (198, .long (1937006969)), (200, .long (474316174440)), (202, .long (1700885364)), (204, .long (495791207528)), (206, .long (2003137396)), (208, .long (1650811252)), (210, .long (1819238756)), (212, .long (107144124132964)), (214, .long (28530)), (216, .long (6385252)), (218, .long (7237492)), (487, .int (100000))]
theorem pc11_0_ok : ∀ q ∈ pc11_0, (∀ x, q.2 = .int x → Cond.constant RX11 q.1 x ∈ wt) ∧ (∀ x, q.2 = .long x → Cond.constantLong RX11 q.1 x ∈ wt) ∧ ∀ a, q.2 = .ref a → (a = 1 ∨ a = 2) ∧ isText TR RX11 q.1 a := List.forall_mem_cons.mpr ⟨⟨fun x h => (by cases h), fun x h => (by cases h; exact wm_1482), fun x h => (by cases h)⟩, List.forall_mem_cons.mpr ⟨⟨fun x h => (by cases h), fun x h => (by cases h; exact wm_1483), fun x h => (by cases h)⟩, List.forall_mem_cons.mpr ⟨⟨fun x h => (by cases h), fun x h => (by cases h; exact wm_1484), fun x h => (by cases h)⟩, List.forall_mem_cons.mpr ⟨⟨fun x h => (by cases h), fun x h => (by cases h; exact wm_1485), fun x h => (by cases h)⟩, List.forall_mem_cons.mpr ⟨⟨fun x h => (by cases h), fun x h => (by cases h; exact wm_1486), fun x h => (by cases h)⟩, List.forall_mem_cons.mpr ⟨⟨fun x h => (by cases h), fun x h => (by cases h; exact wm_1487), fun x h => (by cases h)⟩, List.forall_mem_cons.mpr ⟨⟨fun x h => (by cases h), fun x h => (by cases h; exact wm_1488), fun x h => (by cases h)⟩, List.forall_mem_cons.mpr ⟨⟨fun x h => (by cases h), fun x h => (by cases h; exact wm_1489), fun x h => (by cases h)⟩, List.forall_mem_cons.mpr ⟨⟨fun x h => (by cases h), fun x h => (by cases h; exact wm_1490), fun x h => (by cases h)⟩, List.forall_mem_cons.mpr ⟨⟨fun x h => (by cases h), fun x h => (by cases h; exact wm_1491), fun x h => (by cases h)⟩, List.forall_mem_cons.mpr ⟨⟨fun x h => (by cases h), fun x h => (by cases h; exact wm_1492), fun x h => (by cases h)⟩, List.forall_mem_cons.mpr ⟨⟨fun x h => (by cases h), fun x h => (by cases h; exact wm_1493), fun x h => (by cases h)⟩, List.forall_mem_cons.mpr ⟨⟨fun x h => (by cases h), fun x h => (by cases h; exact wm_1494), fun x h => (by cases h)⟩, List.forall_mem_cons.mpr ⟨⟨fun x h => (by cases h), fun x h => (by cases h; exact wm_1495), fun x h => (by cases h)⟩, List.forall_mem_cons.mpr ⟨⟨fun x h => (by cases h), fun x h => (by cases h; exact wm_1496), fun x h => (by cases h)⟩, List.forall_mem_cons.mpr ⟨⟨fun x h => (by cases h), fun x h => (by cases h; exact wm_1497), fun x h => (by cases h)⟩, List.forall_mem_cons.mpr ⟨⟨fun x h => (by cases h), fun x h => (by cases h; exact wm_1498), fun x h => (by cases h)⟩, List.forall_mem_cons.mpr ⟨⟨fun x h => (by cases h), fun x h => (by cases h; exact wm_1499), fun x h => (by cases h)⟩, List.forall_mem_cons.mpr ⟨⟨fun x h => (by cases h), fun x h => (by cases h; exact wm_1500), fun x h => (by cases h)⟩, List.forall_mem_cons.mpr ⟨⟨fun x h => (by cases h), fun x h => (by cases h; exact wm_1501), fun x h => (by cases h)⟩, List.forall_mem_cons.mpr ⟨⟨fun x h => (by cases h), fun x h => (by cases h; exact wm_1502), fun x h => (by cases h)⟩, List.forall_mem_cons.mpr ⟨⟨fun x h => (by cases h), fun x h => (by cases h; exact wm_1503), fun x h => (by cases h)⟩, List.forall_mem_cons.mpr ⟨⟨fun x h => (by cases h; exact wm_1804), fun x h => (by cases h), fun x h => (by cases h)⟩, fm_nil⟩⟩⟩⟩⟩⟩⟩⟩⟩⟩⟩⟩⟩⟩⟩⟩⟩⟩⟩⟩⟩⟩⟩
def pc11 : List (Nat × Value) := pc11_0
theorem pc11_ok : ∀ q ∈ pc11, (∀ x, q.2 = .int x → Cond.constant RX11 q.1 x ∈ wt) ∧ (∀ x, q.2 = .long x → Cond.constantLong RX11 q.1 x ∈ wt) ∧ ∀ a, q.2 = .ref a → (a = 1 ∨ a = 2) ∧ isText TR RX11 q.1 a := pc11_0_ok
def pf12 : List (Nat × Nat × Nat) := []
theorem pf12_ok : ∀ q ∈ pf12, FLk RL q.1 q.2.1 q.2.2 := fm_nil
def pk12_0 : List (Nat × Nat) := [(7, 10), (10, 11)]
theorem pk12_0_ok : ∀ q ∈ pk12_0, ∃ (C : String) (T : u_T) (N : Nat), classes[q.2]? = some (C, T, N) ∧ Cond.classLink RL q.1 C ∈ wt := List.forall_mem_cons.mpr ⟨⟨RX10, TX10, 16, rfl, wm_170⟩, List.forall_mem_cons.mpr ⟨⟨RX11, TX11, 71, rfl, wm_1227⟩, fm_nil⟩⟩
def pk12 : List (Nat × Nat) := pk12_0
theorem pk12_ok : ∀ q ∈ pk12, ∃ (C : String) (T : u_T) (N : Nat), classes[q.2]? = some (C, T, N) ∧ Cond.classLink RL q.1 C ∈ wt := pk12_0_ok
def pc12 : List (Nat × Value) := []
theorem pc12_ok : ∀ q ∈ pc12, (∀ x, q.2 = .int x → Cond.constant RL q.1 x ∈ wt) ∧ (∀ x, q.2 = .long x → Cond.constantLong RL q.1 x ∈ wt) ∧ ∀ a, q.2 = .ref a → (a = 1 ∨ a = 2) ∧ isText TR RL q.1 a := fm_nil
def pf13 : List (Nat × Nat × Nat) := []
theorem pf13_ok : ∀ q ∈ pf13, FLk RJ6 q.1 q.2.1 q.2.2 := fm_nil
def pk13 : List (Nat × Nat) := []
theorem pk13_ok : ∀ q ∈ pk13, ∃ (C : String) (T : u_T) (N : Nat), classes[q.2]? = some (C, T, N) ∧ Cond.classLink RJ6 q.1 C ∈ wt := fm_nil
def pc13_0 : List (Nat × Value) := [(265, .int (1431655765)), (266, .int (858993459)), (267, .int (252645135))]
theorem pc13_0_ok : ∀ q ∈ pc13_0, (∀ x, q.2 = .int x → Cond.constant RJ6 q.1 x ∈ wt) ∧ (∀ x, q.2 = .long x → Cond.constantLong RJ6 q.1 x ∈ wt) ∧ ∀ a, q.2 = .ref a → (a = 1 ∨ a = 2) ∧ isText TR RJ6 q.1 a := List.forall_mem_cons.mpr ⟨⟨fun x h => (by cases h; exact wm_1058), fun x h => (by cases h), fun x h => (by cases h)⟩, List.forall_mem_cons.mpr ⟨⟨fun x h => (by cases h; exact wm_1059), fun x h => (by cases h), fun x h => (by cases h)⟩, List.forall_mem_cons.mpr ⟨⟨fun x h => (by cases h; exact wm_1060), fun x h => (by cases h), fun x h => (by cases h)⟩, fm_nil⟩⟩⟩
def pc13 : List (Nat × Value) := pc13_0
theorem pc13_ok : ∀ q ∈ pc13, (∀ x, q.2 = .int x → Cond.constant RJ6 q.1 x ∈ wt) ∧ (∀ x, q.2 = .long x → Cond.constantLong RJ6 q.1 x ∈ wt) ∧ ∀ a, q.2 = .ref a → (a = 1 ∨ a = 2) ∧ isText TR RJ6 q.1 a := pc13_0_ok
def pf14 : List (Nat × Nat × Nat) := []
theorem pf14_ok : ∀ q ∈ pf14, FLk RJ9 q.1 q.2.1 q.2.2 := fm_nil
def pk14 : List (Nat × Nat) := []
theorem pk14_ok : ∀ q ∈ pk14, ∃ (C : String) (T : u_T) (N : Nat), classes[q.2]? = some (C, T, N) ∧ Cond.classLink RJ9 q.1 C ∈ wt := fm_nil
def pc14 : List (Nat × Value) := []
theorem pc14_ok : ∀ q ∈ pc14, (∀ x, q.2 = .int x → Cond.constant RJ9 q.1 x ∈ wt) ∧ (∀ x, q.2 = .long x → Cond.constantLong RJ9 q.1 x ∈ wt) ∧ ∀ a, q.2 = .ref a → (a = 1 ∨ a = 2) ∧ isText TR RJ9 q.1 a := fm_nil
def GM_0 : pG := [(mX0_init, 1), (mX0_playTune, 2), (mX0_keepSilence, 2), (mX0_playBar, 3), (mX0_stepAll, 1), (mX0_freeze, 3), (mX0_iceAround, 3), (mX0_workOut, 2), (mX0_look, 1), (mX0_join, 3), (mX0_isTooHeavy, 2), (mX0_breakCells, 3), (mX0_sink, 4), (mX1_init, 2), (mX1_mostUp, 3), (mX1_chooseMost, 3), (mX1_chooseLeast, 3), (mX1_tryTune, 4), (mX2_init, 0), (mX2_begin, 1), (mX2_copy, 1), (mX2_isUp, 1), (mX2_countUp, 1), (mX2_loadOf, 2), (mX2_thicken, 1)]
theorem GM_0_ok : ∀ q ∈ GM_0, MOK q.1 q.2 := List.forall_mem_cons.mpr ⟨mok_X0_init, List.forall_mem_cons.mpr ⟨mok_X0_playTune, List.forall_mem_cons.mpr ⟨mok_X0_keepSilence, List.forall_mem_cons.mpr ⟨mok_X0_playBar, List.forall_mem_cons.mpr ⟨mok_X0_stepAll, List.forall_mem_cons.mpr ⟨mok_X0_freeze, List.forall_mem_cons.mpr ⟨mok_X0_iceAround, List.forall_mem_cons.mpr ⟨mok_X0_workOut, List.forall_mem_cons.mpr ⟨mok_X0_look, List.forall_mem_cons.mpr ⟨mok_X0_join, List.forall_mem_cons.mpr ⟨mok_X0_isTooHeavy, List.forall_mem_cons.mpr ⟨mok_X0_breakCells, List.forall_mem_cons.mpr ⟨mok_X0_sink, List.forall_mem_cons.mpr ⟨mok_X1_init, List.forall_mem_cons.mpr ⟨mok_X1_mostUp, List.forall_mem_cons.mpr ⟨mok_X1_chooseMost, List.forall_mem_cons.mpr ⟨mok_X1_chooseLeast, List.forall_mem_cons.mpr ⟨mok_X1_tryTune, List.forall_mem_cons.mpr ⟨mok_X2_init, List.forall_mem_cons.mpr ⟨mok_X2_begin, List.forall_mem_cons.mpr ⟨mok_X2_copy, List.forall_mem_cons.mpr ⟨mok_X2_isUp, List.forall_mem_cons.mpr ⟨mok_X2_countUp, List.forall_mem_cons.mpr ⟨mok_X2_loadOf, List.forall_mem_cons.mpr ⟨mok_X2_thicken, fm_nil⟩⟩⟩⟩⟩⟩⟩⟩⟩⟩⟩⟩⟩⟩⟩⟩⟩⟩⟩⟩⟩⟩⟩⟩⟩
def GM_1 : pG := [(mX3_init, 2), (mX3_fewestIn, 2), (mX3_arrange, 2), (mX3_fewestPlanks, 2), (mX3_listCells, 1), (mX3_bestSilence, 2), (mX3_firstBreak, 3), (mX4_init, 0), (mX4_now, 0), (mX4_goOn, 0), (mX4_takeBack, 0), (mX4_doAgain, 0), (mX4_forget, 0), (mX5_init, 0), (mX5_clear, 0), (mX5_hasCell, 2), (mX5_hasTune, 1), (mX5_hasTunes, 1), (mX5_hasSkater, 1), (mX5_iceAtFirst, 1), (mX5_stepOf, 2), (mX5_beside, 2), (mX6_init, 0), (mX6_read, 3), (mX6_fail, 1)]
theorem GM_1_ok : ∀ q ∈ GM_1, MOK q.1 q.2 := List.forall_mem_cons.mpr ⟨mok_X3_init, List.forall_mem_cons.mpr ⟨mok_X3_fewestIn, List.forall_mem_cons.mpr ⟨mok_X3_arrange, List.forall_mem_cons.mpr ⟨mok_X3_fewestPlanks, List.forall_mem_cons.mpr ⟨mok_X3_listCells, List.forall_mem_cons.mpr ⟨mok_X3_bestSilence, List.forall_mem_cons.mpr ⟨mok_X3_firstBreak, List.forall_mem_cons.mpr ⟨mok_X4_init, List.forall_mem_cons.mpr ⟨mok_X4_now, List.forall_mem_cons.mpr ⟨mok_X4_goOn, List.forall_mem_cons.mpr ⟨mok_X4_takeBack, List.forall_mem_cons.mpr ⟨mok_X4_doAgain, List.forall_mem_cons.mpr ⟨mok_X4_forget, List.forall_mem_cons.mpr ⟨mok_X5_init, List.forall_mem_cons.mpr ⟨mok_X5_clear, List.forall_mem_cons.mpr ⟨mok_X5_hasCell, List.forall_mem_cons.mpr ⟨mok_X5_hasTune, List.forall_mem_cons.mpr ⟨mok_X5_hasTunes, List.forall_mem_cons.mpr ⟨mok_X5_hasSkater, List.forall_mem_cons.mpr ⟨mok_X5_iceAtFirst, List.forall_mem_cons.mpr ⟨mok_X5_stepOf, List.forall_mem_cons.mpr ⟨mok_X5_beside, List.forall_mem_cons.mpr ⟨mok_X6_init, List.forall_mem_cons.mpr ⟨mok_X6_read, List.forall_mem_cons.mpr ⟨mok_X6_fail, fm_nil⟩⟩⟩⟩⟩⟩⟩⟩⟩⟩⟩⟩⟩⟩⟩⟩⟩⟩⟩⟩⟩⟩⟩⟩⟩
def GM_2 : pG := [(mX6_take, 1), (mX6_takeNumber, 2), (mX6_mayStand, 1), (mX6_readSize, 0), (mX6_readAllIce, 0), (mX6_readCell, 0), (mX6_readPlank, 0), (mX6_takePlace, 1), (mX6_isToldAlready, 2), (mX6_takeName, 2), (mX6_readTune, 0), (mX6_readSilence, 0), (mX6_readSkater, 0), (mX6_putCode, 1), (mX6_readFormula, 1), (mX6_readBoth, 1), (mX6_readOne, 1), (mX6_readSum, 1), (mX6_readTerm, 1), (mX6_isTermSign, 1), (mX6_readUnit, 1), (mX7_init, 3), (mX7_count, 2), (mX7_extend, 1), (mX7_playsAsSeen, 2)]
theorem GM_2_ok : ∀ q ∈ GM_2, MOK q.1 q.2 := List.forall_mem_cons.mpr ⟨mok_X6_take, List.forall_mem_cons.mpr ⟨mok_X6_takeNumber, List.forall_mem_cons.mpr ⟨mok_X6_mayStand, List.forall_mem_cons.mpr ⟨mok_X6_readSize, List.forall_mem_cons.mpr ⟨mok_X6_readAllIce, List.forall_mem_cons.mpr ⟨mok_X6_readCell, List.forall_mem_cons.mpr ⟨mok_X6_readPlank, List.forall_mem_cons.mpr ⟨mok_X6_takePlace, List.forall_mem_cons.mpr ⟨mok_X6_isToldAlready, List.forall_mem_cons.mpr ⟨mok_X6_takeName, List.forall_mem_cons.mpr ⟨mok_X6_readTune, List.forall_mem_cons.mpr ⟨mok_X6_readSilence, List.forall_mem_cons.mpr ⟨mok_X6_readSkater, List.forall_mem_cons.mpr ⟨mok_X6_putCode, List.forall_mem_cons.mpr ⟨mok_X6_readFormula, List.forall_mem_cons.mpr ⟨mok_X6_readBoth, List.forall_mem_cons.mpr ⟨mok_X6_readOne, List.forall_mem_cons.mpr ⟨mok_X6_readSum, List.forall_mem_cons.mpr ⟨mok_X6_readTerm, List.forall_mem_cons.mpr ⟨mok_X6_isTermSign, List.forall_mem_cons.mpr ⟨mok_X6_readUnit, List.forall_mem_cons.mpr ⟨mok_X7_init, List.forall_mem_cons.mpr ⟨mok_X7_count, List.forall_mem_cons.mpr ⟨mok_X7_extend, List.forall_mem_cons.mpr ⟨mok_X7_playsAsSeen, fm_nil⟩⟩⟩⟩⟩⟩⟩⟩⟩⟩⟩⟩⟩⟩⟩⟩⟩⟩⟩⟩⟩⟩⟩⟩⟩
def GM_3 : pG := [(mX7_takeRow, 0), (mX8_init, 0), (mX8_clear, 0), (mX8_tellIce, 5), (mX8_tellSkater, 4), (mX8_tell, 4), (mX8_takeAway, 2), (mX8_isKnown, 2), (mX8_lastBar, 1), (mX8_areSo, 2), (mX8_isSo, 2), (mX9_init, 0), (mX9_begin, 2), (mX9_next, 0), (mX9_isLetter, 1), (mX9_isDigit, 1), (mX9_takeWord, 0), (mX9_kindOfWord, 0), (mX9_takeNumber, 0), (mX9_isSameWord, 2), (mX10_init, 0), (mX10_feed, 5), (mX10_tapeNumber, 1), (mX10_end, 1), (mX10_pond, 0)]
theorem GM_3_ok : ∀ q ∈ GM_3, MOK q.1 q.2 := List.forall_mem_cons.mpr ⟨mok_X7_takeRow, List.forall_mem_cons.mpr ⟨mok_X8_init, List.forall_mem_cons.mpr ⟨mok_X8_clear, List.forall_mem_cons.mpr ⟨mok_X8_tellIce, List.forall_mem_cons.mpr ⟨mok_X8_tellSkater, List.forall_mem_cons.mpr ⟨mok_X8_tell, List.forall_mem_cons.mpr ⟨mok_X8_takeAway, List.forall_mem_cons.mpr ⟨mok_X8_isKnown, List.forall_mem_cons.mpr ⟨mok_X8_lastBar, List.forall_mem_cons.mpr ⟨mok_X8_areSo, List.forall_mem_cons.mpr ⟨mok_X8_isSo, List.forall_mem_cons.mpr ⟨mok_X9_init, List.forall_mem_cons.mpr ⟨mok_X9_begin, List.forall_mem_cons.mpr ⟨mok_X9_next, List.forall_mem_cons.mpr ⟨mok_X9_isLetter, List.forall_mem_cons.mpr ⟨mok_X9_isDigit, List.forall_mem_cons.mpr ⟨mok_X9_takeWord, List.forall_mem_cons.mpr ⟨mok_X9_kindOfWord, List.forall_mem_cons.mpr ⟨mok_X9_takeNumber, List.forall_mem_cons.mpr ⟨mok_X9_isSameWord, List.forall_mem_cons.mpr ⟨mok_X10_init, List.forall_mem_cons.mpr ⟨mok_X10_feed, List.forall_mem_cons.mpr ⟨mok_X10_tapeNumber, List.forall_mem_cons.mpr ⟨mok_X10_end, List.forall_mem_cons.mpr ⟨mok_X10_pond, fm_nil⟩⟩⟩⟩⟩⟩⟩⟩⟩⟩⟩⟩⟩⟩⟩⟩⟩⟩⟩⟩⟩⟩⟩⟩⟩
def GM_4 : pG := [(mX10_fault, 1), (mX10_ice, 2), (mX10_load, 2), (mX10_skater, 2), (mX10_play, 1), (mX10_hold, 1), (mX10_undo, 0), (mX10_redo, 0), (mX10_order, 1), (mX10_duel, 3), (mX10_planks, 1), (mX10_hush, 2), (mX10_breaks, 2), (mX10_lies, 1), (mX10_layDown, 2), (mX10_sight, 5), (mX10_seen, 3), (mX10_isSightBar, 1), (mX10_untell, 1), (mX10_later, 1), (mX10_asked, 2), (mX10_sure, 3), (mX10_image, 1), (mX10_back, 1), (mX10_about, 1)]
theorem GM_4_ok : ∀ q ∈ GM_4, MOK q.1 q.2 := List.forall_mem_cons.mpr ⟨mok_X10_fault, List.forall_mem_cons.mpr ⟨mok_X10_ice, List.forall_mem_cons.mpr ⟨mok_X10_load, List.forall_mem_cons.mpr ⟨mok_X10_skater, List.forall_mem_cons.mpr ⟨mok_X10_play, List.forall_mem_cons.mpr ⟨mok_X10_hold, List.forall_mem_cons.mpr ⟨mok_X10_undo, List.forall_mem_cons.mpr ⟨mok_X10_redo, List.forall_mem_cons.mpr ⟨mok_X10_order, List.forall_mem_cons.mpr ⟨mok_X10_duel, List.forall_mem_cons.mpr ⟨mok_X10_planks, List.forall_mem_cons.mpr ⟨mok_X10_hush, List.forall_mem_cons.mpr ⟨mok_X10_breaks, List.forall_mem_cons.mpr ⟨mok_X10_lies, List.forall_mem_cons.mpr ⟨mok_X10_layDown, List.forall_mem_cons.mpr ⟨mok_X10_sight, List.forall_mem_cons.mpr ⟨mok_X10_seen, List.forall_mem_cons.mpr ⟨mok_X10_isSightBar, List.forall_mem_cons.mpr ⟨mok_X10_untell, List.forall_mem_cons.mpr ⟨mok_X10_later, List.forall_mem_cons.mpr ⟨mok_X10_asked, List.forall_mem_cons.mpr ⟨mok_X10_sure, List.forall_mem_cons.mpr ⟨mok_X10_image, List.forall_mem_cons.mpr ⟨mok_X10_back, List.forall_mem_cons.mpr ⟨mok_X10_about, fm_nil⟩⟩⟩⟩⟩⟩⟩⟩⟩⟩⟩⟩⟩⟩⟩⟩⟩⟩⟩⟩⟩⟩⟩⟩⟩
def GM_5 : pG := [(mX11_init, 0), (mX11_sign, 1), (mX11_isLetter, 1), (mX11_isDigit, 1), (mX11_fails, 2), (mX11_isGood, 0), (mX11_isKept, 1), (mX11_isSign, 1), (mX11_goOn, 0), (mX11_isSignHere, 1), (mX11_isWord, 1), (mX11_misplaced, 0), (mX11_must, 1), (mX11_numeral, 2), (mX11_after, 3), (mX11_clearBank, 0), (mX11_pond, 0), (mX11_isFull, 0), (mX11_readLine, 0), (mX11_readCell, 0), (mX11_readPlank, 0), (mX11_here, 3), (mX11_fresh, 1), (mX11_readTune, 0), (mX11_stepHere, 0)]
theorem GM_5_ok : ∀ q ∈ GM_5, MOK q.1 q.2 := List.forall_mem_cons.mpr ⟨mok_X11_init, List.forall_mem_cons.mpr ⟨mok_X11_sign, List.forall_mem_cons.mpr ⟨mok_X11_isLetter, List.forall_mem_cons.mpr ⟨mok_X11_isDigit, List.forall_mem_cons.mpr ⟨mok_X11_fails, List.forall_mem_cons.mpr ⟨mok_X11_isGood, List.forall_mem_cons.mpr ⟨mok_X11_isKept, List.forall_mem_cons.mpr ⟨mok_X11_isSign, List.forall_mem_cons.mpr ⟨mok_X11_goOn, List.forall_mem_cons.mpr ⟨mok_X11_isSignHere, List.forall_mem_cons.mpr ⟨mok_X11_isWord, List.forall_mem_cons.mpr ⟨mok_X11_misplaced, List.forall_mem_cons.mpr ⟨mok_X11_must, List.forall_mem_cons.mpr ⟨mok_X11_numeral, List.forall_mem_cons.mpr ⟨mok_X11_after, List.forall_mem_cons.mpr ⟨mok_X11_clearBank, List.forall_mem_cons.mpr ⟨mok_X11_pond, List.forall_mem_cons.mpr ⟨mok_X11_isFull, List.forall_mem_cons.mpr ⟨mok_X11_readLine, List.forall_mem_cons.mpr ⟨mok_X11_readCell, List.forall_mem_cons.mpr ⟨mok_X11_readPlank, List.forall_mem_cons.mpr ⟨mok_X11_here, List.forall_mem_cons.mpr ⟨mok_X11_fresh, List.forall_mem_cons.mpr ⟨mok_X11_readTune, List.forall_mem_cons.mpr ⟨mok_X11_stepHere, fm_nil⟩⟩⟩⟩⟩⟩⟩⟩⟩⟩⟩⟩⟩⟩⟩⟩⟩⟩⟩⟩⟩⟩⟩⟩⟩
def GM_6 : pG := [(mX11_readSkater, 0), (mX11_readRule, 1), (mX11_emit, 2), (mX11_pushE, 2), (mX11_e, 0), (mX11_wordHere, 0), (mX11_unit, 0), (mX11_rankHere, 0), (mX11_isCompared, 0), (mX11_behindUnit, 0), (mX11_two, 3), (mX11_comes, 5), (mX11_fault, 1), (mX11_isIn, 3), (mX11_isCell, 2), (mX11_isTune, 1), (mX11_isSkater, 1), (mX11_of, 2), (mX11_put, 3), (mX11_layFirst, 0), (mX11_begin, 0), (mX11_keep, 1), (mX11_bring, 1), (mX11_goes, 1), (mX11_layLoads, 0)]
theorem GM_6_ok : ∀ q ∈ GM_6, MOK q.1 q.2 := List.forall_mem_cons.mpr ⟨mok_X11_readSkater, List.forall_mem_cons.mpr ⟨mok_X11_readRule, List.forall_mem_cons.mpr ⟨mok_X11_emit, List.forall_mem_cons.mpr ⟨mok_X11_pushE, List.forall_mem_cons.mpr ⟨mok_X11_e, List.forall_mem_cons.mpr ⟨mok_X11_wordHere, List.forall_mem_cons.mpr ⟨mok_X11_unit, List.forall_mem_cons.mpr ⟨mok_X11_rankHere, List.forall_mem_cons.mpr ⟨mok_X11_isCompared, List.forall_mem_cons.mpr ⟨mok_X11_behindUnit, List.forall_mem_cons.mpr ⟨mok_X11_two, List.forall_mem_cons.mpr ⟨mok_X11_comes, List.forall_mem_cons.mpr ⟨mok_X11_fault, List.forall_mem_cons.mpr ⟨mok_X11_isIn, List.forall_mem_cons.mpr ⟨mok_X11_isCell, List.forall_mem_cons.mpr ⟨mok_X11_isTune, List.forall_mem_cons.mpr ⟨mok_X11_isSkater, List.forall_mem_cons.mpr ⟨mok_X11_of, List.forall_mem_cons.mpr ⟨mok_X11_put, List.forall_mem_cons.mpr ⟨mok_X11_layFirst, List.forall_mem_cons.mpr ⟨mok_X11_begin, List.forall_mem_cons.mpr ⟨mok_X11_keep, List.forall_mem_cons.mpr ⟨mok_X11_bring, List.forall_mem_cons.mpr ⟨mok_X11_goes, List.forall_mem_cons.mpr ⟨mok_X11_layLoads, fm_nil⟩⟩⟩⟩⟩⟩⟩⟩⟩⟩⟩⟩⟩⟩⟩⟩⟩⟩⟩⟩⟩⟩⟩⟩⟩
def GM_7 : pG := [(mX11_iceAt, 2), (mX11_bar, 2), (mX11_breaksAt, 3), (mX11_tune, 1), (mX11_silence, 1), (mX11_upMany, 0), (mX11_inMany, 0), (mX11_ice, 2), (mX11_load, 2), (mX11_skater, 2), (mX11_keepAct, 0), (mX11_exchange, 0), (mX11_play, 1), (mX11_hold, 1), (mX11_undo, 0), (mX11_redo, 0), (mX11_lay, 2), (mX11_lies, 1), (mX11_nextOrder, 1), (mX11_swap, 2), (mX11_layTunes, 1), (mX11_isSet, 1), (mX11_order, 1), (mX11_duels, 2), (mX11_takes, 2)]
theorem GM_7_ok : ∀ q ∈ GM_7, MOK q.1 q.2 := List.forall_mem_cons.mpr ⟨mok_X11_iceAt, List.forall_mem_cons.mpr ⟨mok_X11_bar, List.forall_mem_cons.mpr ⟨mok_X11_breaksAt, List.forall_mem_cons.mpr ⟨mok_X11_tune, List.forall_mem_cons.mpr ⟨mok_X11_silence, List.forall_mem_cons.mpr ⟨mok_X11_upMany, List.forall_mem_cons.mpr ⟨mok_X11_inMany, List.forall_mem_cons.mpr ⟨mok_X11_ice, List.forall_mem_cons.mpr ⟨mok_X11_load, List.forall_mem_cons.mpr ⟨mok_X11_skater, List.forall_mem_cons.mpr ⟨mok_X11_keepAct, List.forall_mem_cons.mpr ⟨mok_X11_exchange, List.forall_mem_cons.mpr ⟨mok_X11_play, List.forall_mem_cons.mpr ⟨mok_X11_hold, List.forall_mem_cons.mpr ⟨mok_X11_undo, List.forall_mem_cons.mpr ⟨mok_X11_redo, List.forall_mem_cons.mpr ⟨mok_X11_lay, List.forall_mem_cons.mpr ⟨mok_X11_lies, List.forall_mem_cons.mpr ⟨mok_X11_nextOrder, List.forall_mem_cons.mpr ⟨mok_X11_swap, List.forall_mem_cons.mpr ⟨mok_X11_layTunes, List.forall_mem_cons.mpr ⟨mok_X11_isSet, List.forall_mem_cons.mpr ⟨mok_X11_order, List.forall_mem_cons.mpr ⟨mok_X11_duels, List.forall_mem_cons.mpr ⟨mok_X11_takes, fm_nil⟩⟩⟩⟩⟩⟩⟩⟩⟩⟩⟩⟩⟩⟩⟩⟩⟩⟩⟩⟩⟩⟩⟩⟩⟩
def GM_8 : pG := [(mX11_duel, 3), (mX11_isDry, 1), (mX11_planks, 1), (mX11_isDryBy, 3), (mX11_hush, 2), (mX11_breaks, 2), (mX11_addSight, 4), (mX11_sight, 5), (mX11_seen, 3), (mX11_untell, 1), (mX11_later, 1), (mX11_counts, 2), (mX11_areSoNow, 1), (mX11_areSoBy, 2), (mX11_layAsked, 2), (mX11_asked, 2), (mX11_sure, 3), (mX11_image, 1), (mX11_back, 1), (mX11_about, 1), (mX11_feed, 5), (mX11_end, 1), (mJ6_bitCount_0f7a4, 1)]
theorem GM_8_ok : ∀ q ∈ GM_8, MOK q.1 q.2 := List.forall_mem_cons.mpr ⟨mok_X11_duel, List.forall_mem_cons.mpr ⟨mok_X11_isDry, List.forall_mem_cons.mpr ⟨mok_X11_planks, List.forall_mem_cons.mpr ⟨mok_X11_isDryBy, List.forall_mem_cons.mpr ⟨mok_X11_hush, List.forall_mem_cons.mpr ⟨mok_X11_breaks, List.forall_mem_cons.mpr ⟨mok_X11_addSight, List.forall_mem_cons.mpr ⟨mok_X11_sight, List.forall_mem_cons.mpr ⟨mok_X11_seen, List.forall_mem_cons.mpr ⟨mok_X11_untell, List.forall_mem_cons.mpr ⟨mok_X11_later, List.forall_mem_cons.mpr ⟨mok_X11_counts, List.forall_mem_cons.mpr ⟨mok_X11_areSoNow, List.forall_mem_cons.mpr ⟨mok_X11_areSoBy, List.forall_mem_cons.mpr ⟨mok_X11_layAsked, List.forall_mem_cons.mpr ⟨mok_X11_asked, List.forall_mem_cons.mpr ⟨mok_X11_sure, List.forall_mem_cons.mpr ⟨mok_X11_image, List.forall_mem_cons.mpr ⟨mok_X11_back, List.forall_mem_cons.mpr ⟨mok_X11_about, List.forall_mem_cons.mpr ⟨mok_X11_feed, List.forall_mem_cons.mpr ⟨mok_X11_end, List.forall_mem_cons.mpr ⟨mok_J6_bitCount_0f7a4, fm_nil⟩⟩⟩⟩⟩⟩⟩⟩⟩⟩⟩⟩⟩⟩⟩⟩⟩⟩⟩⟩⟩⟩⟩
def GM : pG := GM_0 ++ GM_1 ++ GM_2 ++ GM_3 ++ GM_4 ++ GM_5 ++ GM_6 ++ GM_7 ++ GM_8
theorem GM_ok : ∀ q ∈ GM, MOK q.1 q.2 := fun q h => (List.mem_append.mp h).elim ((fun q h => (List.mem_append.mp h).elim ((fun q h => (List.mem_append.mp h).elim ((fun q h => (List.mem_append.mp h).elim ((fun q h => (List.mem_append.mp h).elim ((fun q h => (List.mem_append.mp h).elim ((fun q h => (List.mem_append.mp h).elim ((fun q h => (List.mem_append.mp h).elim (GM_0_ok q) (GM_1_ok q)) q) (GM_2_ok q)) q) (GM_3_ok q)) q) (GM_4_ok q)) q) (GM_5_ok q)) q) (GM_6_ok q)) q) (GM_7_ok q)) q) (GM_8_ok q)
def LKp0 (q : Nat × Nat × Nat) : Prop := ((q.2.1 = 0 ∧ ∃ (M : pM) (na : Nat), GM[q.2.2]? = some (M, na) ∧ LnkOK RX0 q.1 M.2.1 ∧ Cond.instanceMethod M.2.1 ∈ wt ∧ Cond.selects M.2.1.cls M.2.1 M.2.1 ∈ wt ∧ M.1 < 12) ∨ (q.2.1 = 6 ∧ ∃ (M : pM) (na : Nat), GM[q.2.2]? = some (M, na) ∧ LnkOK RX0 q.1 M.2.1 ∧ Cond.static M.2.1 ∈ wt) ∨ (q.2.1 = 7 ∧ ∃ (M : pM) (na : Nat), GM[q.2.2]? = some (M, na) ∧ LnkOK RX0 q.1 M.2.1 ∧ Cond.instanceMethod M.2.1 ∈ wt ∧ M.2.2.2.2.1 = none) ∨ (q.2.1 = 2 ∧ Cond.methodLink RX0 q.1 Lib.objectInit ∈ wt ∧ Cond.instanceMethod Lib.objectInit ∈ wt ∧ Cond.code Lib.objectInit ⟨#[0xb1]⟩ 1 none ∈ wt) ∨ (q.2.1 = 1 ∧ Cond.methodLink RX0 q.1 arraycopyName ∈ wt ∧ Cond.native arraycopyName ∈ wt ∧ Cond.static arraycopyName ∈ wt ∧ Cond.initialized "java/lang/System" ∈ wt) ∨ (q.2.1 = 8 ∧ Cond.methodLink RX0 q.1 Lib.Math.max.name ∈ wt ∧ Cond.static Lib.Math.max.name ∈ wt ∧ Cond.initialized "java/lang/Math" ∈ wt ∧ Cond.code Lib.Math.max.name Lib.Math.max.code 2 (some .int) ∈ wt) ∨ (q.2.1 = 9 ∧ Cond.methodLink RX0 q.1 Lib.Math.min.name ∈ wt ∧ Cond.static Lib.Math.min.name ∈ wt ∧ Cond.initialized "java/lang/Math" ∈ wt ∧ Cond.code Lib.Math.min.name Lib.Math.min.code 2 (some .int) ∈ wt) ∨ (3 ≤ q.2.1 ∧ q.2.1 ≤ 5))
def pm0_0 : List (Nat × Nat × Nat) := [(3, (2, 0)), (30, (0, 3)), (34, (0, 4)), (38, (0, 5)), (42, (0, 11)), (53, (0, 21)), (60, (0, 45)), (64, (0, 46)), (93, (0, 6)), (100, (0, 7)), (103, (9, 0)), (108, (8, 0)), (111, (1, 0)), (122, (0, 8)), (126, (6, 9)), (134, (0, 10)), (138, (0, 12))]
theorem pm0_0_ok : ∀ q ∈ pm0_0, LKp0 q := List.forall_mem_cons.mpr ⟨Or.inr (Or.inr (Or.inr (Or.inl ⟨rfl, wm_360, wm_176, wm_177⟩))), List.forall_mem_cons.mpr ⟨Or.inl ⟨rfl, mX0_playBar, 3, rfl, Or.inl wm_956, wm_958, wm_45, by decide⟩, List.forall_mem_cons.mpr ⟨Or.inl ⟨rfl, mX0_stepAll, 1, rfl, Or.inl wm_960, wm_962, wm_46, by decide⟩, List.forall_mem_cons.mpr ⟨Or.inl ⟨rfl, mX0_freeze, 3, rfl, Or.inl wm_974, wm_976, wm_49, by decide⟩, List.forall_mem_cons.mpr ⟨Or.inl ⟨rfl, mX0_breakCells, 3, rfl, Or.inl wm_996, wm_998, wm_53, by decide⟩, List.forall_mem_cons.mpr ⟨Or.inl ⟨rfl, mX2_isUp, 1, rfl, Or.inr ⟨"IceTunes", nm_964⟩, wm_921, wm_39, by decide⟩, List.forall_mem_cons.mpr ⟨Or.inl ⟨rfl, mX5_stepOf, 2, rfl, Or.inr ⟨"IceTunes", nm_965⟩, wm_967, wm_47, by decide⟩, List.forall_mem_cons.mpr ⟨Or.inl ⟨rfl, mX5_beside, 2, rfl, Or.inr ⟨"IceTunes", nm_969⟩, wm_971, wm_48, by decide⟩, List.forall_mem_cons.mpr ⟨Or.inl ⟨rfl, mX0_iceAround, 3, rfl, Or.inl wm_978, wm_980, wm_50, by decide⟩, List.forall_mem_cons.mpr ⟨Or.inl ⟨rfl, mX0_workOut, 2, rfl, Or.inl wm_982, wm_984, wm_51, by decide⟩, List.forall_mem_cons.mpr ⟨Or.inr (Or.inr (Or.inr (Or.inr (Or.inr (Or.inr <| Or.inl ⟨rfl, wm_993, wm_665, wm_162, wm_666⟩))))), List.forall_mem_cons.mpr ⟨Or.inr (Or.inr (Or.inr (Or.inr (Or.inr (Or.inl ⟨rfl, wm_994, wm_757, wm_162, wm_758⟩))))), List.forall_mem_cons.mpr ⟨Or.inr (Or.inr (Or.inr (Or.inr (Or.inl ⟨rfl, wm_995, wm_951, wm_950, wm_168⟩)))), List.forall_mem_cons.mpr ⟨Or.inl ⟨rfl, mX0_look, 1, rfl, Or.inl wm_986, wm_988, wm_52, by decide⟩, List.forall_mem_cons.mpr ⟨Or.inr (Or.inl ⟨rfl, mX0_join, 3, rfl, Or.inl wm_990, wm_991⟩), List.forall_mem_cons.mpr ⟨Or.inl ⟨rfl, mX0_isTooHeavy, 2, rfl, Or.inl wm_1000, wm_1002, wm_54, by decide⟩, List.forall_mem_cons.mpr ⟨Or.inl ⟨rfl, mX0_sink, 4, rfl, Or.inl wm_1004, wm_1006, wm_55, by decide⟩, fm_nil⟩⟩⟩⟩⟩⟩⟩⟩⟩⟩⟩⟩⟩⟩⟩⟩⟩
def pm0 : List (Nat × Nat × Nat) := pm0_0
theorem pm0_ok : ∀ q ∈ pm0, LKp0 q := pm0_0_ok
def LKp1 (q : Nat × Nat × Nat) : Prop := ((q.2.1 = 0 ∧ ∃ (M : pM) (na : Nat), GM[q.2.2]? = some (M, na) ∧ LnkOK RX1 q.1 M.2.1 ∧ Cond.instanceMethod M.2.1 ∈ wt ∧ Cond.selects M.2.1.cls M.2.1 M.2.1 ∈ wt ∧ M.1 < 12) ∨ (q.2.1 = 6 ∧ ∃ (M : pM) (na : Nat), GM[q.2.2]? = some (M, na) ∧ LnkOK RX1 q.1 M.2.1 ∧ Cond.static M.2.1 ∈ wt) ∨ (q.2.1 = 7 ∧ ∃ (M : pM) (na : Nat), GM[q.2.2]? = some (M, na) ∧ LnkOK RX1 q.1 M.2.1 ∧ Cond.instanceMethod M.2.1 ∈ wt ∧ M.2.2.2.2.1 = none) ∨ (q.2.1 = 2 ∧ Cond.methodLink RX1 q.1 Lib.objectInit ∈ wt ∧ Cond.instanceMethod Lib.objectInit ∈ wt ∧ Cond.code Lib.objectInit ⟨#[0xb1]⟩ 1 none ∈ wt) ∨ (q.2.1 = 1 ∧ Cond.methodLink RX1 q.1 arraycopyName ∈ wt ∧ Cond.native arraycopyName ∈ wt ∧ Cond.static arraycopyName ∈ wt ∧ Cond.initialized "java/lang/System" ∈ wt) ∨ (q.2.1 = 8 ∧ Cond.methodLink RX1 q.1 Lib.Math.max.name ∈ wt ∧ Cond.static Lib.Math.max.name ∈ wt ∧ Cond.initialized "java/lang/Math" ∈ wt ∧ Cond.code Lib.Math.max.name Lib.Math.max.code 2 (some .int) ∈ wt) ∨ (q.2.1 = 9 ∧ Cond.methodLink RX1 q.1 Lib.Math.min.name ∈ wt ∧ Cond.static Lib.Math.min.name ∈ wt ∧ Cond.initialized "java/lang/Math" ∈ wt ∧ Cond.code Lib.Math.min.name Lib.Math.min.code 2 (some .int) ∈ wt) ∨ (3 ≤ q.2.1 ∧ q.2.1 ≤ 5))
def pm1_0 : List (Nat × Nat × Nat) := [(3, (2, 0)), (29, (0, 20)), (41, (0, 22)), (45, (0, 15)), (49, (8, 0)), (55, (0, 17)), (59, (9, 0)), (62, (0, 1)), (66, (0, 16))]
theorem pm1_0_ok : ∀ q ∈ pm1_0, LKp1 q := List.forall_mem_cons.mpr ⟨Or.inr (Or.inr (Or.inr (Or.inl ⟨rfl, wm_521, wm_176, wm_177⟩))), List.forall_mem_cons.mpr ⟨Or.inl ⟨rfl, mX2_copy, 1, rfl, Or.inr ⟨"IceTunes", nm_1073⟩, wm_947, wm_43, by decide⟩, List.forall_mem_cons.mpr ⟨Or.inl ⟨rfl, mX2_countUp, 1, rfl, Or.inr ⟨"IceTunes", nm_1074⟩, wm_1010, wm_56, by decide⟩, List.forall_mem_cons.mpr ⟨Or.inl ⟨rfl, mX1_chooseMost, 3, rfl, Or.inl wm_1075, wm_1077, wm_65, by decide⟩, List.forall_mem_cons.mpr ⟨Or.inr (Or.inr (Or.inr (Or.inr (Or.inr (Or.inl ⟨rfl, wm_1079, wm_757, wm_162, wm_758⟩))))), List.forall_mem_cons.mpr ⟨Or.inl ⟨rfl, mX1_tryTune, 4, rfl, Or.inl wm_1080, wm_1082, wm_66, by decide⟩, List.forall_mem_cons.mpr ⟨Or.inr (Or.inr (Or.inr (Or.inr (Or.inr (Or.inr <| Or.inl ⟨rfl, wm_1089, wm_665, wm_162, wm_666⟩))))), List.forall_mem_cons.mpr ⟨Or.inl ⟨rfl, mX0_playTune, 2, rfl, Or.inr ⟨"IceTunes", nm_1084⟩, wm_954, wm_44, by decide⟩, List.forall_mem_cons.mpr ⟨Or.inl ⟨rfl, mX1_chooseLeast, 3, rfl, Or.inl wm_1085, wm_1087, wm_67, by decide⟩, fm_nil⟩⟩⟩⟩⟩⟩⟩⟩⟩
def pm1 : List (Nat × Nat × Nat) := pm1_0
theorem pm1_ok : ∀ q ∈ pm1, LKp1 q := pm1_0_ok
def LKp2 (q : Nat × Nat × Nat) : Prop := ((q.2.1 = 0 ∧ ∃ (M : pM) (na : Nat), GM[q.2.2]? = some (M, na) ∧ LnkOK RX2 q.1 M.2.1 ∧ Cond.instanceMethod M.2.1 ∈ wt ∧ Cond.selects M.2.1.cls M.2.1 M.2.1 ∈ wt ∧ M.1 < 12) ∨ (q.2.1 = 6 ∧ ∃ (M : pM) (na : Nat), GM[q.2.2]? = some (M, na) ∧ LnkOK RX2 q.1 M.2.1 ∧ Cond.static M.2.1 ∈ wt) ∨ (q.2.1 = 7 ∧ ∃ (M : pM) (na : Nat), GM[q.2.2]? = some (M, na) ∧ LnkOK RX2 q.1 M.2.1 ∧ Cond.instanceMethod M.2.1 ∈ wt ∧ M.2.2.2.2.1 = none) ∨ (q.2.1 = 2 ∧ Cond.methodLink RX2 q.1 Lib.objectInit ∈ wt ∧ Cond.instanceMethod Lib.objectInit ∈ wt ∧ Cond.code Lib.objectInit ⟨#[0xb1]⟩ 1 none ∈ wt) ∨ (q.2.1 = 1 ∧ Cond.methodLink RX2 q.1 arraycopyName ∈ wt ∧ Cond.native arraycopyName ∈ wt ∧ Cond.static arraycopyName ∈ wt ∧ Cond.initialized "java/lang/System" ∈ wt) ∨ (q.2.1 = 8 ∧ Cond.methodLink RX2 q.1 Lib.Math.max.name ∈ wt ∧ Cond.static Lib.Math.max.name ∈ wt ∧ Cond.initialized "java/lang/Math" ∈ wt ∧ Cond.code Lib.Math.max.name Lib.Math.max.code 2 (some .int) ∈ wt) ∨ (q.2.1 = 9 ∧ Cond.methodLink RX2 q.1 Lib.Math.min.name ∈ wt ∧ Cond.static Lib.Math.min.name ∈ wt ∧ Cond.initialized "java/lang/Math" ∈ wt ∧ Cond.code Lib.Math.min.name Lib.Math.min.code 2 (some .int) ∈ wt) ∨ (3 ≤ q.2.1 ∧ q.2.1 ≤ 5))
def pm2_0 : List (Nat × Nat × Nat) := [(3, (2, 0)), (34, (0, 44)), (46, (1, 0)), (52, (0, 21)), (59, (9, 0)), (65, (8, 0))]
theorem pm2_0_ok : ∀ q ∈ pm2_0, LKp2 q := List.forall_mem_cons.mpr ⟨Or.inr (Or.inr (Or.inr (Or.inl ⟨rfl, wm_402, wm_176, wm_177⟩))), List.forall_mem_cons.mpr ⟨Or.inl ⟨rfl, mX5_iceAtFirst, 1, rfl, Or.inr ⟨"IceTunes", nm_586⟩, wm_588, wm_3, by decide⟩, List.forall_mem_cons.mpr ⟨Or.inr (Or.inr (Or.inr (Or.inr (Or.inl ⟨rfl, wm_949, wm_951, wm_950, wm_168⟩)))), List.forall_mem_cons.mpr ⟨Or.inl ⟨rfl, mX2_isUp, 1, rfl, Or.inl wm_919, wm_921, wm_39, by decide⟩, List.forall_mem_cons.mpr ⟨Or.inr (Or.inr (Or.inr (Or.inr (Or.inr (Or.inr <| Or.inl ⟨rfl, wm_1127, wm_665, wm_162, wm_666⟩))))), List.forall_mem_cons.mpr ⟨Or.inr (Or.inr (Or.inr (Or.inr (Or.inr (Or.inl ⟨rfl, wm_1128, wm_757, wm_162, wm_758⟩))))), fm_nil⟩⟩⟩⟩⟩⟩
def pm2 : List (Nat × Nat × Nat) := pm2_0
theorem pm2_ok : ∀ q ∈ pm2, LKp2 q := pm2_0_ok
def LKp3 (q : Nat × Nat × Nat) : Prop := ((q.2.1 = 0 ∧ ∃ (M : pM) (na : Nat), GM[q.2.2]? = some (M, na) ∧ LnkOK RX3 q.1 M.2.1 ∧ Cond.instanceMethod M.2.1 ∈ wt ∧ Cond.selects M.2.1.cls M.2.1 M.2.1 ∈ wt ∧ M.1 < 12) ∨ (q.2.1 = 6 ∧ ∃ (M : pM) (na : Nat), GM[q.2.2]? = some (M, na) ∧ LnkOK RX3 q.1 M.2.1 ∧ Cond.static M.2.1 ∈ wt) ∨ (q.2.1 = 7 ∧ ∃ (M : pM) (na : Nat), GM[q.2.2]? = some (M, na) ∧ LnkOK RX3 q.1 M.2.1 ∧ Cond.instanceMethod M.2.1 ∈ wt ∧ M.2.2.2.2.1 = none) ∨ (q.2.1 = 2 ∧ Cond.methodLink RX3 q.1 Lib.objectInit ∈ wt ∧ Cond.instanceMethod Lib.objectInit ∈ wt ∧ Cond.code Lib.objectInit ⟨#[0xb1]⟩ 1 none ∈ wt) ∨ (q.2.1 = 1 ∧ Cond.methodLink RX3 q.1 arraycopyName ∈ wt ∧ Cond.native arraycopyName ∈ wt ∧ Cond.static arraycopyName ∈ wt ∧ Cond.initialized "java/lang/System" ∈ wt) ∨ (q.2.1 = 8 ∧ Cond.methodLink RX3 q.1 Lib.Math.max.name ∈ wt ∧ Cond.static Lib.Math.max.name ∈ wt ∧ Cond.initialized "java/lang/Math" ∈ wt ∧ Cond.code Lib.Math.max.name Lib.Math.max.code 2 (some .int) ∈ wt) ∨ (q.2.1 = 9 ∧ Cond.methodLink RX3 q.1 Lib.Math.min.name ∈ wt ∧ Cond.static Lib.Math.min.name ∈ wt ∧ Cond.initialized "java/lang/Math" ∈ wt ∧ Cond.code Lib.Math.min.name Lib.Math.min.code 2 (some .int) ∈ wt) ∨ (3 ≤ q.2.1 ∧ q.2.1 ≤ 5))
def pm3_0 : List (Nat × Nat × Nat) := [(3, (2, 0)), (30, (0, 20)), (36, (0, 27)), (43, (1, 0)), (49, (0, 1)), (64, (0, 4)), (67, (0, 5)), (73, (0, 10)), (77, (6, 222)), (83, (0, 29)), (87, (0, 3)), (91, (0, 24))]
theorem pm3_0_ok : ∀ q ∈ pm3_0, LKp3 q := List.forall_mem_cons.mpr ⟨Or.inr (Or.inr (Or.inr (Or.inl ⟨rfl, wm_497, wm_176, wm_177⟩))), List.forall_mem_cons.mpr ⟨Or.inl ⟨rfl, mX2_copy, 1, rfl, Or.inr ⟨"IceTunes", nm_1048⟩, wm_947, wm_43, by decide⟩, List.forall_mem_cons.mpr ⟨Or.inl ⟨rfl, mX3_arrange, 2, rfl, Or.inl wm_1049, wm_1051, wm_62, by decide⟩, List.forall_mem_cons.mpr ⟨Or.inr (Or.inr (Or.inr (Or.inr (Or.inl ⟨rfl, wm_1053, wm_951, wm_950, wm_168⟩)))), List.forall_mem_cons.mpr ⟨Or.inl ⟨rfl, mX0_playTune, 2, rfl, Or.inr ⟨"IceTunes", nm_1054⟩, wm_954, wm_44, by decide⟩, List.forall_mem_cons.mpr ⟨Or.inl ⟨rfl, mX0_stepAll, 1, rfl, Or.inr ⟨"IceTunes", nm_1098⟩, wm_962, wm_46, by decide⟩, List.forall_mem_cons.mpr ⟨Or.inl ⟨rfl, mX0_freeze, 3, rfl, Or.inr ⟨"IceTunes", nm_1099⟩, wm_976, wm_49, by decide⟩, List.forall_mem_cons.mpr ⟨Or.inl ⟨rfl, mX0_isTooHeavy, 2, rfl, Or.inr ⟨"IceTunes", nm_1100⟩, wm_1002, wm_54, by decide⟩, List.forall_mem_cons.mpr ⟨Or.inr (Or.inl ⟨rfl, mJ6_bitCount_0f7a4, 1, rfl, Or.inl wm_1101, wm_1056⟩), List.forall_mem_cons.mpr ⟨Or.inl ⟨rfl, mX3_listCells, 1, rfl, Or.inl wm_1102, wm_1104, wm_69, by decide⟩, List.forall_mem_cons.mpr ⟨Or.inl ⟨rfl, mX0_playBar, 3, rfl, Or.inr ⟨"IceTunes", nm_1114⟩, wm_958, wm_45, by decide⟩, List.forall_mem_cons.mpr ⟨Or.inl ⟨rfl, mX2_thicken, 1, rfl, Or.inr ⟨"IceTunes", nm_1123⟩, wm_1125, wm_72, by decide⟩, fm_nil⟩⟩⟩⟩⟩⟩⟩⟩⟩⟩⟩⟩
def pm3 : List (Nat × Nat × Nat) := pm3_0
theorem pm3_ok : ∀ q ∈ pm3, LKp3 q := pm3_0_ok
def LKp4 (q : Nat × Nat × Nat) : Prop := ((q.2.1 = 0 ∧ ∃ (M : pM) (na : Nat), GM[q.2.2]? = some (M, na) ∧ LnkOK RX4 q.1 M.2.1 ∧ Cond.instanceMethod M.2.1 ∈ wt ∧ Cond.selects M.2.1.cls M.2.1 M.2.1 ∈ wt ∧ M.1 < 12) ∨ (q.2.1 = 6 ∧ ∃ (M : pM) (na : Nat), GM[q.2.2]? = some (M, na) ∧ LnkOK RX4 q.1 M.2.1 ∧ Cond.static M.2.1 ∈ wt) ∨ (q.2.1 = 7 ∧ ∃ (M : pM) (na : Nat), GM[q.2.2]? = some (M, na) ∧ LnkOK RX4 q.1 M.2.1 ∧ Cond.instanceMethod M.2.1 ∈ wt ∧ M.2.2.2.2.1 = none) ∨ (q.2.1 = 2 ∧ Cond.methodLink RX4 q.1 Lib.objectInit ∈ wt ∧ Cond.instanceMethod Lib.objectInit ∈ wt ∧ Cond.code Lib.objectInit ⟨#[0xb1]⟩ 1 none ∈ wt) ∨ (q.2.1 = 1 ∧ Cond.methodLink RX4 q.1 arraycopyName ∈ wt ∧ Cond.native arraycopyName ∈ wt ∧ Cond.static arraycopyName ∈ wt ∧ Cond.initialized "java/lang/System" ∈ wt) ∨ (q.2.1 = 8 ∧ Cond.methodLink RX4 q.1 Lib.Math.max.name ∈ wt ∧ Cond.static Lib.Math.max.name ∈ wt ∧ Cond.initialized "java/lang/Math" ∈ wt ∧ Cond.code Lib.Math.max.name Lib.Math.max.code 2 (some .int) ∈ wt) ∨ (q.2.1 = 9 ∧ Cond.methodLink RX4 q.1 Lib.Math.min.name ∈ wt ∧ Cond.static Lib.Math.min.name ∈ wt ∧ Cond.initialized "java/lang/Math" ∈ wt ∧ Cond.code Lib.Math.min.name Lib.Math.min.code 2 (some .int) ∈ wt) ∨ (3 ≤ q.2.1 ∧ q.2.1 ≤ 5))
def pm4_0 : List (Nat × Nat × Nat) := [(3, (2, 0)), (15, (7, 18)), (23, (0, 33)), (30, (0, 20))]
theorem pm4_0_ok : ∀ q ∈ pm4_0, LKp4 q := List.forall_mem_cons.mpr ⟨Or.inr (Or.inr (Or.inr (Or.inl ⟨rfl, wm_395, wm_176, wm_177⟩))), List.forall_mem_cons.mpr ⟨Or.inr (Or.inr (Or.inl ⟨rfl, mX2_init, 0, rfl, Or.inr ⟨"IceTunes", nm_399⟩, wm_400, rfl⟩)), List.forall_mem_cons.mpr ⟨Or.inl ⟨rfl, mX4_now, 0, rfl, Or.inl wm_944, wm_580, wm_1, by decide⟩, List.forall_mem_cons.mpr ⟨Or.inl ⟨rfl, mX2_copy, 1, rfl, Or.inr ⟨"IceTunes", nm_945⟩, wm_947, wm_43, by decide⟩, fm_nil⟩⟩⟩⟩
def pm4 : List (Nat × Nat × Nat) := pm4_0
theorem pm4_ok : ∀ q ∈ pm4, LKp4 q := pm4_0_ok
def LKp5 (q : Nat × Nat × Nat) : Prop := ((q.2.1 = 0 ∧ ∃ (M : pM) (na : Nat), GM[q.2.2]? = some (M, na) ∧ LnkOK RX5 q.1 M.2.1 ∧ Cond.instanceMethod M.2.1 ∈ wt ∧ Cond.selects M.2.1.cls M.2.1 M.2.1 ∈ wt ∧ M.1 < 12) ∨ (q.2.1 = 6 ∧ ∃ (M : pM) (na : Nat), GM[q.2.2]? = some (M, na) ∧ LnkOK RX5 q.1 M.2.1 ∧ Cond.static M.2.1 ∈ wt) ∨ (q.2.1 = 7 ∧ ∃ (M : pM) (na : Nat), GM[q.2.2]? = some (M, na) ∧ LnkOK RX5 q.1 M.2.1 ∧ Cond.instanceMethod M.2.1 ∈ wt ∧ M.2.2.2.2.1 = none) ∨ (q.2.1 = 2 ∧ Cond.methodLink RX5 q.1 Lib.objectInit ∈ wt ∧ Cond.instanceMethod Lib.objectInit ∈ wt ∧ Cond.code Lib.objectInit ⟨#[0xb1]⟩ 1 none ∈ wt) ∨ (q.2.1 = 1 ∧ Cond.methodLink RX5 q.1 arraycopyName ∈ wt ∧ Cond.native arraycopyName ∈ wt ∧ Cond.static arraycopyName ∈ wt ∧ Cond.initialized "java/lang/System" ∈ wt) ∨ (q.2.1 = 8 ∧ Cond.methodLink RX5 q.1 Lib.Math.max.name ∈ wt ∧ Cond.static Lib.Math.max.name ∈ wt ∧ Cond.initialized "java/lang/Math" ∈ wt ∧ Cond.code Lib.Math.max.name Lib.Math.max.code 2 (some .int) ∈ wt) ∨ (q.2.1 = 9 ∧ Cond.methodLink RX5 q.1 Lib.Math.min.name ∈ wt ∧ Cond.static Lib.Math.min.name ∈ wt ∧ Cond.initialized "java/lang/Math" ∈ wt ∧ Cond.code Lib.Math.min.name Lib.Math.min.code 2 (some .int) ∈ wt) ∨ (3 ≤ q.2.1 ∧ q.2.1 ≤ 5))
def pm5_0 : List (Nat × Nat × Nat) := [(3, (2, 0)), (44, (0, 39)), (78, (0, 40))]
theorem pm5_0_ok : ∀ q ∈ pm5_0, LKp5 q := List.forall_mem_cons.mpr ⟨Or.inr (Or.inr (Or.inr (Or.inl ⟨rfl, wm_183, wm_176, wm_177⟩))), List.forall_mem_cons.mpr ⟨Or.inl ⟨rfl, mX5_clear, 0, rfl, Or.inl wm_184, wm_186, wm_0, by decide⟩, List.forall_mem_cons.mpr ⟨Or.inl ⟨rfl, mX5_hasCell, 2, rfl, Or.inl wm_973, wm_833, wm_21, by decide⟩, fm_nil⟩⟩⟩
def pm5 : List (Nat × Nat × Nat) := pm5_0
theorem pm5_ok : ∀ q ∈ pm5, LKp5 q := pm5_0_ok
def LKp6 (q : Nat × Nat × Nat) : Prop := ((q.2.1 = 0 ∧ ∃ (M : pM) (na : Nat), GM[q.2.2]? = some (M, na) ∧ LnkOK RX6 q.1 M.2.1 ∧ Cond.instanceMethod M.2.1 ∈ wt ∧ Cond.selects M.2.1.cls M.2.1 M.2.1 ∈ wt ∧ M.1 < 12) ∨ (q.2.1 = 6 ∧ ∃ (M : pM) (na : Nat), GM[q.2.2]? = some (M, na) ∧ LnkOK RX6 q.1 M.2.1 ∧ Cond.static M.2.1 ∈ wt) ∨ (q.2.1 = 7 ∧ ∃ (M : pM) (na : Nat), GM[q.2.2]? = some (M, na) ∧ LnkOK RX6 q.1 M.2.1 ∧ Cond.instanceMethod M.2.1 ∈ wt ∧ M.2.2.2.2.1 = none) ∨ (q.2.1 = 2 ∧ Cond.methodLink RX6 q.1 Lib.objectInit ∈ wt ∧ Cond.instanceMethod Lib.objectInit ∈ wt ∧ Cond.code Lib.objectInit ⟨#[0xb1]⟩ 1 none ∈ wt) ∨ (q.2.1 = 1 ∧ Cond.methodLink RX6 q.1 arraycopyName ∈ wt ∧ Cond.native arraycopyName ∈ wt ∧ Cond.static arraycopyName ∈ wt ∧ Cond.initialized "java/lang/System" ∈ wt) ∨ (q.2.1 = 8 ∧ Cond.methodLink RX6 q.1 Lib.Math.max.name ∈ wt ∧ Cond.static Lib.Math.max.name ∈ wt ∧ Cond.initialized "java/lang/Math" ∈ wt ∧ Cond.code Lib.Math.max.name Lib.Math.max.code 2 (some .int) ∈ wt) ∨ (q.2.1 = 9 ∧ Cond.methodLink RX6 q.1 Lib.Math.min.name ∈ wt ∧ Cond.static Lib.Math.min.name ∈ wt ∧ Cond.initialized "java/lang/Math" ∈ wt ∧ Cond.code Lib.Math.min.name Lib.Math.min.code 2 (some .int) ∈ wt) ∨ (3 ≤ q.2.1 ∧ q.2.1 ≤ 5))
def pm6_0 : List (Nat × Nat × Nat) := [(3, (2, 0)), (11, (7, 86)), (36, (0, 39)), (41, (0, 87)), (48, (0, 52)), (52, (0, 49)), (55, (0, 88)), (58, (0, 53)), (62, (0, 54)), (65, (0, 55)), (68, (0, 56)), (71, (0, 60)), (74, (0, 61)), (77, (0, 62)), (80, (0, 50)), (108, (0, 51)), (115, (0, 57)), (131, (0, 40)), (134, (0, 58)), (137, (0, 94)), (143, (0, 59)), (158, (0, 64)), (180, (0, 65)), (183, (0, 63)), (187, (0, 66))]
theorem pm6_0_ok : ∀ q ∈ pm6_0, LKp6 q := List.forall_mem_cons.mpr ⟨Or.inr (Or.inr (Or.inr (Or.inl ⟨rfl, wm_295, wm_176, wm_177⟩))), List.forall_mem_cons.mpr ⟨Or.inr (Or.inr (Or.inl ⟨rfl, mX9_init, 0, rfl, Or.inr ⟨"IceTunes", nm_298⟩, wm_299, rfl⟩)), List.forall_mem_cons.mpr ⟨Or.inl ⟨rfl, mX5_clear, 0, rfl, Or.inr ⟨"IceTunes", nm_659⟩, wm_186, wm_0, by decide⟩, List.forall_mem_cons.mpr ⟨Or.inl ⟨rfl, mX9_begin, 2, rfl, Or.inr ⟨"IceTunes", nm_660⟩, wm_662, wm_6, by decide⟩, List.forall_mem_cons.mpr ⟨Or.inl ⟨rfl, mX6_mayStand, 1, rfl, Or.inl wm_798, wm_800, wm_13, by decide⟩, List.forall_mem_cons.mpr ⟨Or.inl ⟨rfl, mX6_fail, 1, rfl, Or.inl wm_802, wm_804, wm_14, by decide⟩, List.forall_mem_cons.mpr ⟨Or.inl ⟨rfl, mX9_next, 0, rfl, Or.inr ⟨"IceTunes", nm_806⟩, wm_669, wm_7, by decide⟩, List.forall_mem_cons.mpr ⟨Or.inl ⟨rfl, mX6_readSize, 0, rfl, Or.inl wm_807, wm_809, wm_15, by decide⟩, List.forall_mem_cons.mpr ⟨Or.inl ⟨rfl, mX6_readAllIce, 0, rfl, Or.inl wm_819, wm_821, wm_18, by decide⟩, List.forall_mem_cons.mpr ⟨Or.inl ⟨rfl, mX6_readCell, 0, rfl, Or.inl wm_823, wm_825, wm_19, by decide⟩, List.forall_mem_cons.mpr ⟨Or.inl ⟨rfl, mX6_readPlank, 0, rfl, Or.inl wm_839, wm_841, wm_23, by decide⟩, List.forall_mem_cons.mpr ⟨Or.inl ⟨rfl, mX6_readTune, 0, rfl, Or.inl wm_843, wm_845, wm_24, by decide⟩, List.forall_mem_cons.mpr ⟨Or.inl ⟨rfl, mX6_readSilence, 0, rfl, Or.inl wm_886, wm_888, wm_34, by decide⟩, List.forall_mem_cons.mpr ⟨Or.inl ⟨rfl, mX6_readSkater, 0, rfl, Or.inl wm_890, wm_892, wm_35, by decide⟩, List.forall_mem_cons.mpr ⟨Or.inl ⟨rfl, mX6_take, 1, rfl, Or.inl wm_815, wm_817, wm_17, by decide⟩, List.forall_mem_cons.mpr ⟨Or.inl ⟨rfl, mX6_takeNumber, 2, rfl, Or.inl wm_811, wm_813, wm_16, by decide⟩, List.forall_mem_cons.mpr ⟨Or.inl ⟨rfl, mX6_takePlace, 1, rfl, Or.inl wm_827, wm_829, wm_20, by decide⟩, List.forall_mem_cons.mpr ⟨Or.inl ⟨rfl, mX5_hasCell, 2, rfl, Or.inr ⟨"IceTunes", nm_831⟩, wm_833, wm_21, by decide⟩, List.forall_mem_cons.mpr ⟨Or.inl ⟨rfl, mX6_isToldAlready, 2, rfl, Or.inl wm_835, wm_837, wm_22, by decide⟩, List.forall_mem_cons.mpr ⟨Or.inl ⟨rfl, mX9_isSameWord, 2, rfl, Or.inr ⟨"IceTunes", nm_851⟩, wm_853, wm_26, by decide⟩, List.forall_mem_cons.mpr ⟨Or.inl ⟨rfl, mX6_takeName, 2, rfl, Or.inl wm_847, wm_849, wm_25, by decide⟩, List.forall_mem_cons.mpr ⟨Or.inl ⟨rfl, mX6_readFormula, 1, rfl, Or.inl wm_855, wm_857, wm_27, by decide⟩, List.forall_mem_cons.mpr ⟨Or.inl ⟨rfl, mX6_readBoth, 1, rfl, Or.inl wm_859, wm_861, wm_28, by decide⟩, List.forall_mem_cons.mpr ⟨Or.inl ⟨rfl, mX6_putCode, 1, rfl, Or.inl wm_867, wm_869, wm_30, by decide⟩, List.forall_mem_cons.mpr ⟨Or.inl ⟨rfl, mX6_readOne, 1, rfl, Or.inl wm_863, wm_865, wm_29, by decide⟩, fm_nil⟩⟩⟩⟩⟩⟩⟩⟩⟩⟩⟩⟩⟩⟩⟩⟩⟩⟩⟩⟩⟩⟩⟩⟩⟩
def pm6_1 : List (Nat × Nat × Nat) := [(190, (0, 67)), (193, (0, 68)), (196, (0, 70)), (199, (6, 69))]
theorem pm6_1_ok : ∀ q ∈ pm6_1, LKp6 q := List.forall_mem_cons.mpr ⟨Or.inl ⟨rfl, mX6_readSum, 1, rfl, Or.inl wm_871, wm_873, wm_31, by decide⟩, List.forall_mem_cons.mpr ⟨Or.inl ⟨rfl, mX6_readTerm, 1, rfl, Or.inl wm_875, wm_877, wm_32, by decide⟩, List.forall_mem_cons.mpr ⟨Or.inl ⟨rfl, mX6_readUnit, 1, rfl, Or.inl wm_879, wm_881, wm_33, by decide⟩, List.forall_mem_cons.mpr ⟨Or.inr (Or.inl ⟨rfl, mX6_isTermSign, 1, rfl, Or.inl wm_883, wm_884⟩), fm_nil⟩⟩⟩⟩
def pm6 : List (Nat × Nat × Nat) := pm6_0 ++ pm6_1
theorem pm6_ok : ∀ q ∈ pm6, LKp6 q := fun q h => (List.mem_append.mp h).elim (pm6_0_ok q) (pm6_1_ok q)
def LKp7 (q : Nat × Nat × Nat) : Prop := ((q.2.1 = 0 ∧ ∃ (M : pM) (na : Nat), GM[q.2.2]? = some (M, na) ∧ LnkOK RX7 q.1 M.2.1 ∧ Cond.instanceMethod M.2.1 ∈ wt ∧ Cond.selects M.2.1.cls M.2.1 M.2.1 ∈ wt ∧ M.1 < 12) ∨ (q.2.1 = 6 ∧ ∃ (M : pM) (na : Nat), GM[q.2.2]? = some (M, na) ∧ LnkOK RX7 q.1 M.2.1 ∧ Cond.static M.2.1 ∈ wt) ∨ (q.2.1 = 7 ∧ ∃ (M : pM) (na : Nat), GM[q.2.2]? = some (M, na) ∧ LnkOK RX7 q.1 M.2.1 ∧ Cond.instanceMethod M.2.1 ∈ wt ∧ M.2.2.2.2.1 = none) ∨ (q.2.1 = 2 ∧ Cond.methodLink RX7 q.1 Lib.objectInit ∈ wt ∧ Cond.instanceMethod Lib.objectInit ∈ wt ∧ Cond.code Lib.objectInit ⟨#[0xb1]⟩ 1 none ∈ wt) ∨ (q.2.1 = 1 ∧ Cond.methodLink RX7 q.1 arraycopyName ∈ wt ∧ Cond.native arraycopyName ∈ wt ∧ Cond.static arraycopyName ∈ wt ∧ Cond.initialized "java/lang/System" ∈ wt) ∨ (q.2.1 = 8 ∧ Cond.methodLink RX7 q.1 Lib.Math.max.name ∈ wt ∧ Cond.static Lib.Math.max.name ∈ wt ∧ Cond.initialized "java/lang/Math" ∈ wt ∧ Cond.code Lib.Math.max.name Lib.Math.max.code 2 (some .int) ∈ wt) ∨ (q.2.1 = 9 ∧ Cond.methodLink RX7 q.1 Lib.Math.min.name ∈ wt ∧ Cond.static Lib.Math.min.name ∈ wt ∧ Cond.initialized "java/lang/Math" ∈ wt ∧ Cond.code Lib.Math.min.name Lib.Math.min.code 2 (some .int) ∈ wt) ∨ (3 ≤ q.2.1 ∧ q.2.1 ≤ 5))
def pm7_0 : List (Nat × Nat × Nat) := [(3, (2, 0)), (43, (0, 83)), (57, (0, 19)), (63, (0, 73)), (70, (0, 75)), (76, (0, 20)), (80, (0, 74)), (86, (0, 3)), (90, (0, 84))]
theorem pm7_0_ok : ∀ q ∈ pm7_0, LKp7 q := List.forall_mem_cons.mpr ⟨Or.inr (Or.inr (Or.inr (Or.inl ⟨rfl, wm_544, wm_176, wm_177⟩))), List.forall_mem_cons.mpr ⟨Or.inl ⟨rfl, mX8_lastBar, 1, rfl, Or.inr ⟨"IceTunes", nm_1177⟩, wm_1179, wm_78, by decide⟩, List.forall_mem_cons.mpr ⟨Or.inl ⟨rfl, mX2_begin, 1, rfl, Or.inr ⟨"IceTunes", nm_1186⟩, wm_584, wm_2, by decide⟩, List.forall_mem_cons.mpr ⟨Or.inl ⟨rfl, mX7_extend, 1, rfl, Or.inl wm_1187, wm_1189, wm_80, by decide⟩, List.forall_mem_cons.mpr ⟨Or.inl ⟨rfl, mX7_takeRow, 0, rfl, Or.inl wm_1191, wm_1193, wm_81, by decide⟩, List.forall_mem_cons.mpr ⟨Or.inl ⟨rfl, mX2_copy, 1, rfl, Or.inr ⟨"IceTunes", nm_1195⟩, wm_947, wm_43, by decide⟩, List.forall_mem_cons.mpr ⟨Or.inl ⟨rfl, mX7_playsAsSeen, 2, rfl, Or.inl wm_1196, wm_1198, wm_82, by decide⟩, List.forall_mem_cons.mpr ⟨Or.inl ⟨rfl, mX0_playBar, 3, rfl, Or.inr ⟨"IceTunes", nm_1200⟩, wm_958, wm_45, by decide⟩, List.forall_mem_cons.mpr ⟨Or.inl ⟨rfl, mX8_areSo, 2, rfl, Or.inr ⟨"IceTunes", nm_1201⟩, wm_1203, wm_83, by decide⟩, fm_nil⟩⟩⟩⟩⟩⟩⟩⟩⟩
def pm7 : List (Nat × Nat × Nat) := pm7_0
theorem pm7_ok : ∀ q ∈ pm7, LKp7 q := pm7_0_ok
def LKp8 (q : Nat × Nat × Nat) : Prop := ((q.2.1 = 0 ∧ ∃ (M : pM) (na : Nat), GM[q.2.2]? = some (M, na) ∧ LnkOK RX8 q.1 M.2.1 ∧ Cond.instanceMethod M.2.1 ∈ wt ∧ Cond.selects M.2.1.cls M.2.1 M.2.1 ∈ wt ∧ M.1 < 12) ∨ (q.2.1 = 6 ∧ ∃ (M : pM) (na : Nat), GM[q.2.2]? = some (M, na) ∧ LnkOK RX8 q.1 M.2.1 ∧ Cond.static M.2.1 ∈ wt) ∨ (q.2.1 = 7 ∧ ∃ (M : pM) (na : Nat), GM[q.2.2]? = some (M, na) ∧ LnkOK RX8 q.1 M.2.1 ∧ Cond.instanceMethod M.2.1 ∈ wt ∧ M.2.2.2.2.1 = none) ∨ (q.2.1 = 2 ∧ Cond.methodLink RX8 q.1 Lib.objectInit ∈ wt ∧ Cond.instanceMethod Lib.objectInit ∈ wt ∧ Cond.code Lib.objectInit ⟨#[0xb1]⟩ 1 none ∈ wt) ∨ (q.2.1 = 1 ∧ Cond.methodLink RX8 q.1 arraycopyName ∈ wt ∧ Cond.native arraycopyName ∈ wt ∧ Cond.static arraycopyName ∈ wt ∧ Cond.initialized "java/lang/System" ∈ wt) ∨ (q.2.1 = 8 ∧ Cond.methodLink RX8 q.1 Lib.Math.max.name ∈ wt ∧ Cond.static Lib.Math.max.name ∈ wt ∧ Cond.initialized "java/lang/Math" ∈ wt ∧ Cond.code Lib.Math.max.name Lib.Math.max.code 2 (some .int) ∈ wt) ∨ (q.2.1 = 9 ∧ Cond.methodLink RX8 q.1 Lib.Math.min.name ∈ wt ∧ Cond.static Lib.Math.min.name ∈ wt ∧ Cond.initialized "java/lang/Math" ∈ wt ∧ Cond.code Lib.Math.min.name Lib.Math.min.code 2 (some .int) ∈ wt) ∨ (3 ≤ q.2.1 ∧ q.2.1 ≤ 5))
def pm8_0 : List (Nat × Nat × Nat) := [(3, (2, 0)), (37, (0, 80)), (41, (0, 82)), (45, (8, 0)), (56, (0, 85)), (60, (0, 21))]
theorem pm8_0_ok : ∀ q ∈ pm8_0, LKp8 q := List.forall_mem_cons.mpr ⟨Or.inr (Or.inr (Or.inr (Or.inl ⟨rfl, wm_464, wm_176, wm_177⟩))), List.forall_mem_cons.mpr ⟨Or.inl ⟨rfl, mX8_tell, 4, rfl, Or.inl wm_1144, wm_1146, wm_74, by decide⟩, List.forall_mem_cons.mpr ⟨Or.inl ⟨rfl, mX8_isKnown, 2, rfl, Or.inl wm_1181, wm_1183, wm_79, by decide⟩, List.forall_mem_cons.mpr ⟨Or.inr (Or.inr (Or.inr (Or.inr (Or.inr (Or.inl ⟨rfl, wm_1185, wm_757, wm_162, wm_758⟩))))), List.forall_mem_cons.mpr ⟨Or.inl ⟨rfl, mX8_isSo, 2, rfl, Or.inl wm_1205, wm_1207, wm_84, by decide⟩, List.forall_mem_cons.mpr ⟨Or.inl ⟨rfl, mX2_isUp, 1, rfl, Or.inr ⟨"IceTunes", nm_1209⟩, wm_921, wm_39, by decide⟩, fm_nil⟩⟩⟩⟩⟩⟩
def pm8 : List (Nat × Nat × Nat) := pm8_0
theorem pm8_ok : ∀ q ∈ pm8, LKp8 q := pm8_0_ok
def LKp9 (q : Nat × Nat × Nat) : Prop := ((q.2.1 = 0 ∧ ∃ (M : pM) (na : Nat), GM[q.2.2]? = some (M, na) ∧ LnkOK RX9 q.1 M.2.1 ∧ Cond.instanceMethod M.2.1 ∈ wt ∧ Cond.selects M.2.1.cls M.2.1 M.2.1 ∈ wt ∧ M.1 < 12) ∨ (q.2.1 = 6 ∧ ∃ (M : pM) (na : Nat), GM[q.2.2]? = some (M, na) ∧ LnkOK RX9 q.1 M.2.1 ∧ Cond.static M.2.1 ∈ wt) ∨ (q.2.1 = 7 ∧ ∃ (M : pM) (na : Nat), GM[q.2.2]? = some (M, na) ∧ LnkOK RX9 q.1 M.2.1 ∧ Cond.instanceMethod M.2.1 ∈ wt ∧ M.2.2.2.2.1 = none) ∨ (q.2.1 = 2 ∧ Cond.methodLink RX9 q.1 Lib.objectInit ∈ wt ∧ Cond.instanceMethod Lib.objectInit ∈ wt ∧ Cond.code Lib.objectInit ⟨#[0xb1]⟩ 1 none ∈ wt) ∨ (q.2.1 = 1 ∧ Cond.methodLink RX9 q.1 arraycopyName ∈ wt ∧ Cond.native arraycopyName ∈ wt ∧ Cond.static arraycopyName ∈ wt ∧ Cond.initialized "java/lang/System" ∈ wt) ∨ (q.2.1 = 8 ∧ Cond.methodLink RX9 q.1 Lib.Math.max.name ∈ wt ∧ Cond.static Lib.Math.max.name ∈ wt ∧ Cond.initialized "java/lang/Math" ∈ wt ∧ Cond.code Lib.Math.max.name Lib.Math.max.code 2 (some .int) ∈ wt) ∨ (q.2.1 = 9 ∧ Cond.methodLink RX9 q.1 Lib.Math.min.name ∈ wt ∧ Cond.static Lib.Math.min.name ∈ wt ∧ Cond.initialized "java/lang/Math" ∈ wt ∧ Cond.code Lib.Math.min.name Lib.Math.min.code 2 (some .int) ∈ wt) ∨ (3 ≤ q.2.1 ∧ q.2.1 ≤ 5))
def pm9_0 : List (Nat × Nat × Nat) := [(1, (2, 0)), (13, (9, 0)), (26, (0, 88)), (35, (0, 89)), (39, (0, 91)), (42, (0, 90)), (45, (0, 93)), (50, (5, 0)), (56, (0, 92)), (62, (3, 0)), (64, (4, 0))]
theorem pm9_0_ok : ∀ q ∈ pm9_0, LKp9 q := List.forall_mem_cons.mpr ⟨Or.inr (Or.inr (Or.inr (Or.inl ⟨rfl, wm_301, wm_176, wm_177⟩))), List.forall_mem_cons.mpr ⟨Or.inr (Or.inr (Or.inr (Or.inr (Or.inr (Or.inr <| Or.inl ⟨rfl, wm_664, wm_665, wm_162, wm_666⟩))))), List.forall_mem_cons.mpr ⟨Or.inl ⟨rfl, mX9_next, 0, rfl, Or.inl wm_667, wm_669, wm_7, by decide⟩, List.forall_mem_cons.mpr ⟨Or.inl ⟨rfl, mX9_isLetter, 1, rfl, Or.inl wm_671, wm_673, wm_8, by decide⟩, List.forall_mem_cons.mpr ⟨Or.inl ⟨rfl, mX9_takeWord, 0, rfl, Or.inl wm_675, wm_677, wm_9, by decide⟩, List.forall_mem_cons.mpr ⟨Or.inl ⟨rfl, mX9_isDigit, 1, rfl, Or.inl wm_732, wm_734, wm_11, by decide⟩, List.forall_mem_cons.mpr ⟨Or.inl ⟨rfl, mX9_takeNumber, 0, rfl, Or.inl wm_736, wm_738, wm_12, by decide⟩, List.forall_mem_cons.mpr ⟨Or.inr (Or.inr (Or.inr (Or.inr (Or.inr (Or.inr (Or.inr (by decide))))))), List.forall_mem_cons.mpr ⟨Or.inl ⟨rfl, mX9_kindOfWord, 0, rfl, Or.inl wm_679, wm_681, wm_10, by decide⟩, List.forall_mem_cons.mpr ⟨Or.inr (Or.inr (Or.inr (Or.inr (Or.inr (Or.inr (Or.inr (by decide))))))), List.forall_mem_cons.mpr ⟨Or.inr (Or.inr (Or.inr (Or.inr (Or.inr (Or.inr (Or.inr (by decide))))))), fm_nil⟩⟩⟩⟩⟩⟩⟩⟩⟩⟩⟩
def pm9 : List (Nat × Nat × Nat) := pm9_0
theorem pm9_ok : ∀ q ∈ pm9, LKp9 q := pm9_0_ok
def LKp10 (q : Nat × Nat × Nat) : Prop := ((q.2.1 = 0 ∧ ∃ (M : pM) (na : Nat), GM[q.2.2]? = some (M, na) ∧ LnkOK RX10 q.1 M.2.1 ∧ Cond.instanceMethod M.2.1 ∈ wt ∧ Cond.selects M.2.1.cls M.2.1 M.2.1 ∈ wt ∧ M.1 < 12) ∨ (q.2.1 = 6 ∧ ∃ (M : pM) (na : Nat), GM[q.2.2]? = some (M, na) ∧ LnkOK RX10 q.1 M.2.1 ∧ Cond.static M.2.1 ∈ wt) ∨ (q.2.1 = 7 ∧ ∃ (M : pM) (na : Nat), GM[q.2.2]? = some (M, na) ∧ LnkOK RX10 q.1 M.2.1 ∧ Cond.instanceMethod M.2.1 ∈ wt ∧ M.2.2.2.2.1 = none) ∨ (q.2.1 = 2 ∧ Cond.methodLink RX10 q.1 Lib.objectInit ∈ wt ∧ Cond.instanceMethod Lib.objectInit ∈ wt ∧ Cond.code Lib.objectInit ⟨#[0xb1]⟩ 1 none ∈ wt) ∨ (q.2.1 = 1 ∧ Cond.methodLink RX10 q.1 arraycopyName ∈ wt ∧ Cond.native arraycopyName ∈ wt ∧ Cond.static arraycopyName ∈ wt ∧ Cond.initialized "java/lang/System" ∈ wt) ∨ (q.2.1 = 8 ∧ Cond.methodLink RX10 q.1 Lib.Math.max.name ∈ wt ∧ Cond.static Lib.Math.max.name ∈ wt ∧ Cond.initialized "java/lang/Math" ∈ wt ∧ Cond.code Lib.Math.max.name Lib.Math.max.code 2 (some .int) ∈ wt) ∨ (q.2.1 = 9 ∧ Cond.methodLink RX10 q.1 Lib.Math.min.name ∈ wt ∧ Cond.static Lib.Math.min.name ∈ wt ∧ Cond.initialized "java/lang/Math" ∈ wt ∧ Cond.code Lib.Math.min.name Lib.Math.min.code 2 (some .int) ∈ wt) ∨ (3 ≤ q.2.1 ∧ q.2.1 ≤ 5))
def pm10_0 : List (Nat × Nat × Nat) := [(3, (2, 0)), (15, (7, 38)), (25, (7, 47)), (32, (7, 0)), (41, (7, 32)), (58, (7, 76)), (67, (7, 18)), (70, (7, 25)), (79, (7, 13)), (86, (7, 71)), (93, (0, 33)), (97, (0, 19)), (104, (0, 97)), (108, (0, 48)), (115, (0, 37)), (118, (0, 77)), (136, (0, 40)), (143, (0, 23)), (147, (0, 43)), (154, (0, 21)), (166, (0, 41)), (174, (0, 34)), (177, (0, 1)), (181, (0, 22)), (185, (0, 2))]
theorem pm10_0_ok : ∀ q ∈ pm10_0, LKp10 q := List.forall_mem_cons.mpr ⟨Or.inr (Or.inr (Or.inr (Or.inl ⟨rfl, wm_175, wm_176, wm_177⟩))), List.forall_mem_cons.mpr ⟨Or.inr (Or.inr (Or.inl ⟨rfl, mX5_init, 0, rfl, Or.inr ⟨"IceTunes", nm_180⟩, wm_181, rfl⟩)), List.forall_mem_cons.mpr ⟨Or.inr (Or.inr (Or.inl ⟨rfl, mX6_init, 0, rfl, Or.inr ⟨"IceTunes", nm_292⟩, wm_293, rfl⟩)), List.forall_mem_cons.mpr ⟨Or.inr (Or.inr (Or.inl ⟨rfl, mX0_init, 1, rfl, Or.inr ⟨"IceTunes", nm_357⟩, wm_358, rfl⟩)), List.forall_mem_cons.mpr ⟨Or.inr (Or.inr (Or.inl ⟨rfl, mX4_init, 0, rfl, Or.inr ⟨"IceTunes", nm_392⟩, wm_393, rfl⟩)), List.forall_mem_cons.mpr ⟨Or.inr (Or.inr (Or.inl ⟨rfl, mX8_init, 0, rfl, Or.inr ⟨"IceTunes", nm_461⟩, wm_462, rfl⟩)), List.forall_mem_cons.mpr ⟨Or.inr (Or.inr (Or.inl ⟨rfl, mX2_init, 0, rfl, Or.inr ⟨"IceTunes", nm_491⟩, wm_400, rfl⟩)), List.forall_mem_cons.mpr ⟨Or.inr (Or.inr (Or.inl ⟨rfl, mX3_init, 2, rfl, Or.inr ⟨"IceTunes", nm_494⟩, wm_495, rfl⟩)), List.forall_mem_cons.mpr ⟨Or.inr (Or.inr (Or.inl ⟨rfl, mX1_init, 2, rfl, Or.inr ⟨"IceTunes", nm_518⟩, wm_519, rfl⟩)), List.forall_mem_cons.mpr ⟨Or.inr (Or.inr (Or.inl ⟨rfl, mX7_init, 3, rfl, Or.inr ⟨"IceTunes", nm_541⟩, wm_542, rfl⟩)), List.forall_mem_cons.mpr ⟨Or.inl ⟨rfl, mX4_now, 0, rfl, Or.inr ⟨"IceTunes", nm_578⟩, wm_580, wm_1, by decide⟩, List.forall_mem_cons.mpr ⟨Or.inl ⟨rfl, mX2_begin, 1, rfl, Or.inr ⟨"IceTunes", nm_582⟩, wm_584, wm_2, by decide⟩, List.forall_mem_cons.mpr ⟨Or.inl ⟨rfl, mX10_tapeNumber, 1, rfl, Or.inl wm_643, wm_645, wm_4, by decide⟩, List.forall_mem_cons.mpr ⟨Or.inl ⟨rfl, mX6_read, 3, rfl, Or.inr ⟨"IceTunes", nm_655⟩, wm_657, wm_5, by decide⟩, List.forall_mem_cons.mpr ⟨Or.inl ⟨rfl, mX4_forget, 0, rfl, Or.inr ⟨"IceTunes", nm_894⟩, wm_896, wm_36, by decide⟩, List.forall_mem_cons.mpr ⟨Or.inl ⟨rfl, mX8_clear, 0, rfl, Or.inr ⟨"IceTunes", nm_898⟩, wm_900, wm_37, by decide⟩, List.forall_mem_cons.mpr ⟨Or.inl ⟨rfl, mX5_hasCell, 2, rfl, Or.inr ⟨"IceTunes", nm_910⟩, wm_833, wm_21, by decide⟩, List.forall_mem_cons.mpr ⟨Or.inl ⟨rfl, mX2_loadOf, 2, rfl, Or.inr ⟨"IceTunes", nm_915⟩, wm_917, wm_38, by decide⟩, List.forall_mem_cons.mpr ⟨Or.inl ⟨rfl, mX5_hasSkater, 1, rfl, Or.inr ⟨"IceTunes", nm_927⟩, wm_929, wm_40, by decide⟩, List.forall_mem_cons.mpr ⟨Or.inl ⟨rfl, mX2_isUp, 1, rfl, Or.inr ⟨"IceTunes", nm_931⟩, wm_921, wm_39, by decide⟩, List.forall_mem_cons.mpr ⟨Or.inl ⟨rfl, mX5_hasTune, 1, rfl, Or.inr ⟨"IceTunes", nm_936⟩, wm_938, wm_41, by decide⟩, List.forall_mem_cons.mpr ⟨Or.inl ⟨rfl, mX4_goOn, 0, rfl, Or.inr ⟨"IceTunes", nm_940⟩, wm_942, wm_42, by decide⟩, List.forall_mem_cons.mpr ⟨Or.inl ⟨rfl, mX0_playTune, 2, rfl, Or.inr ⟨"IceTunes", nm_952⟩, wm_954, wm_44, by decide⟩, List.forall_mem_cons.mpr ⟨Or.inl ⟨rfl, mX2_countUp, 1, rfl, Or.inr ⟨"IceTunes", nm_1008⟩, wm_1010, wm_56, by decide⟩, List.forall_mem_cons.mpr ⟨Or.inl ⟨rfl, mX0_keepSilence, 2, rfl, Or.inr ⟨"IceTunes", nm_1016⟩, wm_1018, wm_57, by decide⟩, fm_nil⟩⟩⟩⟩⟩⟩⟩⟩⟩⟩⟩⟩⟩⟩⟩⟩⟩⟩⟩⟩⟩⟩⟩⟩⟩
def pm10_1 : List (Nat × Nat × Nat) := [(188, (0, 35)), (192, (0, 36)), (195, (0, 42)), (198, (0, 26)), (205, (6, 222)), (211, (0, 114)), (215, (0, 14)), (222, (0, 28)), (225, (0, 30)), (231, (0, 31)), (234, (6, 117)), (240, (0, 78)), (244, (0, 79)), (248, (0, 81)), (252, (0, 72)), (262, (0, 20))]
theorem pm10_1_ok : ∀ q ∈ pm10_1, LKp10 q := List.forall_mem_cons.mpr ⟨Or.inl ⟨rfl, mX4_takeBack, 0, rfl, Or.inr ⟨"IceTunes", nm_1024⟩, wm_1026, wm_58, by decide⟩, List.forall_mem_cons.mpr ⟨Or.inl ⟨rfl, mX4_doAgain, 0, rfl, Or.inr ⟨"IceTunes", nm_1032⟩, wm_1034, wm_59, by decide⟩, List.forall_mem_cons.mpr ⟨Or.inl ⟨rfl, mX5_hasTunes, 1, rfl, Or.inr ⟨"IceTunes", nm_1040⟩, wm_1042, wm_60, by decide⟩, List.forall_mem_cons.mpr ⟨Or.inl ⟨rfl, mX3_fewestIn, 2, rfl, Or.inr ⟨"IceTunes", nm_1044⟩, wm_1046, wm_61, by decide⟩, List.forall_mem_cons.mpr ⟨Or.inr (Or.inl ⟨rfl, mJ6_bitCount_0f7a4, 1, rfl, Or.inl wm_1055, wm_1056⟩), List.forall_mem_cons.mpr ⟨Or.inl ⟨rfl, mX10_layDown, 2, rfl, Or.inl wm_1061, wm_1063, wm_63, by decide⟩, List.forall_mem_cons.mpr ⟨Or.inl ⟨rfl, mX1_mostUp, 3, rfl, Or.inr ⟨"IceTunes", nm_1069⟩, wm_1071, wm_64, by decide⟩, List.forall_mem_cons.mpr ⟨Or.inl ⟨rfl, mX3_fewestPlanks, 2, rfl, Or.inr ⟨"IceTunes", nm_1094⟩, wm_1096, wm_68, by decide⟩, List.forall_mem_cons.mpr ⟨Or.inl ⟨rfl, mX3_bestSilence, 2, rfl, Or.inr ⟨"IceTunes", nm_1110⟩, wm_1112, wm_70, by decide⟩, List.forall_mem_cons.mpr ⟨Or.inl ⟨rfl, mX3_firstBreak, 3, rfl, Or.inr ⟨"IceTunes", nm_1119⟩, wm_1121, wm_71, by decide⟩, List.forall_mem_cons.mpr ⟨Or.inr (Or.inl ⟨rfl, mX10_isSightBar, 1, rfl, Or.inl wm_1137, wm_1138⟩), List.forall_mem_cons.mpr ⟨Or.inl ⟨rfl, mX8_tellIce, 5, rfl, Or.inr ⟨"IceTunes", nm_1140⟩, wm_1142, wm_73, by decide⟩, List.forall_mem_cons.mpr ⟨Or.inl ⟨rfl, mX8_tellSkater, 4, rfl, Or.inr ⟨"IceTunes", nm_1152⟩, wm_1154, wm_75, by decide⟩, List.forall_mem_cons.mpr ⟨Or.inl ⟨rfl, mX8_takeAway, 2, rfl, Or.inr ⟨"IceTunes", nm_1160⟩, wm_1162, wm_76, by decide⟩, List.forall_mem_cons.mpr ⟨Or.inl ⟨rfl, mX7_count, 2, rfl, Or.inr ⟨"IceTunes", nm_1173⟩, wm_1175, wm_77, by decide⟩, List.forall_mem_cons.mpr ⟨Or.inl ⟨rfl, mX2_copy, 1, rfl, Or.inr ⟨"IceTunes", nm_1218⟩, wm_947, wm_43, by decide⟩, fm_nil⟩⟩⟩⟩⟩⟩⟩⟩⟩⟩⟩⟩⟩⟩⟩⟩
def pm10 : List (Nat × Nat × Nat) := pm10_0 ++ pm10_1
theorem pm10_ok : ∀ q ∈ pm10, LKp10 q := fun q h => (List.mem_append.mp h).elim (pm10_0_ok q) (pm10_1_ok q)
def LKp11 (q : Nat × Nat × Nat) : Prop := ((q.2.1 = 0 ∧ ∃ (M : pM) (na : Nat), GM[q.2.2]? = some (M, na) ∧ LnkOK RX11 q.1 M.2.1 ∧ Cond.instanceMethod M.2.1 ∈ wt ∧ Cond.selects M.2.1.cls M.2.1 M.2.1 ∈ wt ∧ M.1 < 12) ∨ (q.2.1 = 6 ∧ ∃ (M : pM) (na : Nat), GM[q.2.2]? = some (M, na) ∧ LnkOK RX11 q.1 M.2.1 ∧ Cond.static M.2.1 ∈ wt) ∨ (q.2.1 = 7 ∧ ∃ (M : pM) (na : Nat), GM[q.2.2]? = some (M, na) ∧ LnkOK RX11 q.1 M.2.1 ∧ Cond.instanceMethod M.2.1 ∈ wt ∧ M.2.2.2.2.1 = none) ∨ (q.2.1 = 2 ∧ Cond.methodLink RX11 q.1 Lib.objectInit ∈ wt ∧ Cond.instanceMethod Lib.objectInit ∈ wt ∧ Cond.code Lib.objectInit ⟨#[0xb1]⟩ 1 none ∈ wt) ∨ (q.2.1 = 1 ∧ Cond.methodLink RX11 q.1 arraycopyName ∈ wt ∧ Cond.native arraycopyName ∈ wt ∧ Cond.static arraycopyName ∈ wt ∧ Cond.initialized "java/lang/System" ∈ wt) ∨ (q.2.1 = 8 ∧ Cond.methodLink RX11 q.1 Lib.Math.max.name ∈ wt ∧ Cond.static Lib.Math.max.name ∈ wt ∧ Cond.initialized "java/lang/Math" ∈ wt ∧ Cond.code Lib.Math.max.name Lib.Math.max.code 2 (some .int) ∈ wt) ∨ (q.2.1 = 9 ∧ Cond.methodLink RX11 q.1 Lib.Math.min.name ∈ wt ∧ Cond.static Lib.Math.min.name ∈ wt ∧ Cond.initialized "java/lang/Math" ∈ wt ∧ Cond.code Lib.Math.min.name Lib.Math.min.code 2 (some .int) ∈ wt) ∨ (3 ≤ q.2.1 ∧ q.2.1 ≤ 5))
def pm11_0 : List (Nat × Nat × Nat) := [(1, (2, 0)), (164, (0, 140)), (167, (0, 170)), (226, (0, 126)), (233, (6, 127)), (241, (6, 131)), (245, (6, 128)), (251, (6, 132)), (254, (0, 129)), (258, (0, 130)), (262, (0, 133)), (265, (0, 136)), (268, (0, 135)), (271, (0, 137)), (275, (0, 138)), (291, (0, 143)), (300, (0, 142)), (303, (0, 139)), (307, (0, 144)), (310, (0, 145)), (313, (0, 148)), (316, (0, 151)), (320, (0, 150)), (323, (0, 134)), (326, (0, 146))]
theorem pm11_0_ok : ∀ q ∈ pm11_0, LKp11 q := List.forall_mem_cons.mpr ⟨Or.inr (Or.inr (Or.inr (Or.inl ⟨rfl, wm_1232, wm_176, wm_177⟩))), List.forall_mem_cons.mpr ⟨Or.inl ⟨rfl, mX11_clearBank, 0, rfl, Or.inl wm_1233, wm_1235, wm_85, by decide⟩, List.forall_mem_cons.mpr ⟨Or.inl ⟨rfl, mX11_begin, 0, rfl, Or.inl wm_1237, wm_1239, wm_86, by decide⟩, List.forall_mem_cons.mpr ⟨Or.inl ⟨rfl, mX11_sign, 1, rfl, Or.inl wm_1472, wm_1474, wm_90, by decide⟩, List.forall_mem_cons.mpr ⟨Or.inr (Or.inl ⟨rfl, mX11_isLetter, 1, rfl, Or.inl wm_1476, wm_1477⟩), List.forall_mem_cons.mpr ⟨Or.inr (Or.inl ⟨rfl, mX11_isKept, 1, rfl, Or.inl wm_1479, wm_1480⟩), List.forall_mem_cons.mpr ⟨Or.inr (Or.inl ⟨rfl, mX11_isDigit, 1, rfl, Or.inl wm_1504, wm_1505⟩), List.forall_mem_cons.mpr ⟨Or.inr (Or.inl ⟨rfl, mX11_isSign, 1, rfl, Or.inl wm_1507, wm_1508⟩), List.forall_mem_cons.mpr ⟨Or.inl ⟨rfl, mX11_fails, 2, rfl, Or.inl wm_1530, wm_1532, wm_96, by decide⟩, List.forall_mem_cons.mpr ⟨Or.inl ⟨rfl, mX11_isGood, 0, rfl, Or.inl wm_1510, wm_1512, wm_91, by decide⟩, List.forall_mem_cons.mpr ⟨Or.inl ⟨rfl, mX11_goOn, 0, rfl, Or.inl wm_1468, wm_1470, wm_89, by decide⟩, List.forall_mem_cons.mpr ⟨Or.inl ⟨rfl, mX11_misplaced, 0, rfl, Or.inl wm_1526, wm_1528, wm_95, by decide⟩, List.forall_mem_cons.mpr ⟨Or.inl ⟨rfl, mX11_isWord, 1, rfl, Or.inl wm_1522, wm_1524, wm_94, by decide⟩, List.forall_mem_cons.mpr ⟨Or.inl ⟨rfl, mX11_must, 1, rfl, Or.inl wm_1542, wm_1544, wm_99, by decide⟩, List.forall_mem_cons.mpr ⟨Or.inl ⟨rfl, mX11_numeral, 2, rfl, Or.inl wm_1534, wm_1536, wm_97, by decide⟩, List.forall_mem_cons.mpr ⟨Or.inl ⟨rfl, mX11_readLine, 0, rfl, Or.inl wm_1514, wm_1516, wm_92, by decide⟩, List.forall_mem_cons.mpr ⟨Or.inl ⟨rfl, mX11_isFull, 0, rfl, Or.inl wm_1518, wm_1520, wm_93, by decide⟩, List.forall_mem_cons.mpr ⟨Or.inl ⟨rfl, mX11_after, 3, rfl, Or.inl wm_1538, wm_1540, wm_98, by decide⟩, List.forall_mem_cons.mpr ⟨Or.inl ⟨rfl, mX11_readCell, 0, rfl, Or.inl wm_1546, wm_1548, wm_100, by decide⟩, List.forall_mem_cons.mpr ⟨Or.inl ⟨rfl, mX11_readPlank, 0, rfl, Or.inl wm_1550, wm_1552, wm_101, by decide⟩, List.forall_mem_cons.mpr ⟨Or.inl ⟨rfl, mX11_readTune, 0, rfl, Or.inl wm_1554, wm_1556, wm_102, by decide⟩, List.forall_mem_cons.mpr ⟨Or.inl ⟨rfl, mX11_readRule, 1, rfl, Or.inl wm_1566, wm_1568, wm_105, by decide⟩, List.forall_mem_cons.mpr ⟨Or.inl ⟨rfl, mX11_readSkater, 0, rfl, Or.inl wm_1606, wm_1608, wm_115, by decide⟩, List.forall_mem_cons.mpr ⟨Or.inl ⟨rfl, mX11_isSignHere, 1, rfl, Or.inl wm_1582, wm_1584, wm_109, by decide⟩, List.forall_mem_cons.mpr ⟨Or.inl ⟨rfl, mX11_here, 3, rfl, Or.inl wm_1558, wm_1560, wm_103, by decide⟩, fm_nil⟩⟩⟩⟩⟩⟩⟩⟩⟩⟩⟩⟩⟩⟩⟩⟩⟩⟩⟩⟩⟩⟩⟩⟩⟩
def pm11_1 : List (Nat × Nat × Nat) := [(330, (0, 147)), (334, (0, 149)), (341, (0, 154)), (350, (0, 153)), (353, (0, 156)), (356, (0, 159)), (359, (0, 155)), (362, (0, 152)), (365, (0, 157)), (368, (0, 158)), (371, (6, 160)), (375, (6, 163)), (379, (0, 168)), (383, (0, 169)), (392, (0, 167)), (395, (0, 164)), (399, (0, 173)), (402, (0, 174)), (405, (0, 175)), (408, (0, 161)), (416, (0, 177)), (419, (0, 176)), (422, (0, 180)), (425, (0, 166)), (428, (0, 165))]
theorem pm11_1_ok : ∀ q ∈ pm11_1, LKp11 q := List.forall_mem_cons.mpr ⟨Or.inl ⟨rfl, mX11_fresh, 1, rfl, Or.inl wm_1562, wm_1564, wm_104, by decide⟩, List.forall_mem_cons.mpr ⟨Or.inl ⟨rfl, mX11_stepHere, 0, rfl, Or.inl wm_1610, wm_1612, wm_116, by decide⟩, List.forall_mem_cons.mpr ⟨Or.inl ⟨rfl, mX11_e, 0, rfl, Or.inl wm_1570, wm_1572, wm_106, by decide⟩, List.forall_mem_cons.mpr ⟨Or.inl ⟨rfl, mX11_pushE, 2, rfl, Or.inl wm_1574, wm_1576, wm_107, by decide⟩, List.forall_mem_cons.mpr ⟨Or.inl ⟨rfl, mX11_unit, 0, rfl, Or.inl wm_1578, wm_1580, wm_108, by decide⟩, List.forall_mem_cons.mpr ⟨Or.inl ⟨rfl, mX11_behindUnit, 0, rfl, Or.inl wm_1594, wm_1596, wm_112, by decide⟩, List.forall_mem_cons.mpr ⟨Or.inl ⟨rfl, mX11_wordHere, 0, rfl, Or.inl wm_1586, wm_1588, wm_110, by decide⟩, List.forall_mem_cons.mpr ⟨Or.inl ⟨rfl, mX11_emit, 2, rfl, Or.inl wm_1590, wm_1592, wm_111, by decide⟩, List.forall_mem_cons.mpr ⟨Or.inl ⟨rfl, mX11_rankHere, 0, rfl, Or.inl wm_1598, wm_1600, wm_113, by decide⟩, List.forall_mem_cons.mpr ⟨Or.inl ⟨rfl, mX11_isCompared, 0, rfl, Or.inl wm_1602, wm_1604, wm_114, by decide⟩, List.forall_mem_cons.mpr ⟨Or.inr (Or.inl ⟨rfl, mX11_two, 3, rfl, Or.inl wm_1681, wm_1682⟩), List.forall_mem_cons.mpr ⟨Or.inr (Or.inl ⟨rfl, mX11_isIn, 3, rfl, Or.inl wm_1626, wm_1627⟩), List.forall_mem_cons.mpr ⟨Or.inl ⟨rfl, mX11_put, 3, rfl, Or.inl wm_1245, wm_1247, wm_88, by decide⟩, List.forall_mem_cons.mpr ⟨Or.inl ⟨rfl, mX11_layFirst, 0, rfl, Or.inl wm_1241, wm_1243, wm_87, by decide⟩, List.forall_mem_cons.mpr ⟨Or.inl ⟨rfl, mX11_of, 2, rfl, Or.inl wm_1637, wm_1639, wm_119, by decide⟩, List.forall_mem_cons.mpr ⟨Or.inl ⟨rfl, mX11_isCell, 2, rfl, Or.inl wm_1622, wm_1624, wm_117, by decide⟩, List.forall_mem_cons.mpr ⟨Or.inl ⟨rfl, mX11_goes, 1, rfl, Or.inl wm_1669, wm_1671, wm_125, by decide⟩, List.forall_mem_cons.mpr ⟨Or.inl ⟨rfl, mX11_layLoads, 0, rfl, Or.inl wm_1633, wm_1635, wm_118, by decide⟩, List.forall_mem_cons.mpr ⟨Or.inl ⟨rfl, mX11_iceAt, 2, rfl, Or.inl wm_1673, wm_1675, wm_126, by decide⟩, List.forall_mem_cons.mpr ⟨Or.inl ⟨rfl, mX11_comes, 5, rfl, Or.inl wm_1677, wm_1679, wm_127, by decide⟩, List.forall_mem_cons.mpr ⟨Or.inl ⟨rfl, mX11_breaksAt, 3, rfl, Or.inl wm_1684, wm_1686, wm_128, by decide⟩, List.forall_mem_cons.mpr ⟨Or.inl ⟨rfl, mX11_bar, 2, rfl, Or.inl wm_1665, wm_1667, wm_124, by decide⟩, List.forall_mem_cons.mpr ⟨Or.inl ⟨rfl, mX11_upMany, 0, rfl, Or.inl wm_1688, wm_1690, wm_129, by decide⟩, List.forall_mem_cons.mpr ⟨Or.inl ⟨rfl, mX11_isSkater, 1, rfl, Or.inl wm_1645, wm_1647, wm_120, by decide⟩, List.forall_mem_cons.mpr ⟨Or.inl ⟨rfl, mX11_isTune, 1, rfl, Or.inl wm_1653, wm_1655, wm_121, by decide⟩, fm_nil⟩⟩⟩⟩⟩⟩⟩⟩⟩⟩⟩⟩⟩⟩⟩⟩⟩⟩⟩⟩⟩⟩⟩⟩⟩
def pm11_2 : List (Nat × Nat × Nat) := [(431, (0, 185)), (434, (0, 178)), (437, (0, 179)), (440, (0, 186)), (443, (0, 194)), (446, (0, 196)), (449, (0, 195)), (452, (0, 171)), (455, (0, 181)), (458, (0, 172)), (461, (0, 193)), (464, (0, 191)), (468, (0, 199)), (471, (0, 198)), (474, (0, 201)), (477, (0, 203)), (483, (0, 206)), (488, (0, 211)), (491, (0, 212)), (497, (0, 213)), (500, (0, 214))]
theorem pm11_2_ok : ∀ q ∈ pm11_2, LKp11 q := List.forall_mem_cons.mpr ⟨Or.inl ⟨rfl, mX11_keepAct, 0, rfl, Or.inl wm_1657, wm_1659, wm_122, by decide⟩, List.forall_mem_cons.mpr ⟨Or.inl ⟨rfl, mX11_tune, 1, rfl, Or.inl wm_1661, wm_1663, wm_123, by decide⟩, List.forall_mem_cons.mpr ⟨Or.inl ⟨rfl, mX11_silence, 1, rfl, Or.inl wm_1696, wm_1698, wm_130, by decide⟩, List.forall_mem_cons.mpr ⟨Or.inl ⟨rfl, mX11_exchange, 0, rfl, Or.inl wm_1704, wm_1706, wm_131, by decide⟩, List.forall_mem_cons.mpr ⟨Or.inl ⟨rfl, mX11_swap, 2, rfl, Or.inl wm_1744, wm_1746, wm_138, by decide⟩, List.forall_mem_cons.mpr ⟨Or.inl ⟨rfl, mX11_isSet, 1, rfl, Or.inl wm_1720, wm_1722, wm_132, by decide⟩, List.forall_mem_cons.mpr ⟨Or.inl ⟨rfl, mX11_layTunes, 1, rfl, Or.inl wm_1724, wm_1726, wm_133, by decide⟩, List.forall_mem_cons.mpr ⟨Or.inl ⟨rfl, mX11_keep, 1, rfl, Or.inl wm_1728, wm_1730, wm_134, by decide⟩, List.forall_mem_cons.mpr ⟨Or.inl ⟨rfl, mX11_inMany, 0, rfl, Or.inl wm_1732, wm_1734, wm_135, by decide⟩, List.forall_mem_cons.mpr ⟨Or.inl ⟨rfl, mX11_bring, 1, rfl, Or.inl wm_1736, wm_1738, wm_136, by decide⟩, List.forall_mem_cons.mpr ⟨Or.inl ⟨rfl, mX11_nextOrder, 1, rfl, Or.inl wm_1740, wm_1742, wm_137, by decide⟩, List.forall_mem_cons.mpr ⟨Or.inl ⟨rfl, mX11_lay, 2, rfl, Or.inl wm_1748, wm_1750, wm_139, by decide⟩, List.forall_mem_cons.mpr ⟨Or.inl ⟨rfl, mX11_takes, 2, rfl, Or.inl wm_1760, wm_1762, wm_141, by decide⟩, List.forall_mem_cons.mpr ⟨Or.inl ⟨rfl, mX11_duels, 2, rfl, Or.inl wm_1756, wm_1758, wm_140, by decide⟩, List.forall_mem_cons.mpr ⟨Or.inl ⟨rfl, mX11_isDry, 1, rfl, Or.inl wm_1768, wm_1770, wm_142, by decide⟩, List.forall_mem_cons.mpr ⟨Or.inl ⟨rfl, mX11_isDryBy, 3, rfl, Or.inl wm_1772, wm_1774, wm_143, by decide⟩, List.forall_mem_cons.mpr ⟨Or.inl ⟨rfl, mX11_addSight, 4, rfl, Or.inl wm_1788, wm_1790, wm_144, by decide⟩, List.forall_mem_cons.mpr ⟨Or.inl ⟨rfl, mX11_counts, 2, rfl, Or.inl wm_1821, wm_1823, wm_148, by decide⟩, List.forall_mem_cons.mpr ⟨Or.inl ⟨rfl, mX11_areSoNow, 1, rfl, Or.inl wm_1817, wm_1819, wm_147, by decide⟩, List.forall_mem_cons.mpr ⟨Or.inl ⟨rfl, mX11_areSoBy, 2, rfl, Or.inl wm_1813, wm_1815, wm_146, by decide⟩, List.forall_mem_cons.mpr ⟨Or.inl ⟨rfl, mX11_layAsked, 2, rfl, Or.inl wm_1809, wm_1811, wm_145, by decide⟩, fm_nil⟩⟩⟩⟩⟩⟩⟩⟩⟩⟩⟩⟩⟩⟩⟩⟩⟩⟩⟩⟩⟩
def pm11 : List (Nat × Nat × Nat) := pm11_0 ++ pm11_1 ++ pm11_2
theorem pm11_ok : ∀ q ∈ pm11, LKp11 q := fun q h => (List.mem_append.mp h).elim ((fun q h => (List.mem_append.mp h).elim (pm11_0_ok q) (pm11_1_ok q)) q) (pm11_2_ok q)
def LKp12 (q : Nat × Nat × Nat) : Prop := ((q.2.1 = 0 ∧ ∃ (M : pM) (na : Nat), GM[q.2.2]? = some (M, na) ∧ LnkOK RL q.1 M.2.1 ∧ Cond.instanceMethod M.2.1 ∈ wt ∧ Cond.selects M.2.1.cls M.2.1 M.2.1 ∈ wt ∧ M.1 < 12) ∨ (q.2.1 = 6 ∧ ∃ (M : pM) (na : Nat), GM[q.2.2]? = some (M, na) ∧ LnkOK RL q.1 M.2.1 ∧ Cond.static M.2.1 ∈ wt) ∨ (q.2.1 = 7 ∧ ∃ (M : pM) (na : Nat), GM[q.2.2]? = some (M, na) ∧ LnkOK RL q.1 M.2.1 ∧ Cond.instanceMethod M.2.1 ∈ wt ∧ M.2.2.2.2.1 = none) ∨ (q.2.1 = 2 ∧ Cond.methodLink RL q.1 Lib.objectInit ∈ wt ∧ Cond.instanceMethod Lib.objectInit ∈ wt ∧ Cond.code Lib.objectInit ⟨#[0xb1]⟩ 1 none ∈ wt) ∨ (q.2.1 = 1 ∧ Cond.methodLink RL q.1 arraycopyName ∈ wt ∧ Cond.native arraycopyName ∈ wt ∧ Cond.static arraycopyName ∈ wt ∧ Cond.initialized "java/lang/System" ∈ wt) ∨ (q.2.1 = 8 ∧ Cond.methodLink RL q.1 Lib.Math.max.name ∈ wt ∧ Cond.static Lib.Math.max.name ∈ wt ∧ Cond.initialized "java/lang/Math" ∈ wt ∧ Cond.code Lib.Math.max.name Lib.Math.max.code 2 (some .int) ∈ wt) ∨ (q.2.1 = 9 ∧ Cond.methodLink RL q.1 Lib.Math.min.name ∈ wt ∧ Cond.static Lib.Math.min.name ∈ wt ∧ Cond.initialized "java/lang/Math" ∈ wt ∧ Cond.code Lib.Math.min.name Lib.Math.min.code 2 (some .int) ∈ wt) ∨ (3 ≤ q.2.1 ∧ q.2.1 ≤ 5))
def pm12_0 : List (Nat × Nat × Nat) := [(9, (7, 95)), (12, (7, 125)), (13, (0, 96)), (17, (0, 220)), (18, (0, 98)), (22, (0, 221)), (23, (0, 99)), (27, (0, 141)), (28, (0, 100)), (31, (0, 162)), (32, (0, 101)), (36, (0, 182)), (37, (0, 102)), (40, (0, 183)), (41, (0, 103)), (44, (0, 184)), (45, (0, 104)), (48, (0, 187)), (49, (0, 105)), (52, (0, 188)), (53, (0, 106)), (57, (0, 189)), (58, (0, 107)), (61, (0, 190)), (62, (0, 108))]
theorem pm12_0_ok : ∀ q ∈ pm12_0, LKp12 q := List.forall_mem_cons.mpr ⟨Or.inr (Or.inr (Or.inl ⟨rfl, mX10_init, 0, rfl, Or.inl wm_172, wm_173, rfl⟩)), List.forall_mem_cons.mpr ⟨Or.inr (Or.inr (Or.inl ⟨rfl, mX11_init, 0, rfl, Or.inl wm_1229, wm_1230, rfl⟩)), List.forall_mem_cons.mpr ⟨Or.inl ⟨rfl, mX10_feed, 5, rfl, Or.inl wm_639, wm_640, wm_641, by decide⟩, List.forall_mem_cons.mpr ⟨Or.inl ⟨rfl, mX11_feed, 5, rfl, Or.inl wm_1841, wm_1842, wm_1843, by decide⟩, List.forall_mem_cons.mpr ⟨Or.inl ⟨rfl, mX10_end, 1, rfl, Or.inl wm_647, wm_648, wm_649, by decide⟩, List.forall_mem_cons.mpr ⟨Or.inl ⟨rfl, mX11_end, 1, rfl, Or.inl wm_1845, wm_1846, wm_1847, by decide⟩, List.forall_mem_cons.mpr ⟨Or.inl ⟨rfl, mX10_pond, 0, rfl, Or.inl wm_651, wm_652, wm_653, by decide⟩, List.forall_mem_cons.mpr ⟨Or.inl ⟨rfl, mX11_pond, 0, rfl, Or.inl wm_1464, wm_1465, wm_1466, by decide⟩, List.forall_mem_cons.mpr ⟨Or.inl ⟨rfl, mX10_fault, 1, rfl, Or.inl wm_902, wm_903, wm_904, by decide⟩, List.forall_mem_cons.mpr ⟨Or.inl ⟨rfl, mX11_fault, 1, rfl, Or.inl wm_1614, wm_1615, wm_1616, by decide⟩, List.forall_mem_cons.mpr ⟨Or.inl ⟨rfl, mX10_ice, 2, rfl, Or.inl wm_906, wm_907, wm_908, by decide⟩, List.forall_mem_cons.mpr ⟨Or.inl ⟨rfl, mX11_ice, 2, rfl, Or.inl wm_1618, wm_1619, wm_1620, by decide⟩, List.forall_mem_cons.mpr ⟨Or.inl ⟨rfl, mX10_load, 2, rfl, Or.inl wm_911, wm_912, wm_913, by decide⟩, List.forall_mem_cons.mpr ⟨Or.inl ⟨rfl, mX11_load, 2, rfl, Or.inl wm_1629, wm_1630, wm_1631, by decide⟩, List.forall_mem_cons.mpr ⟨Or.inl ⟨rfl, mX10_skater, 2, rfl, Or.inl wm_923, wm_924, wm_925, by decide⟩, List.forall_mem_cons.mpr ⟨Or.inl ⟨rfl, mX11_skater, 2, rfl, Or.inl wm_1641, wm_1642, wm_1643, by decide⟩, List.forall_mem_cons.mpr ⟨Or.inl ⟨rfl, mX10_play, 1, rfl, Or.inl wm_932, wm_933, wm_934, by decide⟩, List.forall_mem_cons.mpr ⟨Or.inl ⟨rfl, mX11_play, 1, rfl, Or.inl wm_1649, wm_1650, wm_1651, by decide⟩, List.forall_mem_cons.mpr ⟨Or.inl ⟨rfl, mX10_hold, 1, rfl, Or.inl wm_1012, wm_1013, wm_1014, by decide⟩, List.forall_mem_cons.mpr ⟨Or.inl ⟨rfl, mX11_hold, 1, rfl, Or.inl wm_1692, wm_1693, wm_1694, by decide⟩, List.forall_mem_cons.mpr ⟨Or.inl ⟨rfl, mX10_undo, 0, rfl, Or.inl wm_1020, wm_1021, wm_1022, by decide⟩, List.forall_mem_cons.mpr ⟨Or.inl ⟨rfl, mX11_undo, 0, rfl, Or.inl wm_1700, wm_1701, wm_1702, by decide⟩, List.forall_mem_cons.mpr ⟨Or.inl ⟨rfl, mX10_redo, 0, rfl, Or.inl wm_1028, wm_1029, wm_1030, by decide⟩, List.forall_mem_cons.mpr ⟨Or.inl ⟨rfl, mX11_redo, 0, rfl, Or.inl wm_1708, wm_1709, wm_1710, by decide⟩, List.forall_mem_cons.mpr ⟨Or.inl ⟨rfl, mX10_order, 1, rfl, Or.inl wm_1036, wm_1037, wm_1038, by decide⟩, fm_nil⟩⟩⟩⟩⟩⟩⟩⟩⟩⟩⟩⟩⟩⟩⟩⟩⟩⟩⟩⟩⟩⟩⟩⟩⟩
def pm12_1 : List (Nat × Nat × Nat) := [(65, (0, 197)), (66, (0, 109)), (70, (0, 200)), (71, (0, 110)), (74, (0, 202)), (75, (0, 111)), (78, (0, 204)), (79, (0, 112)), (82, (0, 205)), (83, (0, 113)), (86, (0, 192)), (87, (0, 115)), (90, (0, 207)), (91, (0, 116)), (95, (0, 208)), (96, (0, 118)), (100, (0, 209)), (101, (0, 119)), (104, (0, 210)), (105, (0, 120)), (108, (0, 215)), (109, (0, 121)), (112, (0, 216)), (113, (0, 122)), (116, (0, 217))]
theorem pm12_1_ok : ∀ q ∈ pm12_1, LKp12 q := List.forall_mem_cons.mpr ⟨Or.inl ⟨rfl, mX11_order, 1, rfl, Or.inl wm_1716, wm_1717, wm_1718, by decide⟩, List.forall_mem_cons.mpr ⟨Or.inl ⟨rfl, mX10_duel, 3, rfl, Or.inl wm_1065, wm_1066, wm_1067, by decide⟩, List.forall_mem_cons.mpr ⟨Or.inl ⟨rfl, mX11_duel, 3, rfl, Or.inl wm_1752, wm_1753, wm_1754, by decide⟩, List.forall_mem_cons.mpr ⟨Or.inl ⟨rfl, mX10_planks, 1, rfl, Or.inl wm_1090, wm_1091, wm_1092, by decide⟩, List.forall_mem_cons.mpr ⟨Or.inl ⟨rfl, mX11_planks, 1, rfl, Or.inl wm_1764, wm_1765, wm_1766, by decide⟩, List.forall_mem_cons.mpr ⟨Or.inl ⟨rfl, mX10_hush, 2, rfl, Or.inl wm_1106, wm_1107, wm_1108, by decide⟩, List.forall_mem_cons.mpr ⟨Or.inl ⟨rfl, mX11_hush, 2, rfl, Or.inl wm_1776, wm_1777, wm_1778, by decide⟩, List.forall_mem_cons.mpr ⟨Or.inl ⟨rfl, mX10_breaks, 2, rfl, Or.inl wm_1115, wm_1116, wm_1117, by decide⟩, List.forall_mem_cons.mpr ⟨Or.inl ⟨rfl, mX11_breaks, 2, rfl, Or.inl wm_1780, wm_1781, wm_1782, by decide⟩, List.forall_mem_cons.mpr ⟨Or.inl ⟨rfl, mX10_lies, 1, rfl, Or.inl wm_1129, wm_1130, wm_1131, by decide⟩, List.forall_mem_cons.mpr ⟨Or.inl ⟨rfl, mX11_lies, 1, rfl, Or.inl wm_1712, wm_1713, wm_1714, by decide⟩, List.forall_mem_cons.mpr ⟨Or.inl ⟨rfl, mX10_sight, 5, rfl, Or.inl wm_1133, wm_1134, wm_1135, by decide⟩, List.forall_mem_cons.mpr ⟨Or.inl ⟨rfl, mX11_sight, 5, rfl, Or.inl wm_1784, wm_1785, wm_1786, by decide⟩, List.forall_mem_cons.mpr ⟨Or.inl ⟨rfl, mX10_seen, 3, rfl, Or.inl wm_1148, wm_1149, wm_1150, by decide⟩, List.forall_mem_cons.mpr ⟨Or.inl ⟨rfl, mX11_seen, 3, rfl, Or.inl wm_1792, wm_1793, wm_1794, by decide⟩, List.forall_mem_cons.mpr ⟨Or.inl ⟨rfl, mX10_untell, 1, rfl, Or.inl wm_1156, wm_1157, wm_1158, by decide⟩, List.forall_mem_cons.mpr ⟨Or.inl ⟨rfl, mX11_untell, 1, rfl, Or.inl wm_1796, wm_1797, wm_1798, by decide⟩, List.forall_mem_cons.mpr ⟨Or.inl ⟨rfl, mX10_later, 1, rfl, Or.inl wm_1164, wm_1165, wm_1166, by decide⟩, List.forall_mem_cons.mpr ⟨Or.inl ⟨rfl, mX11_later, 1, rfl, Or.inl wm_1800, wm_1801, wm_1802, by decide⟩, List.forall_mem_cons.mpr ⟨Or.inl ⟨rfl, mX10_asked, 2, rfl, Or.inl wm_1169, wm_1170, wm_1171, by decide⟩, List.forall_mem_cons.mpr ⟨Or.inl ⟨rfl, mX11_asked, 2, rfl, Or.inl wm_1805, wm_1806, wm_1807, by decide⟩, List.forall_mem_cons.mpr ⟨Or.inl ⟨rfl, mX10_sure, 3, rfl, Or.inl wm_1210, wm_1211, wm_1212, by decide⟩, List.forall_mem_cons.mpr ⟨Or.inl ⟨rfl, mX11_sure, 3, rfl, Or.inl wm_1825, wm_1826, wm_1827, by decide⟩, List.forall_mem_cons.mpr ⟨Or.inl ⟨rfl, mX10_image, 1, rfl, Or.inl wm_1214, wm_1215, wm_1216, by decide⟩, List.forall_mem_cons.mpr ⟨Or.inl ⟨rfl, mX11_image, 1, rfl, Or.inl wm_1829, wm_1830, wm_1831, by decide⟩, fm_nil⟩⟩⟩⟩⟩⟩⟩⟩⟩⟩⟩⟩⟩⟩⟩⟩⟩⟩⟩⟩⟩⟩⟩⟩⟩
def pm12_2 : List (Nat × Nat × Nat) := [(117, (0, 123)), (120, (0, 218)), (121, (0, 124)), (124, (0, 219))]
theorem pm12_2_ok : ∀ q ∈ pm12_2, LKp12 q := List.forall_mem_cons.mpr ⟨Or.inl ⟨rfl, mX10_back, 1, rfl, Or.inl wm_1219, wm_1220, wm_1221, by decide⟩, List.forall_mem_cons.mpr ⟨Or.inl ⟨rfl, mX11_back, 1, rfl, Or.inl wm_1833, wm_1834, wm_1835, by decide⟩, List.forall_mem_cons.mpr ⟨Or.inl ⟨rfl, mX10_about, 1, rfl, Or.inl wm_1223, wm_1224, wm_1225, by decide⟩, List.forall_mem_cons.mpr ⟨Or.inl ⟨rfl, mX11_about, 1, rfl, Or.inl wm_1837, wm_1838, wm_1839, by decide⟩, fm_nil⟩⟩⟩⟩
def pm12 : List (Nat × Nat × Nat) := pm12_0 ++ pm12_1 ++ pm12_2
theorem pm12_ok : ∀ q ∈ pm12, LKp12 q := fun q h => (List.mem_append.mp h).elim ((fun q h => (List.mem_append.mp h).elim (pm12_0_ok q) (pm12_1_ok q)) q) (pm12_2_ok q)
def LKp13 (q : Nat × Nat × Nat) : Prop := ((q.2.1 = 0 ∧ ∃ (M : pM) (na : Nat), GM[q.2.2]? = some (M, na) ∧ LnkOK RJ6 q.1 M.2.1 ∧ Cond.instanceMethod M.2.1 ∈ wt ∧ Cond.selects M.2.1.cls M.2.1 M.2.1 ∈ wt ∧ M.1 < 12) ∨ (q.2.1 = 6 ∧ ∃ (M : pM) (na : Nat), GM[q.2.2]? = some (M, na) ∧ LnkOK RJ6 q.1 M.2.1 ∧ Cond.static M.2.1 ∈ wt) ∨ (q.2.1 = 7 ∧ ∃ (M : pM) (na : Nat), GM[q.2.2]? = some (M, na) ∧ LnkOK RJ6 q.1 M.2.1 ∧ Cond.instanceMethod M.2.1 ∈ wt ∧ M.2.2.2.2.1 = none) ∨ (q.2.1 = 2 ∧ Cond.methodLink RJ6 q.1 Lib.objectInit ∈ wt ∧ Cond.instanceMethod Lib.objectInit ∈ wt ∧ Cond.code Lib.objectInit ⟨#[0xb1]⟩ 1 none ∈ wt) ∨ (q.2.1 = 1 ∧ Cond.methodLink RJ6 q.1 arraycopyName ∈ wt ∧ Cond.native arraycopyName ∈ wt ∧ Cond.static arraycopyName ∈ wt ∧ Cond.initialized "java/lang/System" ∈ wt) ∨ (q.2.1 = 8 ∧ Cond.methodLink RJ6 q.1 Lib.Math.max.name ∈ wt ∧ Cond.static Lib.Math.max.name ∈ wt ∧ Cond.initialized "java/lang/Math" ∈ wt ∧ Cond.code Lib.Math.max.name Lib.Math.max.code 2 (some .int) ∈ wt) ∨ (q.2.1 = 9 ∧ Cond.methodLink RJ6 q.1 Lib.Math.min.name ∈ wt ∧ Cond.static Lib.Math.min.name ∈ wt ∧ Cond.initialized "java/lang/Math" ∈ wt ∧ Cond.code Lib.Math.min.name Lib.Math.min.code 2 (some .int) ∈ wt) ∨ (3 ≤ q.2.1 ∧ q.2.1 ≤ 5))
def pm13 : List (Nat × Nat × Nat) := []
theorem pm13_ok : ∀ q ∈ pm13, LKp13 q := fm_nil
def LKp14 (q : Nat × Nat × Nat) : Prop := ((q.2.1 = 0 ∧ ∃ (M : pM) (na : Nat), GM[q.2.2]? = some (M, na) ∧ LnkOK RJ9 q.1 M.2.1 ∧ Cond.instanceMethod M.2.1 ∈ wt ∧ Cond.selects M.2.1.cls M.2.1 M.2.1 ∈ wt ∧ M.1 < 12) ∨ (q.2.1 = 6 ∧ ∃ (M : pM) (na : Nat), GM[q.2.2]? = some (M, na) ∧ LnkOK RJ9 q.1 M.2.1 ∧ Cond.static M.2.1 ∈ wt) ∨ (q.2.1 = 7 ∧ ∃ (M : pM) (na : Nat), GM[q.2.2]? = some (M, na) ∧ LnkOK RJ9 q.1 M.2.1 ∧ Cond.instanceMethod M.2.1 ∈ wt ∧ M.2.2.2.2.1 = none) ∨ (q.2.1 = 2 ∧ Cond.methodLink RJ9 q.1 Lib.objectInit ∈ wt ∧ Cond.instanceMethod Lib.objectInit ∈ wt ∧ Cond.code Lib.objectInit ⟨#[0xb1]⟩ 1 none ∈ wt) ∨ (q.2.1 = 1 ∧ Cond.methodLink RJ9 q.1 arraycopyName ∈ wt ∧ Cond.native arraycopyName ∈ wt ∧ Cond.static arraycopyName ∈ wt ∧ Cond.initialized "java/lang/System" ∈ wt) ∨ (q.2.1 = 8 ∧ Cond.methodLink RJ9 q.1 Lib.Math.max.name ∈ wt ∧ Cond.static Lib.Math.max.name ∈ wt ∧ Cond.initialized "java/lang/Math" ∈ wt ∧ Cond.code Lib.Math.max.name Lib.Math.max.code 2 (some .int) ∈ wt) ∨ (q.2.1 = 9 ∧ Cond.methodLink RJ9 q.1 Lib.Math.min.name ∈ wt ∧ Cond.static Lib.Math.min.name ∈ wt ∧ Cond.initialized "java/lang/Math" ∈ wt ∧ Cond.code Lib.Math.min.name Lib.Math.min.code 2 (some .int) ∈ wt) ∨ (3 ≤ q.2.1 ∧ q.2.1 ≤ 5))
def pm14 : List (Nat × Nat × Nat) := []
theorem pm14_ok : ∀ q ∈ pm14, LKp14 q := fm_nil
def pfT : List (List (Nat × Nat × Nat)) := [pf0, pf1, pf2, pf3, pf4, pf5, pf6, pf7, pf8, pf9, pf10, pf11, pf12, pf13, pf14]
def pkT : List (List (Nat × Nat)) := [pk0, pk1, pk2, pk3, pk4, pk5, pk6, pk7, pk8, pk9, pk10, pk11, pk12, pk13, pk14]
def pcT : List (List (Nat × Value)) := [pc0, pc1, pc2, pc3, pc4, pc5, pc6, pc7, pc8, pc9, pc10, pc11, pc12, pc13, pc14]
def pmT : List (List (Nat × Nat × Nat)) := [pm0, pm1, pm2, pm3, pm4, pm5, pm6, pm7, pm8, pm9, pm10, pm11, pm12, pm13, pm14]
def PP : pP := (tl pfT, tl pkT, tl pcT, tl pmT)
theorem rowN {α : Type} {T : List (List α)} {o n : Nat} {row : List α} (h : T[o]? = some row) (hn : T.length = n) : o < n := by
  rw [← hn]
  exact (List.getElem?_eq_some_iff.mp h).1
theorem poolOK : PoolOK PP TR := by
  refine ⟨fun o i ci k h => ?_, fun o i ci h => ?_, fun o i x h => ?_, fun o i x h => ?_, fun o i a h => ?_⟩

  · obtain ⟨row, hr, hm⟩ := tl_mem (T := pfT) h
    have ho := rowN hr (n := 15) rfl
    match o, ho, hr with
    | 0, _, hr => cases hr; exact ⟨RX0, rfl, pf0_ok _ hm⟩
    | 1, _, hr => cases hr; exact ⟨RX1, rfl, pf1_ok _ hm⟩
    | 2, _, hr => cases hr; exact ⟨RX2, rfl, pf2_ok _ hm⟩
    | 3, _, hr => cases hr; exact ⟨RX3, rfl, pf3_ok _ hm⟩
    | 4, _, hr => cases hr; exact ⟨RX4, rfl, pf4_ok _ hm⟩
    | 5, _, hr => cases hr; exact ⟨RX5, rfl, pf5_ok _ hm⟩
    | 6, _, hr => cases hr; exact ⟨RX6, rfl, pf6_ok _ hm⟩
    | 7, _, hr => cases hr; exact ⟨RX7, rfl, pf7_ok _ hm⟩
    | 8, _, hr => cases hr; exact ⟨RX8, rfl, pf8_ok _ hm⟩
    | 9, _, hr => cases hr; exact ⟨RX9, rfl, pf9_ok _ hm⟩
    | 10, _, hr => cases hr; exact ⟨RX10, rfl, pf10_ok _ hm⟩
    | 11, _, hr => cases hr; exact ⟨RX11, rfl, pf11_ok _ hm⟩
    | 12, _, hr => cases hr; exact ⟨RL, rfl, pf12_ok _ hm⟩
    | 13, _, hr => cases hr; exact ⟨RJ6, rfl, pf13_ok _ hm⟩
    | 14, _, hr => cases hr; exact ⟨RJ9, rfl, pf14_ok _ hm⟩
  · obtain ⟨row, hr, hm⟩ := tl_mem (T := pkT) h
    have ho := rowN hr (n := 15) rfl
    match o, ho, hr with
    | 0, _, hr => cases hr; exact ⟨RX0, rfl, pk0_ok _ hm⟩
    | 1, _, hr => cases hr; exact ⟨RX1, rfl, pk1_ok _ hm⟩
    | 2, _, hr => cases hr; exact ⟨RX2, rfl, pk2_ok _ hm⟩
    | 3, _, hr => cases hr; exact ⟨RX3, rfl, pk3_ok _ hm⟩
    | 4, _, hr => cases hr; exact ⟨RX4, rfl, pk4_ok _ hm⟩
    | 5, _, hr => cases hr; exact ⟨RX5, rfl, pk5_ok _ hm⟩
    | 6, _, hr => cases hr; exact ⟨RX6, rfl, pk6_ok _ hm⟩
    | 7, _, hr => cases hr; exact ⟨RX7, rfl, pk7_ok _ hm⟩
    | 8, _, hr => cases hr; exact ⟨RX8, rfl, pk8_ok _ hm⟩
    | 9, _, hr => cases hr; exact ⟨RX9, rfl, pk9_ok _ hm⟩
    | 10, _, hr => cases hr; exact ⟨RX10, rfl, pk10_ok _ hm⟩
    | 11, _, hr => cases hr; exact ⟨RX11, rfl, pk11_ok _ hm⟩
    | 12, _, hr => cases hr; exact ⟨RL, rfl, pk12_ok _ hm⟩
    | 13, _, hr => cases hr; exact ⟨RJ6, rfl, pk13_ok _ hm⟩
    | 14, _, hr => cases hr; exact ⟨RJ9, rfl, pk14_ok _ hm⟩
  · obtain ⟨row, hr, hm⟩ := tl_mem (T := pcT) h
    have ho := rowN hr (n := 15) rfl
    match o, ho, hr with
    | 0, _, hr => cases hr; exact ⟨RX0, rfl, (pc0_ok _ hm).1 _ rfl⟩
    | 1, _, hr => cases hr; exact ⟨RX1, rfl, (pc1_ok _ hm).1 _ rfl⟩
    | 2, _, hr => cases hr; exact ⟨RX2, rfl, (pc2_ok _ hm).1 _ rfl⟩
    | 3, _, hr => cases hr; exact ⟨RX3, rfl, (pc3_ok _ hm).1 _ rfl⟩
    | 4, _, hr => cases hr; exact ⟨RX4, rfl, (pc4_ok _ hm).1 _ rfl⟩
    | 5, _, hr => cases hr; exact ⟨RX5, rfl, (pc5_ok _ hm).1 _ rfl⟩
    | 6, _, hr => cases hr; exact ⟨RX6, rfl, (pc6_ok _ hm).1 _ rfl⟩
    | 7, _, hr => cases hr; exact ⟨RX7, rfl, (pc7_ok _ hm).1 _ rfl⟩
    | 8, _, hr => cases hr; exact ⟨RX8, rfl, (pc8_ok _ hm).1 _ rfl⟩
    | 9, _, hr => cases hr; exact ⟨RX9, rfl, (pc9_ok _ hm).1 _ rfl⟩
    | 10, _, hr => cases hr; exact ⟨RX10, rfl, (pc10_ok _ hm).1 _ rfl⟩
    | 11, _, hr => cases hr; exact ⟨RX11, rfl, (pc11_ok _ hm).1 _ rfl⟩
    | 12, _, hr => cases hr; exact ⟨RL, rfl, (pc12_ok _ hm).1 _ rfl⟩
    | 13, _, hr => cases hr; exact ⟨RJ6, rfl, (pc13_ok _ hm).1 _ rfl⟩
    | 14, _, hr => cases hr; exact ⟨RJ9, rfl, (pc14_ok _ hm).1 _ rfl⟩
  · obtain ⟨row, hr, hm⟩ := tl_mem (T := pcT) h
    have ho := rowN hr (n := 15) rfl
    match o, ho, hr with
    | 0, _, hr => cases hr; exact ⟨RX0, rfl, (pc0_ok _ hm).2.1 _ rfl⟩
    | 1, _, hr => cases hr; exact ⟨RX1, rfl, (pc1_ok _ hm).2.1 _ rfl⟩
    | 2, _, hr => cases hr; exact ⟨RX2, rfl, (pc2_ok _ hm).2.1 _ rfl⟩
    | 3, _, hr => cases hr; exact ⟨RX3, rfl, (pc3_ok _ hm).2.1 _ rfl⟩
    | 4, _, hr => cases hr; exact ⟨RX4, rfl, (pc4_ok _ hm).2.1 _ rfl⟩
    | 5, _, hr => cases hr; exact ⟨RX5, rfl, (pc5_ok _ hm).2.1 _ rfl⟩
    | 6, _, hr => cases hr; exact ⟨RX6, rfl, (pc6_ok _ hm).2.1 _ rfl⟩
    | 7, _, hr => cases hr; exact ⟨RX7, rfl, (pc7_ok _ hm).2.1 _ rfl⟩
    | 8, _, hr => cases hr; exact ⟨RX8, rfl, (pc8_ok _ hm).2.1 _ rfl⟩
    | 9, _, hr => cases hr; exact ⟨RX9, rfl, (pc9_ok _ hm).2.1 _ rfl⟩
    | 10, _, hr => cases hr; exact ⟨RX10, rfl, (pc10_ok _ hm).2.1 _ rfl⟩
    | 11, _, hr => cases hr; exact ⟨RX11, rfl, (pc11_ok _ hm).2.1 _ rfl⟩
    | 12, _, hr => cases hr; exact ⟨RL, rfl, (pc12_ok _ hm).2.1 _ rfl⟩
    | 13, _, hr => cases hr; exact ⟨RJ6, rfl, (pc13_ok _ hm).2.1 _ rfl⟩
    | 14, _, hr => cases hr; exact ⟨RJ9, rfl, (pc14_ok _ hm).2.1 _ rfl⟩
  · obtain ⟨row, hr, hm⟩ := tl_mem (T := pcT) h
    have ho := rowN hr (n := 15) rfl
    match o, ho, hr with
    | 0, _, hr => cases hr; exact ⟨RX0, rfl, (pc0_ok _ hm).2.2 _ rfl⟩
    | 1, _, hr => cases hr; exact ⟨RX1, rfl, (pc1_ok _ hm).2.2 _ rfl⟩
    | 2, _, hr => cases hr; exact ⟨RX2, rfl, (pc2_ok _ hm).2.2 _ rfl⟩
    | 3, _, hr => cases hr; exact ⟨RX3, rfl, (pc3_ok _ hm).2.2 _ rfl⟩
    | 4, _, hr => cases hr; exact ⟨RX4, rfl, (pc4_ok _ hm).2.2 _ rfl⟩
    | 5, _, hr => cases hr; exact ⟨RX5, rfl, (pc5_ok _ hm).2.2 _ rfl⟩
    | 6, _, hr => cases hr; exact ⟨RX6, rfl, (pc6_ok _ hm).2.2 _ rfl⟩
    | 7, _, hr => cases hr; exact ⟨RX7, rfl, (pc7_ok _ hm).2.2 _ rfl⟩
    | 8, _, hr => cases hr; exact ⟨RX8, rfl, (pc8_ok _ hm).2.2 _ rfl⟩
    | 9, _, hr => cases hr; exact ⟨RX9, rfl, (pc9_ok _ hm).2.2 _ rfl⟩
    | 10, _, hr => cases hr; exact ⟨RX10, rfl, (pc10_ok _ hm).2.2 _ rfl⟩
    | 11, _, hr => cases hr; exact ⟨RX11, rfl, (pc11_ok _ hm).2.2 _ rfl⟩
    | 12, _, hr => cases hr; exact ⟨RL, rfl, (pc12_ok _ hm).2.2 _ rfl⟩
    | 13, _, hr => cases hr; exact ⟨RJ6, rfl, (pc13_ok _ hm).2.2 _ rfl⟩
    | 14, _, hr => cases hr; exact ⟨RJ9, rfl, (pc14_ok _ hm).2.2 _ rfl⟩
theorem gm_at {j : Nat} {M M1 : pM} {na n1 : Nat} (h : GM[j]? = some (M, na)) (h1 : GM[j]? = some (M1, n1)) : M1 = M ∧ n1 = na := by
  have := h.symm.trans h1
  simp only [Option.some.injEq, Prod.mk.injEq] at this
  exact ⟨this.1.symm, this.2.symm⟩
theorem callsOK : CallsOK PP GM := by
  refine ⟨fun j M na h => GM_ok _ (List.mem_of_getElem? h), fun o i j M na h hG => ?_, fun o i j M na h hG => ?_, fun o i j M na h hG => ?_, fun o i j h => ?_, fun o i j h => ?_, fun o i j h => ?_, fun o i j h => ?_⟩
  · obtain ⟨row, hr, hm⟩ := tl_mem (T := pmT) h
    have ho := rowN hr (n := 15) rfl
    match o, ho, hr with
    | 0, _, hr =>
      cases hr
      have hk := pm0_ok _ hm
      unfold LKp0 at hk
      rcases hk with ⟨e, q⟩ | ⟨e, -⟩ | ⟨e, -⟩ | ⟨e, -⟩ | ⟨e, -⟩ | ⟨e, -⟩ | ⟨e, -⟩ | ⟨e, q9⟩
      · (obtain ⟨M1, n1, g1, g2⟩ := q; obtain ⟨rfl, rfl⟩ := gm_at hG g1; exact ⟨RX0, rfl, g2⟩)
      · (cases e)
      · (cases e)
      · (cases e)
      · (cases e)
      · (cases e)
      · (cases e)
      · (exact absurd (show 3 ≤ 0 from e) (by decide))
    | 1, _, hr =>
      cases hr
      have hk := pm1_ok _ hm
      unfold LKp1 at hk
      rcases hk with ⟨e, q⟩ | ⟨e, -⟩ | ⟨e, -⟩ | ⟨e, -⟩ | ⟨e, -⟩ | ⟨e, -⟩ | ⟨e, -⟩ | ⟨e, q9⟩
      · (obtain ⟨M1, n1, g1, g2⟩ := q; obtain ⟨rfl, rfl⟩ := gm_at hG g1; exact ⟨RX1, rfl, g2⟩)
      · (cases e)
      · (cases e)
      · (cases e)
      · (cases e)
      · (cases e)
      · (cases e)
      · (exact absurd (show 3 ≤ 0 from e) (by decide))
    | 2, _, hr =>
      cases hr
      have hk := pm2_ok _ hm
      unfold LKp2 at hk
      rcases hk with ⟨e, q⟩ | ⟨e, -⟩ | ⟨e, -⟩ | ⟨e, -⟩ | ⟨e, -⟩ | ⟨e, -⟩ | ⟨e, -⟩ | ⟨e, q9⟩
      · (obtain ⟨M1, n1, g1, g2⟩ := q; obtain ⟨rfl, rfl⟩ := gm_at hG g1; exact ⟨RX2, rfl, g2⟩)
      · (cases e)
      · (cases e)
      · (cases e)
      · (cases e)
      · (cases e)
      · (cases e)
      · (exact absurd (show 3 ≤ 0 from e) (by decide))
    | 3, _, hr =>
      cases hr
      have hk := pm3_ok _ hm
      unfold LKp3 at hk
      rcases hk with ⟨e, q⟩ | ⟨e, -⟩ | ⟨e, -⟩ | ⟨e, -⟩ | ⟨e, -⟩ | ⟨e, -⟩ | ⟨e, -⟩ | ⟨e, q9⟩
      · (obtain ⟨M1, n1, g1, g2⟩ := q; obtain ⟨rfl, rfl⟩ := gm_at hG g1; exact ⟨RX3, rfl, g2⟩)
      · (cases e)
      · (cases e)
      · (cases e)
      · (cases e)
      · (cases e)
      · (cases e)
      · (exact absurd (show 3 ≤ 0 from e) (by decide))
    | 4, _, hr =>
      cases hr
      have hk := pm4_ok _ hm
      unfold LKp4 at hk
      rcases hk with ⟨e, q⟩ | ⟨e, -⟩ | ⟨e, -⟩ | ⟨e, -⟩ | ⟨e, -⟩ | ⟨e, -⟩ | ⟨e, -⟩ | ⟨e, q9⟩
      · (obtain ⟨M1, n1, g1, g2⟩ := q; obtain ⟨rfl, rfl⟩ := gm_at hG g1; exact ⟨RX4, rfl, g2⟩)
      · (cases e)
      · (cases e)
      · (cases e)
      · (cases e)
      · (cases e)
      · (cases e)
      · (exact absurd (show 3 ≤ 0 from e) (by decide))
    | 5, _, hr =>
      cases hr
      have hk := pm5_ok _ hm
      unfold LKp5 at hk
      rcases hk with ⟨e, q⟩ | ⟨e, -⟩ | ⟨e, -⟩ | ⟨e, -⟩ | ⟨e, -⟩ | ⟨e, -⟩ | ⟨e, -⟩ | ⟨e, q9⟩
      · (obtain ⟨M1, n1, g1, g2⟩ := q; obtain ⟨rfl, rfl⟩ := gm_at hG g1; exact ⟨RX5, rfl, g2⟩)
      · (cases e)
      · (cases e)
      · (cases e)
      · (cases e)
      · (cases e)
      · (cases e)
      · (exact absurd (show 3 ≤ 0 from e) (by decide))
    | 6, _, hr =>
      cases hr
      have hk := pm6_ok _ hm
      unfold LKp6 at hk
      rcases hk with ⟨e, q⟩ | ⟨e, -⟩ | ⟨e, -⟩ | ⟨e, -⟩ | ⟨e, -⟩ | ⟨e, -⟩ | ⟨e, -⟩ | ⟨e, q9⟩
      · (obtain ⟨M1, n1, g1, g2⟩ := q; obtain ⟨rfl, rfl⟩ := gm_at hG g1; exact ⟨RX6, rfl, g2⟩)
      · (cases e)
      · (cases e)
      · (cases e)
      · (cases e)
      · (cases e)
      · (cases e)
      · (exact absurd (show 3 ≤ 0 from e) (by decide))
    | 7, _, hr =>
      cases hr
      have hk := pm7_ok _ hm
      unfold LKp7 at hk
      rcases hk with ⟨e, q⟩ | ⟨e, -⟩ | ⟨e, -⟩ | ⟨e, -⟩ | ⟨e, -⟩ | ⟨e, -⟩ | ⟨e, -⟩ | ⟨e, q9⟩
      · (obtain ⟨M1, n1, g1, g2⟩ := q; obtain ⟨rfl, rfl⟩ := gm_at hG g1; exact ⟨RX7, rfl, g2⟩)
      · (cases e)
      · (cases e)
      · (cases e)
      · (cases e)
      · (cases e)
      · (cases e)
      · (exact absurd (show 3 ≤ 0 from e) (by decide))
    | 8, _, hr =>
      cases hr
      have hk := pm8_ok _ hm
      unfold LKp8 at hk
      rcases hk with ⟨e, q⟩ | ⟨e, -⟩ | ⟨e, -⟩ | ⟨e, -⟩ | ⟨e, -⟩ | ⟨e, -⟩ | ⟨e, -⟩ | ⟨e, q9⟩
      · (obtain ⟨M1, n1, g1, g2⟩ := q; obtain ⟨rfl, rfl⟩ := gm_at hG g1; exact ⟨RX8, rfl, g2⟩)
      · (cases e)
      · (cases e)
      · (cases e)
      · (cases e)
      · (cases e)
      · (cases e)
      · (exact absurd (show 3 ≤ 0 from e) (by decide))
    | 9, _, hr =>
      cases hr
      have hk := pm9_ok _ hm
      unfold LKp9 at hk
      rcases hk with ⟨e, q⟩ | ⟨e, -⟩ | ⟨e, -⟩ | ⟨e, -⟩ | ⟨e, -⟩ | ⟨e, -⟩ | ⟨e, -⟩ | ⟨e, q9⟩
      · (obtain ⟨M1, n1, g1, g2⟩ := q; obtain ⟨rfl, rfl⟩ := gm_at hG g1; exact ⟨RX9, rfl, g2⟩)
      · (cases e)
      · (cases e)
      · (cases e)
      · (cases e)
      · (cases e)
      · (cases e)
      · (exact absurd (show 3 ≤ 0 from e) (by decide))
    | 10, _, hr =>
      cases hr
      have hk := pm10_ok _ hm
      unfold LKp10 at hk
      rcases hk with ⟨e, q⟩ | ⟨e, -⟩ | ⟨e, -⟩ | ⟨e, -⟩ | ⟨e, -⟩ | ⟨e, -⟩ | ⟨e, -⟩ | ⟨e, q9⟩
      · (obtain ⟨M1, n1, g1, g2⟩ := q; obtain ⟨rfl, rfl⟩ := gm_at hG g1; exact ⟨RX10, rfl, g2⟩)
      · (cases e)
      · (cases e)
      · (cases e)
      · (cases e)
      · (cases e)
      · (cases e)
      · (exact absurd (show 3 ≤ 0 from e) (by decide))
    | 11, _, hr =>
      cases hr
      have hk := pm11_ok _ hm
      unfold LKp11 at hk
      rcases hk with ⟨e, q⟩ | ⟨e, -⟩ | ⟨e, -⟩ | ⟨e, -⟩ | ⟨e, -⟩ | ⟨e, -⟩ | ⟨e, -⟩ | ⟨e, q9⟩
      · (obtain ⟨M1, n1, g1, g2⟩ := q; obtain ⟨rfl, rfl⟩ := gm_at hG g1; exact ⟨RX11, rfl, g2⟩)
      · (cases e)
      · (cases e)
      · (cases e)
      · (cases e)
      · (cases e)
      · (cases e)
      · (exact absurd (show 3 ≤ 0 from e) (by decide))
    | 12, _, hr =>
      cases hr
      have hk := pm12_ok _ hm
      unfold LKp12 at hk
      rcases hk with ⟨e, q⟩ | ⟨e, -⟩ | ⟨e, -⟩ | ⟨e, -⟩ | ⟨e, -⟩ | ⟨e, -⟩ | ⟨e, -⟩ | ⟨e, q9⟩
      · (obtain ⟨M1, n1, g1, g2⟩ := q; obtain ⟨rfl, rfl⟩ := gm_at hG g1; exact ⟨RL, rfl, g2⟩)
      · (cases e)
      · (cases e)
      · (cases e)
      · (cases e)
      · (cases e)
      · (cases e)
      · (exact absurd (show 3 ≤ 0 from e) (by decide))
    | 13, _, hr =>
      cases hr
      have hk := pm13_ok _ hm
      unfold LKp13 at hk
      rcases hk with ⟨e, q⟩ | ⟨e, -⟩ | ⟨e, -⟩ | ⟨e, -⟩ | ⟨e, -⟩ | ⟨e, -⟩ | ⟨e, -⟩ | ⟨e, q9⟩
      · (obtain ⟨M1, n1, g1, g2⟩ := q; obtain ⟨rfl, rfl⟩ := gm_at hG g1; exact ⟨RJ6, rfl, g2⟩)
      · (cases e)
      · (cases e)
      · (cases e)
      · (cases e)
      · (cases e)
      · (cases e)
      · (exact absurd (show 3 ≤ 0 from e) (by decide))
    | 14, _, hr =>
      cases hr
      have hk := pm14_ok _ hm
      unfold LKp14 at hk
      rcases hk with ⟨e, q⟩ | ⟨e, -⟩ | ⟨e, -⟩ | ⟨e, -⟩ | ⟨e, -⟩ | ⟨e, -⟩ | ⟨e, -⟩ | ⟨e, q9⟩
      · (obtain ⟨M1, n1, g1, g2⟩ := q; obtain ⟨rfl, rfl⟩ := gm_at hG g1; exact ⟨RJ9, rfl, g2⟩)
      · (cases e)
      · (cases e)
      · (cases e)
      · (cases e)
      · (cases e)
      · (cases e)
      · (exact absurd (show 3 ≤ 0 from e) (by decide))
  · obtain ⟨row, hr, hm⟩ := tl_mem (T := pmT) h
    have ho := rowN hr (n := 15) rfl
    match o, ho, hr with
    | 0, _, hr =>
      cases hr
      have hk := pm0_ok _ hm
      unfold LKp0 at hk
      rcases hk with ⟨e, -⟩ | ⟨e, q⟩ | ⟨e, -⟩ | ⟨e, -⟩ | ⟨e, -⟩ | ⟨e, -⟩ | ⟨e, -⟩ | ⟨e, q9⟩
      · (cases e)
      · (obtain ⟨M1, n1, g1, g2⟩ := q; obtain ⟨rfl, rfl⟩ := gm_at hG g1; exact ⟨RX0, rfl, g2⟩)
      · (cases e)
      · (cases e)
      · (cases e)
      · (cases e)
      · (cases e)
      · (exact absurd (show 6 ≤ 5 from q9) (by decide))
    | 1, _, hr =>
      cases hr
      have hk := pm1_ok _ hm
      unfold LKp1 at hk
      rcases hk with ⟨e, -⟩ | ⟨e, q⟩ | ⟨e, -⟩ | ⟨e, -⟩ | ⟨e, -⟩ | ⟨e, -⟩ | ⟨e, -⟩ | ⟨e, q9⟩
      · (cases e)
      · (obtain ⟨M1, n1, g1, g2⟩ := q; obtain ⟨rfl, rfl⟩ := gm_at hG g1; exact ⟨RX1, rfl, g2⟩)
      · (cases e)
      · (cases e)
      · (cases e)
      · (cases e)
      · (cases e)
      · (exact absurd (show 6 ≤ 5 from q9) (by decide))
    | 2, _, hr =>
      cases hr
      have hk := pm2_ok _ hm
      unfold LKp2 at hk
      rcases hk with ⟨e, -⟩ | ⟨e, q⟩ | ⟨e, -⟩ | ⟨e, -⟩ | ⟨e, -⟩ | ⟨e, -⟩ | ⟨e, -⟩ | ⟨e, q9⟩
      · (cases e)
      · (obtain ⟨M1, n1, g1, g2⟩ := q; obtain ⟨rfl, rfl⟩ := gm_at hG g1; exact ⟨RX2, rfl, g2⟩)
      · (cases e)
      · (cases e)
      · (cases e)
      · (cases e)
      · (cases e)
      · (exact absurd (show 6 ≤ 5 from q9) (by decide))
    | 3, _, hr =>
      cases hr
      have hk := pm3_ok _ hm
      unfold LKp3 at hk
      rcases hk with ⟨e, -⟩ | ⟨e, q⟩ | ⟨e, -⟩ | ⟨e, -⟩ | ⟨e, -⟩ | ⟨e, -⟩ | ⟨e, -⟩ | ⟨e, q9⟩
      · (cases e)
      · (obtain ⟨M1, n1, g1, g2⟩ := q; obtain ⟨rfl, rfl⟩ := gm_at hG g1; exact ⟨RX3, rfl, g2⟩)
      · (cases e)
      · (cases e)
      · (cases e)
      · (cases e)
      · (cases e)
      · (exact absurd (show 6 ≤ 5 from q9) (by decide))
    | 4, _, hr =>
      cases hr
      have hk := pm4_ok _ hm
      unfold LKp4 at hk
      rcases hk with ⟨e, -⟩ | ⟨e, q⟩ | ⟨e, -⟩ | ⟨e, -⟩ | ⟨e, -⟩ | ⟨e, -⟩ | ⟨e, -⟩ | ⟨e, q9⟩
      · (cases e)
      · (obtain ⟨M1, n1, g1, g2⟩ := q; obtain ⟨rfl, rfl⟩ := gm_at hG g1; exact ⟨RX4, rfl, g2⟩)
      · (cases e)
      · (cases e)
      · (cases e)
      · (cases e)
      · (cases e)
      · (exact absurd (show 6 ≤ 5 from q9) (by decide))
    | 5, _, hr =>
      cases hr
      have hk := pm5_ok _ hm
      unfold LKp5 at hk
      rcases hk with ⟨e, -⟩ | ⟨e, q⟩ | ⟨e, -⟩ | ⟨e, -⟩ | ⟨e, -⟩ | ⟨e, -⟩ | ⟨e, -⟩ | ⟨e, q9⟩
      · (cases e)
      · (obtain ⟨M1, n1, g1, g2⟩ := q; obtain ⟨rfl, rfl⟩ := gm_at hG g1; exact ⟨RX5, rfl, g2⟩)
      · (cases e)
      · (cases e)
      · (cases e)
      · (cases e)
      · (cases e)
      · (exact absurd (show 6 ≤ 5 from q9) (by decide))
    | 6, _, hr =>
      cases hr
      have hk := pm6_ok _ hm
      unfold LKp6 at hk
      rcases hk with ⟨e, -⟩ | ⟨e, q⟩ | ⟨e, -⟩ | ⟨e, -⟩ | ⟨e, -⟩ | ⟨e, -⟩ | ⟨e, -⟩ | ⟨e, q9⟩
      · (cases e)
      · (obtain ⟨M1, n1, g1, g2⟩ := q; obtain ⟨rfl, rfl⟩ := gm_at hG g1; exact ⟨RX6, rfl, g2⟩)
      · (cases e)
      · (cases e)
      · (cases e)
      · (cases e)
      · (cases e)
      · (exact absurd (show 6 ≤ 5 from q9) (by decide))
    | 7, _, hr =>
      cases hr
      have hk := pm7_ok _ hm
      unfold LKp7 at hk
      rcases hk with ⟨e, -⟩ | ⟨e, q⟩ | ⟨e, -⟩ | ⟨e, -⟩ | ⟨e, -⟩ | ⟨e, -⟩ | ⟨e, -⟩ | ⟨e, q9⟩
      · (cases e)
      · (obtain ⟨M1, n1, g1, g2⟩ := q; obtain ⟨rfl, rfl⟩ := gm_at hG g1; exact ⟨RX7, rfl, g2⟩)
      · (cases e)
      · (cases e)
      · (cases e)
      · (cases e)
      · (cases e)
      · (exact absurd (show 6 ≤ 5 from q9) (by decide))
    | 8, _, hr =>
      cases hr
      have hk := pm8_ok _ hm
      unfold LKp8 at hk
      rcases hk with ⟨e, -⟩ | ⟨e, q⟩ | ⟨e, -⟩ | ⟨e, -⟩ | ⟨e, -⟩ | ⟨e, -⟩ | ⟨e, -⟩ | ⟨e, q9⟩
      · (cases e)
      · (obtain ⟨M1, n1, g1, g2⟩ := q; obtain ⟨rfl, rfl⟩ := gm_at hG g1; exact ⟨RX8, rfl, g2⟩)
      · (cases e)
      · (cases e)
      · (cases e)
      · (cases e)
      · (cases e)
      · (exact absurd (show 6 ≤ 5 from q9) (by decide))
    | 9, _, hr =>
      cases hr
      have hk := pm9_ok _ hm
      unfold LKp9 at hk
      rcases hk with ⟨e, -⟩ | ⟨e, q⟩ | ⟨e, -⟩ | ⟨e, -⟩ | ⟨e, -⟩ | ⟨e, -⟩ | ⟨e, -⟩ | ⟨e, q9⟩
      · (cases e)
      · (obtain ⟨M1, n1, g1, g2⟩ := q; obtain ⟨rfl, rfl⟩ := gm_at hG g1; exact ⟨RX9, rfl, g2⟩)
      · (cases e)
      · (cases e)
      · (cases e)
      · (cases e)
      · (cases e)
      · (exact absurd (show 6 ≤ 5 from q9) (by decide))
    | 10, _, hr =>
      cases hr
      have hk := pm10_ok _ hm
      unfold LKp10 at hk
      rcases hk with ⟨e, -⟩ | ⟨e, q⟩ | ⟨e, -⟩ | ⟨e, -⟩ | ⟨e, -⟩ | ⟨e, -⟩ | ⟨e, -⟩ | ⟨e, q9⟩
      · (cases e)
      · (obtain ⟨M1, n1, g1, g2⟩ := q; obtain ⟨rfl, rfl⟩ := gm_at hG g1; exact ⟨RX10, rfl, g2⟩)
      · (cases e)
      · (cases e)
      · (cases e)
      · (cases e)
      · (cases e)
      · (exact absurd (show 6 ≤ 5 from q9) (by decide))
    | 11, _, hr =>
      cases hr
      have hk := pm11_ok _ hm
      unfold LKp11 at hk
      rcases hk with ⟨e, -⟩ | ⟨e, q⟩ | ⟨e, -⟩ | ⟨e, -⟩ | ⟨e, -⟩ | ⟨e, -⟩ | ⟨e, -⟩ | ⟨e, q9⟩
      · (cases e)
      · (obtain ⟨M1, n1, g1, g2⟩ := q; obtain ⟨rfl, rfl⟩ := gm_at hG g1; exact ⟨RX11, rfl, g2⟩)
      · (cases e)
      · (cases e)
      · (cases e)
      · (cases e)
      · (cases e)
      · (exact absurd (show 6 ≤ 5 from q9) (by decide))
    | 12, _, hr =>
      cases hr
      have hk := pm12_ok _ hm
      unfold LKp12 at hk
      rcases hk with ⟨e, -⟩ | ⟨e, q⟩ | ⟨e, -⟩ | ⟨e, -⟩ | ⟨e, -⟩ | ⟨e, -⟩ | ⟨e, -⟩ | ⟨e, q9⟩
      · (cases e)
      · (obtain ⟨M1, n1, g1, g2⟩ := q; obtain ⟨rfl, rfl⟩ := gm_at hG g1; exact ⟨RL, rfl, g2⟩)
      · (cases e)
      · (cases e)
      · (cases e)
      · (cases e)
      · (cases e)
      · (exact absurd (show 6 ≤ 5 from q9) (by decide))
    | 13, _, hr =>
      cases hr
      have hk := pm13_ok _ hm
      unfold LKp13 at hk
      rcases hk with ⟨e, -⟩ | ⟨e, q⟩ | ⟨e, -⟩ | ⟨e, -⟩ | ⟨e, -⟩ | ⟨e, -⟩ | ⟨e, -⟩ | ⟨e, q9⟩
      · (cases e)
      · (obtain ⟨M1, n1, g1, g2⟩ := q; obtain ⟨rfl, rfl⟩ := gm_at hG g1; exact ⟨RJ6, rfl, g2⟩)
      · (cases e)
      · (cases e)
      · (cases e)
      · (cases e)
      · (cases e)
      · (exact absurd (show 6 ≤ 5 from q9) (by decide))
    | 14, _, hr =>
      cases hr
      have hk := pm14_ok _ hm
      unfold LKp14 at hk
      rcases hk with ⟨e, -⟩ | ⟨e, q⟩ | ⟨e, -⟩ | ⟨e, -⟩ | ⟨e, -⟩ | ⟨e, -⟩ | ⟨e, -⟩ | ⟨e, q9⟩
      · (cases e)
      · (obtain ⟨M1, n1, g1, g2⟩ := q; obtain ⟨rfl, rfl⟩ := gm_at hG g1; exact ⟨RJ9, rfl, g2⟩)
      · (cases e)
      · (cases e)
      · (cases e)
      · (cases e)
      · (cases e)
      · (exact absurd (show 6 ≤ 5 from q9) (by decide))
  · obtain ⟨row, hr, hm⟩ := tl_mem (T := pmT) h
    have ho := rowN hr (n := 15) rfl
    match o, ho, hr with
    | 0, _, hr =>
      cases hr
      have hk := pm0_ok _ hm
      unfold LKp0 at hk
      rcases hk with ⟨e, -⟩ | ⟨e, -⟩ | ⟨e, q⟩ | ⟨e, -⟩ | ⟨e, -⟩ | ⟨e, -⟩ | ⟨e, -⟩ | ⟨e, q9⟩
      · (cases e)
      · (cases e)
      · (obtain ⟨M1, n1, g1, g2⟩ := q; obtain ⟨rfl, rfl⟩ := gm_at hG g1; exact ⟨RX0, rfl, g2⟩)
      · (cases e)
      · (cases e)
      · (cases e)
      · (cases e)
      · (exact absurd (show 7 ≤ 5 from q9) (by decide))
    | 1, _, hr =>
      cases hr
      have hk := pm1_ok _ hm
      unfold LKp1 at hk
      rcases hk with ⟨e, -⟩ | ⟨e, -⟩ | ⟨e, q⟩ | ⟨e, -⟩ | ⟨e, -⟩ | ⟨e, -⟩ | ⟨e, -⟩ | ⟨e, q9⟩
      · (cases e)
      · (cases e)
      · (obtain ⟨M1, n1, g1, g2⟩ := q; obtain ⟨rfl, rfl⟩ := gm_at hG g1; exact ⟨RX1, rfl, g2⟩)
      · (cases e)
      · (cases e)
      · (cases e)
      · (cases e)
      · (exact absurd (show 7 ≤ 5 from q9) (by decide))
    | 2, _, hr =>
      cases hr
      have hk := pm2_ok _ hm
      unfold LKp2 at hk
      rcases hk with ⟨e, -⟩ | ⟨e, -⟩ | ⟨e, q⟩ | ⟨e, -⟩ | ⟨e, -⟩ | ⟨e, -⟩ | ⟨e, -⟩ | ⟨e, q9⟩
      · (cases e)
      · (cases e)
      · (obtain ⟨M1, n1, g1, g2⟩ := q; obtain ⟨rfl, rfl⟩ := gm_at hG g1; exact ⟨RX2, rfl, g2⟩)
      · (cases e)
      · (cases e)
      · (cases e)
      · (cases e)
      · (exact absurd (show 7 ≤ 5 from q9) (by decide))
    | 3, _, hr =>
      cases hr
      have hk := pm3_ok _ hm
      unfold LKp3 at hk
      rcases hk with ⟨e, -⟩ | ⟨e, -⟩ | ⟨e, q⟩ | ⟨e, -⟩ | ⟨e, -⟩ | ⟨e, -⟩ | ⟨e, -⟩ | ⟨e, q9⟩
      · (cases e)
      · (cases e)
      · (obtain ⟨M1, n1, g1, g2⟩ := q; obtain ⟨rfl, rfl⟩ := gm_at hG g1; exact ⟨RX3, rfl, g2⟩)
      · (cases e)
      · (cases e)
      · (cases e)
      · (cases e)
      · (exact absurd (show 7 ≤ 5 from q9) (by decide))
    | 4, _, hr =>
      cases hr
      have hk := pm4_ok _ hm
      unfold LKp4 at hk
      rcases hk with ⟨e, -⟩ | ⟨e, -⟩ | ⟨e, q⟩ | ⟨e, -⟩ | ⟨e, -⟩ | ⟨e, -⟩ | ⟨e, -⟩ | ⟨e, q9⟩
      · (cases e)
      · (cases e)
      · (obtain ⟨M1, n1, g1, g2⟩ := q; obtain ⟨rfl, rfl⟩ := gm_at hG g1; exact ⟨RX4, rfl, g2⟩)
      · (cases e)
      · (cases e)
      · (cases e)
      · (cases e)
      · (exact absurd (show 7 ≤ 5 from q9) (by decide))
    | 5, _, hr =>
      cases hr
      have hk := pm5_ok _ hm
      unfold LKp5 at hk
      rcases hk with ⟨e, -⟩ | ⟨e, -⟩ | ⟨e, q⟩ | ⟨e, -⟩ | ⟨e, -⟩ | ⟨e, -⟩ | ⟨e, -⟩ | ⟨e, q9⟩
      · (cases e)
      · (cases e)
      · (obtain ⟨M1, n1, g1, g2⟩ := q; obtain ⟨rfl, rfl⟩ := gm_at hG g1; exact ⟨RX5, rfl, g2⟩)
      · (cases e)
      · (cases e)
      · (cases e)
      · (cases e)
      · (exact absurd (show 7 ≤ 5 from q9) (by decide))
    | 6, _, hr =>
      cases hr
      have hk := pm6_ok _ hm
      unfold LKp6 at hk
      rcases hk with ⟨e, -⟩ | ⟨e, -⟩ | ⟨e, q⟩ | ⟨e, -⟩ | ⟨e, -⟩ | ⟨e, -⟩ | ⟨e, -⟩ | ⟨e, q9⟩
      · (cases e)
      · (cases e)
      · (obtain ⟨M1, n1, g1, g2⟩ := q; obtain ⟨rfl, rfl⟩ := gm_at hG g1; exact ⟨RX6, rfl, g2⟩)
      · (cases e)
      · (cases e)
      · (cases e)
      · (cases e)
      · (exact absurd (show 7 ≤ 5 from q9) (by decide))
    | 7, _, hr =>
      cases hr
      have hk := pm7_ok _ hm
      unfold LKp7 at hk
      rcases hk with ⟨e, -⟩ | ⟨e, -⟩ | ⟨e, q⟩ | ⟨e, -⟩ | ⟨e, -⟩ | ⟨e, -⟩ | ⟨e, -⟩ | ⟨e, q9⟩
      · (cases e)
      · (cases e)
      · (obtain ⟨M1, n1, g1, g2⟩ := q; obtain ⟨rfl, rfl⟩ := gm_at hG g1; exact ⟨RX7, rfl, g2⟩)
      · (cases e)
      · (cases e)
      · (cases e)
      · (cases e)
      · (exact absurd (show 7 ≤ 5 from q9) (by decide))
    | 8, _, hr =>
      cases hr
      have hk := pm8_ok _ hm
      unfold LKp8 at hk
      rcases hk with ⟨e, -⟩ | ⟨e, -⟩ | ⟨e, q⟩ | ⟨e, -⟩ | ⟨e, -⟩ | ⟨e, -⟩ | ⟨e, -⟩ | ⟨e, q9⟩
      · (cases e)
      · (cases e)
      · (obtain ⟨M1, n1, g1, g2⟩ := q; obtain ⟨rfl, rfl⟩ := gm_at hG g1; exact ⟨RX8, rfl, g2⟩)
      · (cases e)
      · (cases e)
      · (cases e)
      · (cases e)
      · (exact absurd (show 7 ≤ 5 from q9) (by decide))
    | 9, _, hr =>
      cases hr
      have hk := pm9_ok _ hm
      unfold LKp9 at hk
      rcases hk with ⟨e, -⟩ | ⟨e, -⟩ | ⟨e, q⟩ | ⟨e, -⟩ | ⟨e, -⟩ | ⟨e, -⟩ | ⟨e, -⟩ | ⟨e, q9⟩
      · (cases e)
      · (cases e)
      · (obtain ⟨M1, n1, g1, g2⟩ := q; obtain ⟨rfl, rfl⟩ := gm_at hG g1; exact ⟨RX9, rfl, g2⟩)
      · (cases e)
      · (cases e)
      · (cases e)
      · (cases e)
      · (exact absurd (show 7 ≤ 5 from q9) (by decide))
    | 10, _, hr =>
      cases hr
      have hk := pm10_ok _ hm
      unfold LKp10 at hk
      rcases hk with ⟨e, -⟩ | ⟨e, -⟩ | ⟨e, q⟩ | ⟨e, -⟩ | ⟨e, -⟩ | ⟨e, -⟩ | ⟨e, -⟩ | ⟨e, q9⟩
      · (cases e)
      · (cases e)
      · (obtain ⟨M1, n1, g1, g2⟩ := q; obtain ⟨rfl, rfl⟩ := gm_at hG g1; exact ⟨RX10, rfl, g2⟩)
      · (cases e)
      · (cases e)
      · (cases e)
      · (cases e)
      · (exact absurd (show 7 ≤ 5 from q9) (by decide))
    | 11, _, hr =>
      cases hr
      have hk := pm11_ok _ hm
      unfold LKp11 at hk
      rcases hk with ⟨e, -⟩ | ⟨e, -⟩ | ⟨e, q⟩ | ⟨e, -⟩ | ⟨e, -⟩ | ⟨e, -⟩ | ⟨e, -⟩ | ⟨e, q9⟩
      · (cases e)
      · (cases e)
      · (obtain ⟨M1, n1, g1, g2⟩ := q; obtain ⟨rfl, rfl⟩ := gm_at hG g1; exact ⟨RX11, rfl, g2⟩)
      · (cases e)
      · (cases e)
      · (cases e)
      · (cases e)
      · (exact absurd (show 7 ≤ 5 from q9) (by decide))
    | 12, _, hr =>
      cases hr
      have hk := pm12_ok _ hm
      unfold LKp12 at hk
      rcases hk with ⟨e, -⟩ | ⟨e, -⟩ | ⟨e, q⟩ | ⟨e, -⟩ | ⟨e, -⟩ | ⟨e, -⟩ | ⟨e, -⟩ | ⟨e, q9⟩
      · (cases e)
      · (cases e)
      · (obtain ⟨M1, n1, g1, g2⟩ := q; obtain ⟨rfl, rfl⟩ := gm_at hG g1; exact ⟨RL, rfl, g2⟩)
      · (cases e)
      · (cases e)
      · (cases e)
      · (cases e)
      · (exact absurd (show 7 ≤ 5 from q9) (by decide))
    | 13, _, hr =>
      cases hr
      have hk := pm13_ok _ hm
      unfold LKp13 at hk
      rcases hk with ⟨e, -⟩ | ⟨e, -⟩ | ⟨e, q⟩ | ⟨e, -⟩ | ⟨e, -⟩ | ⟨e, -⟩ | ⟨e, -⟩ | ⟨e, q9⟩
      · (cases e)
      · (cases e)
      · (obtain ⟨M1, n1, g1, g2⟩ := q; obtain ⟨rfl, rfl⟩ := gm_at hG g1; exact ⟨RJ6, rfl, g2⟩)
      · (cases e)
      · (cases e)
      · (cases e)
      · (cases e)
      · (exact absurd (show 7 ≤ 5 from q9) (by decide))
    | 14, _, hr =>
      cases hr
      have hk := pm14_ok _ hm
      unfold LKp14 at hk
      rcases hk with ⟨e, -⟩ | ⟨e, -⟩ | ⟨e, q⟩ | ⟨e, -⟩ | ⟨e, -⟩ | ⟨e, -⟩ | ⟨e, -⟩ | ⟨e, q9⟩
      · (cases e)
      · (cases e)
      · (obtain ⟨M1, n1, g1, g2⟩ := q; obtain ⟨rfl, rfl⟩ := gm_at hG g1; exact ⟨RJ9, rfl, g2⟩)
      · (cases e)
      · (cases e)
      · (cases e)
      · (cases e)
      · (exact absurd (show 7 ≤ 5 from q9) (by decide))
  · obtain ⟨row, hr, hm⟩ := tl_mem (T := pmT) h
    have ho := rowN hr (n := 15) rfl
    match o, ho, hr with
    | 0, _, hr =>
      cases hr
      have hk := pm0_ok _ hm
      unfold LKp0 at hk
      rcases hk with ⟨e, -⟩ | ⟨e, -⟩ | ⟨e, -⟩ | ⟨e, q⟩ | ⟨e, -⟩ | ⟨e, -⟩ | ⟨e, -⟩ | ⟨e, q9⟩
      · (cases e)
      · (cases e)
      · (cases e)
      · exact ⟨RX0, rfl, q⟩
      · (cases e)
      · (cases e)
      · (cases e)
      · (exact absurd (show 3 ≤ 2 from e) (by decide))
    | 1, _, hr =>
      cases hr
      have hk := pm1_ok _ hm
      unfold LKp1 at hk
      rcases hk with ⟨e, -⟩ | ⟨e, -⟩ | ⟨e, -⟩ | ⟨e, q⟩ | ⟨e, -⟩ | ⟨e, -⟩ | ⟨e, -⟩ | ⟨e, q9⟩
      · (cases e)
      · (cases e)
      · (cases e)
      · exact ⟨RX1, rfl, q⟩
      · (cases e)
      · (cases e)
      · (cases e)
      · (exact absurd (show 3 ≤ 2 from e) (by decide))
    | 2, _, hr =>
      cases hr
      have hk := pm2_ok _ hm
      unfold LKp2 at hk
      rcases hk with ⟨e, -⟩ | ⟨e, -⟩ | ⟨e, -⟩ | ⟨e, q⟩ | ⟨e, -⟩ | ⟨e, -⟩ | ⟨e, -⟩ | ⟨e, q9⟩
      · (cases e)
      · (cases e)
      · (cases e)
      · exact ⟨RX2, rfl, q⟩
      · (cases e)
      · (cases e)
      · (cases e)
      · (exact absurd (show 3 ≤ 2 from e) (by decide))
    | 3, _, hr =>
      cases hr
      have hk := pm3_ok _ hm
      unfold LKp3 at hk
      rcases hk with ⟨e, -⟩ | ⟨e, -⟩ | ⟨e, -⟩ | ⟨e, q⟩ | ⟨e, -⟩ | ⟨e, -⟩ | ⟨e, -⟩ | ⟨e, q9⟩
      · (cases e)
      · (cases e)
      · (cases e)
      · exact ⟨RX3, rfl, q⟩
      · (cases e)
      · (cases e)
      · (cases e)
      · (exact absurd (show 3 ≤ 2 from e) (by decide))
    | 4, _, hr =>
      cases hr
      have hk := pm4_ok _ hm
      unfold LKp4 at hk
      rcases hk with ⟨e, -⟩ | ⟨e, -⟩ | ⟨e, -⟩ | ⟨e, q⟩ | ⟨e, -⟩ | ⟨e, -⟩ | ⟨e, -⟩ | ⟨e, q9⟩
      · (cases e)
      · (cases e)
      · (cases e)
      · exact ⟨RX4, rfl, q⟩
      · (cases e)
      · (cases e)
      · (cases e)
      · (exact absurd (show 3 ≤ 2 from e) (by decide))
    | 5, _, hr =>
      cases hr
      have hk := pm5_ok _ hm
      unfold LKp5 at hk
      rcases hk with ⟨e, -⟩ | ⟨e, -⟩ | ⟨e, -⟩ | ⟨e, q⟩ | ⟨e, -⟩ | ⟨e, -⟩ | ⟨e, -⟩ | ⟨e, q9⟩
      · (cases e)
      · (cases e)
      · (cases e)
      · exact ⟨RX5, rfl, q⟩
      · (cases e)
      · (cases e)
      · (cases e)
      · (exact absurd (show 3 ≤ 2 from e) (by decide))
    | 6, _, hr =>
      cases hr
      have hk := pm6_ok _ hm
      unfold LKp6 at hk
      rcases hk with ⟨e, -⟩ | ⟨e, -⟩ | ⟨e, -⟩ | ⟨e, q⟩ | ⟨e, -⟩ | ⟨e, -⟩ | ⟨e, -⟩ | ⟨e, q9⟩
      · (cases e)
      · (cases e)
      · (cases e)
      · exact ⟨RX6, rfl, q⟩
      · (cases e)
      · (cases e)
      · (cases e)
      · (exact absurd (show 3 ≤ 2 from e) (by decide))
    | 7, _, hr =>
      cases hr
      have hk := pm7_ok _ hm
      unfold LKp7 at hk
      rcases hk with ⟨e, -⟩ | ⟨e, -⟩ | ⟨e, -⟩ | ⟨e, q⟩ | ⟨e, -⟩ | ⟨e, -⟩ | ⟨e, -⟩ | ⟨e, q9⟩
      · (cases e)
      · (cases e)
      · (cases e)
      · exact ⟨RX7, rfl, q⟩
      · (cases e)
      · (cases e)
      · (cases e)
      · (exact absurd (show 3 ≤ 2 from e) (by decide))
    | 8, _, hr =>
      cases hr
      have hk := pm8_ok _ hm
      unfold LKp8 at hk
      rcases hk with ⟨e, -⟩ | ⟨e, -⟩ | ⟨e, -⟩ | ⟨e, q⟩ | ⟨e, -⟩ | ⟨e, -⟩ | ⟨e, -⟩ | ⟨e, q9⟩
      · (cases e)
      · (cases e)
      · (cases e)
      · exact ⟨RX8, rfl, q⟩
      · (cases e)
      · (cases e)
      · (cases e)
      · (exact absurd (show 3 ≤ 2 from e) (by decide))
    | 9, _, hr =>
      cases hr
      have hk := pm9_ok _ hm
      unfold LKp9 at hk
      rcases hk with ⟨e, -⟩ | ⟨e, -⟩ | ⟨e, -⟩ | ⟨e, q⟩ | ⟨e, -⟩ | ⟨e, -⟩ | ⟨e, -⟩ | ⟨e, q9⟩
      · (cases e)
      · (cases e)
      · (cases e)
      · exact ⟨RX9, rfl, q⟩
      · (cases e)
      · (cases e)
      · (cases e)
      · (exact absurd (show 3 ≤ 2 from e) (by decide))
    | 10, _, hr =>
      cases hr
      have hk := pm10_ok _ hm
      unfold LKp10 at hk
      rcases hk with ⟨e, -⟩ | ⟨e, -⟩ | ⟨e, -⟩ | ⟨e, q⟩ | ⟨e, -⟩ | ⟨e, -⟩ | ⟨e, -⟩ | ⟨e, q9⟩
      · (cases e)
      · (cases e)
      · (cases e)
      · exact ⟨RX10, rfl, q⟩
      · (cases e)
      · (cases e)
      · (cases e)
      · (exact absurd (show 3 ≤ 2 from e) (by decide))
    | 11, _, hr =>
      cases hr
      have hk := pm11_ok _ hm
      unfold LKp11 at hk
      rcases hk with ⟨e, -⟩ | ⟨e, -⟩ | ⟨e, -⟩ | ⟨e, q⟩ | ⟨e, -⟩ | ⟨e, -⟩ | ⟨e, -⟩ | ⟨e, q9⟩
      · (cases e)
      · (cases e)
      · (cases e)
      · exact ⟨RX11, rfl, q⟩
      · (cases e)
      · (cases e)
      · (cases e)
      · (exact absurd (show 3 ≤ 2 from e) (by decide))
    | 12, _, hr =>
      cases hr
      have hk := pm12_ok _ hm
      unfold LKp12 at hk
      rcases hk with ⟨e, -⟩ | ⟨e, -⟩ | ⟨e, -⟩ | ⟨e, q⟩ | ⟨e, -⟩ | ⟨e, -⟩ | ⟨e, -⟩ | ⟨e, q9⟩
      · (cases e)
      · (cases e)
      · (cases e)
      · exact ⟨RL, rfl, q⟩
      · (cases e)
      · (cases e)
      · (cases e)
      · (exact absurd (show 3 ≤ 2 from e) (by decide))
    | 13, _, hr =>
      cases hr
      have hk := pm13_ok _ hm
      unfold LKp13 at hk
      rcases hk with ⟨e, -⟩ | ⟨e, -⟩ | ⟨e, -⟩ | ⟨e, q⟩ | ⟨e, -⟩ | ⟨e, -⟩ | ⟨e, -⟩ | ⟨e, q9⟩
      · (cases e)
      · (cases e)
      · (cases e)
      · exact ⟨RJ6, rfl, q⟩
      · (cases e)
      · (cases e)
      · (cases e)
      · (exact absurd (show 3 ≤ 2 from e) (by decide))
    | 14, _, hr =>
      cases hr
      have hk := pm14_ok _ hm
      unfold LKp14 at hk
      rcases hk with ⟨e, -⟩ | ⟨e, -⟩ | ⟨e, -⟩ | ⟨e, q⟩ | ⟨e, -⟩ | ⟨e, -⟩ | ⟨e, -⟩ | ⟨e, q9⟩
      · (cases e)
      · (cases e)
      · (cases e)
      · exact ⟨RJ9, rfl, q⟩
      · (cases e)
      · (cases e)
      · (cases e)
      · (exact absurd (show 3 ≤ 2 from e) (by decide))
  · obtain ⟨row, hr, hm⟩ := tl_mem (T := pmT) h
    have ho := rowN hr (n := 15) rfl
    match o, ho, hr with
    | 0, _, hr =>
      cases hr
      have hk := pm0_ok _ hm
      unfold LKp0 at hk
      rcases hk with ⟨e, -⟩ | ⟨e, -⟩ | ⟨e, -⟩ | ⟨e, -⟩ | ⟨e, q⟩ | ⟨e, -⟩ | ⟨e, -⟩ | ⟨e, q9⟩
      · (cases e)
      · (cases e)
      · (cases e)
      · (cases e)
      · exact ⟨RX0, rfl, q⟩
      · (cases e)
      · (cases e)
      · (exact absurd (show 3 ≤ 1 from e) (by decide))
    | 1, _, hr =>
      cases hr
      have hk := pm1_ok _ hm
      unfold LKp1 at hk
      rcases hk with ⟨e, -⟩ | ⟨e, -⟩ | ⟨e, -⟩ | ⟨e, -⟩ | ⟨e, q⟩ | ⟨e, -⟩ | ⟨e, -⟩ | ⟨e, q9⟩
      · (cases e)
      · (cases e)
      · (cases e)
      · (cases e)
      · exact ⟨RX1, rfl, q⟩
      · (cases e)
      · (cases e)
      · (exact absurd (show 3 ≤ 1 from e) (by decide))
    | 2, _, hr =>
      cases hr
      have hk := pm2_ok _ hm
      unfold LKp2 at hk
      rcases hk with ⟨e, -⟩ | ⟨e, -⟩ | ⟨e, -⟩ | ⟨e, -⟩ | ⟨e, q⟩ | ⟨e, -⟩ | ⟨e, -⟩ | ⟨e, q9⟩
      · (cases e)
      · (cases e)
      · (cases e)
      · (cases e)
      · exact ⟨RX2, rfl, q⟩
      · (cases e)
      · (cases e)
      · (exact absurd (show 3 ≤ 1 from e) (by decide))
    | 3, _, hr =>
      cases hr
      have hk := pm3_ok _ hm
      unfold LKp3 at hk
      rcases hk with ⟨e, -⟩ | ⟨e, -⟩ | ⟨e, -⟩ | ⟨e, -⟩ | ⟨e, q⟩ | ⟨e, -⟩ | ⟨e, -⟩ | ⟨e, q9⟩
      · (cases e)
      · (cases e)
      · (cases e)
      · (cases e)
      · exact ⟨RX3, rfl, q⟩
      · (cases e)
      · (cases e)
      · (exact absurd (show 3 ≤ 1 from e) (by decide))
    | 4, _, hr =>
      cases hr
      have hk := pm4_ok _ hm
      unfold LKp4 at hk
      rcases hk with ⟨e, -⟩ | ⟨e, -⟩ | ⟨e, -⟩ | ⟨e, -⟩ | ⟨e, q⟩ | ⟨e, -⟩ | ⟨e, -⟩ | ⟨e, q9⟩
      · (cases e)
      · (cases e)
      · (cases e)
      · (cases e)
      · exact ⟨RX4, rfl, q⟩
      · (cases e)
      · (cases e)
      · (exact absurd (show 3 ≤ 1 from e) (by decide))
    | 5, _, hr =>
      cases hr
      have hk := pm5_ok _ hm
      unfold LKp5 at hk
      rcases hk with ⟨e, -⟩ | ⟨e, -⟩ | ⟨e, -⟩ | ⟨e, -⟩ | ⟨e, q⟩ | ⟨e, -⟩ | ⟨e, -⟩ | ⟨e, q9⟩
      · (cases e)
      · (cases e)
      · (cases e)
      · (cases e)
      · exact ⟨RX5, rfl, q⟩
      · (cases e)
      · (cases e)
      · (exact absurd (show 3 ≤ 1 from e) (by decide))
    | 6, _, hr =>
      cases hr
      have hk := pm6_ok _ hm
      unfold LKp6 at hk
      rcases hk with ⟨e, -⟩ | ⟨e, -⟩ | ⟨e, -⟩ | ⟨e, -⟩ | ⟨e, q⟩ | ⟨e, -⟩ | ⟨e, -⟩ | ⟨e, q9⟩
      · (cases e)
      · (cases e)
      · (cases e)
      · (cases e)
      · exact ⟨RX6, rfl, q⟩
      · (cases e)
      · (cases e)
      · (exact absurd (show 3 ≤ 1 from e) (by decide))
    | 7, _, hr =>
      cases hr
      have hk := pm7_ok _ hm
      unfold LKp7 at hk
      rcases hk with ⟨e, -⟩ | ⟨e, -⟩ | ⟨e, -⟩ | ⟨e, -⟩ | ⟨e, q⟩ | ⟨e, -⟩ | ⟨e, -⟩ | ⟨e, q9⟩
      · (cases e)
      · (cases e)
      · (cases e)
      · (cases e)
      · exact ⟨RX7, rfl, q⟩
      · (cases e)
      · (cases e)
      · (exact absurd (show 3 ≤ 1 from e) (by decide))
    | 8, _, hr =>
      cases hr
      have hk := pm8_ok _ hm
      unfold LKp8 at hk
      rcases hk with ⟨e, -⟩ | ⟨e, -⟩ | ⟨e, -⟩ | ⟨e, -⟩ | ⟨e, q⟩ | ⟨e, -⟩ | ⟨e, -⟩ | ⟨e, q9⟩
      · (cases e)
      · (cases e)
      · (cases e)
      · (cases e)
      · exact ⟨RX8, rfl, q⟩
      · (cases e)
      · (cases e)
      · (exact absurd (show 3 ≤ 1 from e) (by decide))
    | 9, _, hr =>
      cases hr
      have hk := pm9_ok _ hm
      unfold LKp9 at hk
      rcases hk with ⟨e, -⟩ | ⟨e, -⟩ | ⟨e, -⟩ | ⟨e, -⟩ | ⟨e, q⟩ | ⟨e, -⟩ | ⟨e, -⟩ | ⟨e, q9⟩
      · (cases e)
      · (cases e)
      · (cases e)
      · (cases e)
      · exact ⟨RX9, rfl, q⟩
      · (cases e)
      · (cases e)
      · (exact absurd (show 3 ≤ 1 from e) (by decide))
    | 10, _, hr =>
      cases hr
      have hk := pm10_ok _ hm
      unfold LKp10 at hk
      rcases hk with ⟨e, -⟩ | ⟨e, -⟩ | ⟨e, -⟩ | ⟨e, -⟩ | ⟨e, q⟩ | ⟨e, -⟩ | ⟨e, -⟩ | ⟨e, q9⟩
      · (cases e)
      · (cases e)
      · (cases e)
      · (cases e)
      · exact ⟨RX10, rfl, q⟩
      · (cases e)
      · (cases e)
      · (exact absurd (show 3 ≤ 1 from e) (by decide))
    | 11, _, hr =>
      cases hr
      have hk := pm11_ok _ hm
      unfold LKp11 at hk
      rcases hk with ⟨e, -⟩ | ⟨e, -⟩ | ⟨e, -⟩ | ⟨e, -⟩ | ⟨e, q⟩ | ⟨e, -⟩ | ⟨e, -⟩ | ⟨e, q9⟩
      · (cases e)
      · (cases e)
      · (cases e)
      · (cases e)
      · exact ⟨RX11, rfl, q⟩
      · (cases e)
      · (cases e)
      · (exact absurd (show 3 ≤ 1 from e) (by decide))
    | 12, _, hr =>
      cases hr
      have hk := pm12_ok _ hm
      unfold LKp12 at hk
      rcases hk with ⟨e, -⟩ | ⟨e, -⟩ | ⟨e, -⟩ | ⟨e, -⟩ | ⟨e, q⟩ | ⟨e, -⟩ | ⟨e, -⟩ | ⟨e, q9⟩
      · (cases e)
      · (cases e)
      · (cases e)
      · (cases e)
      · exact ⟨RL, rfl, q⟩
      · (cases e)
      · (cases e)
      · (exact absurd (show 3 ≤ 1 from e) (by decide))
    | 13, _, hr =>
      cases hr
      have hk := pm13_ok _ hm
      unfold LKp13 at hk
      rcases hk with ⟨e, -⟩ | ⟨e, -⟩ | ⟨e, -⟩ | ⟨e, -⟩ | ⟨e, q⟩ | ⟨e, -⟩ | ⟨e, -⟩ | ⟨e, q9⟩
      · (cases e)
      · (cases e)
      · (cases e)
      · (cases e)
      · exact ⟨RJ6, rfl, q⟩
      · (cases e)
      · (cases e)
      · (exact absurd (show 3 ≤ 1 from e) (by decide))
    | 14, _, hr =>
      cases hr
      have hk := pm14_ok _ hm
      unfold LKp14 at hk
      rcases hk with ⟨e, -⟩ | ⟨e, -⟩ | ⟨e, -⟩ | ⟨e, -⟩ | ⟨e, q⟩ | ⟨e, -⟩ | ⟨e, -⟩ | ⟨e, q9⟩
      · (cases e)
      · (cases e)
      · (cases e)
      · (cases e)
      · exact ⟨RJ9, rfl, q⟩
      · (cases e)
      · (cases e)
      · (exact absurd (show 3 ≤ 1 from e) (by decide))
  · obtain ⟨row, hr, hm⟩ := tl_mem (T := pmT) h
    have ho := rowN hr (n := 15) rfl
    match o, ho, hr with
    | 0, _, hr =>
      cases hr
      have hk := pm0_ok _ hm
      unfold LKp0 at hk
      rcases hk with ⟨e, -⟩ | ⟨e, -⟩ | ⟨e, -⟩ | ⟨e, -⟩ | ⟨e, -⟩ | ⟨e, q⟩ | ⟨e, -⟩ | ⟨e, q9⟩
      · (cases e)
      · (cases e)
      · (cases e)
      · (cases e)
      · (cases e)
      · exact ⟨RX0, rfl, q⟩
      · (cases e)
      · (exact absurd (show 8 ≤ 5 from q9) (by decide))
    | 1, _, hr =>
      cases hr
      have hk := pm1_ok _ hm
      unfold LKp1 at hk
      rcases hk with ⟨e, -⟩ | ⟨e, -⟩ | ⟨e, -⟩ | ⟨e, -⟩ | ⟨e, -⟩ | ⟨e, q⟩ | ⟨e, -⟩ | ⟨e, q9⟩
      · (cases e)
      · (cases e)
      · (cases e)
      · (cases e)
      · (cases e)
      · exact ⟨RX1, rfl, q⟩
      · (cases e)
      · (exact absurd (show 8 ≤ 5 from q9) (by decide))
    | 2, _, hr =>
      cases hr
      have hk := pm2_ok _ hm
      unfold LKp2 at hk
      rcases hk with ⟨e, -⟩ | ⟨e, -⟩ | ⟨e, -⟩ | ⟨e, -⟩ | ⟨e, -⟩ | ⟨e, q⟩ | ⟨e, -⟩ | ⟨e, q9⟩
      · (cases e)
      · (cases e)
      · (cases e)
      · (cases e)
      · (cases e)
      · exact ⟨RX2, rfl, q⟩
      · (cases e)
      · (exact absurd (show 8 ≤ 5 from q9) (by decide))
    | 3, _, hr =>
      cases hr
      have hk := pm3_ok _ hm
      unfold LKp3 at hk
      rcases hk with ⟨e, -⟩ | ⟨e, -⟩ | ⟨e, -⟩ | ⟨e, -⟩ | ⟨e, -⟩ | ⟨e, q⟩ | ⟨e, -⟩ | ⟨e, q9⟩
      · (cases e)
      · (cases e)
      · (cases e)
      · (cases e)
      · (cases e)
      · exact ⟨RX3, rfl, q⟩
      · (cases e)
      · (exact absurd (show 8 ≤ 5 from q9) (by decide))
    | 4, _, hr =>
      cases hr
      have hk := pm4_ok _ hm
      unfold LKp4 at hk
      rcases hk with ⟨e, -⟩ | ⟨e, -⟩ | ⟨e, -⟩ | ⟨e, -⟩ | ⟨e, -⟩ | ⟨e, q⟩ | ⟨e, -⟩ | ⟨e, q9⟩
      · (cases e)
      · (cases e)
      · (cases e)
      · (cases e)
      · (cases e)
      · exact ⟨RX4, rfl, q⟩
      · (cases e)
      · (exact absurd (show 8 ≤ 5 from q9) (by decide))
    | 5, _, hr =>
      cases hr
      have hk := pm5_ok _ hm
      unfold LKp5 at hk
      rcases hk with ⟨e, -⟩ | ⟨e, -⟩ | ⟨e, -⟩ | ⟨e, -⟩ | ⟨e, -⟩ | ⟨e, q⟩ | ⟨e, -⟩ | ⟨e, q9⟩
      · (cases e)
      · (cases e)
      · (cases e)
      · (cases e)
      · (cases e)
      · exact ⟨RX5, rfl, q⟩
      · (cases e)
      · (exact absurd (show 8 ≤ 5 from q9) (by decide))
    | 6, _, hr =>
      cases hr
      have hk := pm6_ok _ hm
      unfold LKp6 at hk
      rcases hk with ⟨e, -⟩ | ⟨e, -⟩ | ⟨e, -⟩ | ⟨e, -⟩ | ⟨e, -⟩ | ⟨e, q⟩ | ⟨e, -⟩ | ⟨e, q9⟩
      · (cases e)
      · (cases e)
      · (cases e)
      · (cases e)
      · (cases e)
      · exact ⟨RX6, rfl, q⟩
      · (cases e)
      · (exact absurd (show 8 ≤ 5 from q9) (by decide))
    | 7, _, hr =>
      cases hr
      have hk := pm7_ok _ hm
      unfold LKp7 at hk
      rcases hk with ⟨e, -⟩ | ⟨e, -⟩ | ⟨e, -⟩ | ⟨e, -⟩ | ⟨e, -⟩ | ⟨e, q⟩ | ⟨e, -⟩ | ⟨e, q9⟩
      · (cases e)
      · (cases e)
      · (cases e)
      · (cases e)
      · (cases e)
      · exact ⟨RX7, rfl, q⟩
      · (cases e)
      · (exact absurd (show 8 ≤ 5 from q9) (by decide))
    | 8, _, hr =>
      cases hr
      have hk := pm8_ok _ hm
      unfold LKp8 at hk
      rcases hk with ⟨e, -⟩ | ⟨e, -⟩ | ⟨e, -⟩ | ⟨e, -⟩ | ⟨e, -⟩ | ⟨e, q⟩ | ⟨e, -⟩ | ⟨e, q9⟩
      · (cases e)
      · (cases e)
      · (cases e)
      · (cases e)
      · (cases e)
      · exact ⟨RX8, rfl, q⟩
      · (cases e)
      · (exact absurd (show 8 ≤ 5 from q9) (by decide))
    | 9, _, hr =>
      cases hr
      have hk := pm9_ok _ hm
      unfold LKp9 at hk
      rcases hk with ⟨e, -⟩ | ⟨e, -⟩ | ⟨e, -⟩ | ⟨e, -⟩ | ⟨e, -⟩ | ⟨e, q⟩ | ⟨e, -⟩ | ⟨e, q9⟩
      · (cases e)
      · (cases e)
      · (cases e)
      · (cases e)
      · (cases e)
      · exact ⟨RX9, rfl, q⟩
      · (cases e)
      · (exact absurd (show 8 ≤ 5 from q9) (by decide))
    | 10, _, hr =>
      cases hr
      have hk := pm10_ok _ hm
      unfold LKp10 at hk
      rcases hk with ⟨e, -⟩ | ⟨e, -⟩ | ⟨e, -⟩ | ⟨e, -⟩ | ⟨e, -⟩ | ⟨e, q⟩ | ⟨e, -⟩ | ⟨e, q9⟩
      · (cases e)
      · (cases e)
      · (cases e)
      · (cases e)
      · (cases e)
      · exact ⟨RX10, rfl, q⟩
      · (cases e)
      · (exact absurd (show 8 ≤ 5 from q9) (by decide))
    | 11, _, hr =>
      cases hr
      have hk := pm11_ok _ hm
      unfold LKp11 at hk
      rcases hk with ⟨e, -⟩ | ⟨e, -⟩ | ⟨e, -⟩ | ⟨e, -⟩ | ⟨e, -⟩ | ⟨e, q⟩ | ⟨e, -⟩ | ⟨e, q9⟩
      · (cases e)
      · (cases e)
      · (cases e)
      · (cases e)
      · (cases e)
      · exact ⟨RX11, rfl, q⟩
      · (cases e)
      · (exact absurd (show 8 ≤ 5 from q9) (by decide))
    | 12, _, hr =>
      cases hr
      have hk := pm12_ok _ hm
      unfold LKp12 at hk
      rcases hk with ⟨e, -⟩ | ⟨e, -⟩ | ⟨e, -⟩ | ⟨e, -⟩ | ⟨e, -⟩ | ⟨e, q⟩ | ⟨e, -⟩ | ⟨e, q9⟩
      · (cases e)
      · (cases e)
      · (cases e)
      · (cases e)
      · (cases e)
      · exact ⟨RL, rfl, q⟩
      · (cases e)
      · (exact absurd (show 8 ≤ 5 from q9) (by decide))
    | 13, _, hr =>
      cases hr
      have hk := pm13_ok _ hm
      unfold LKp13 at hk
      rcases hk with ⟨e, -⟩ | ⟨e, -⟩ | ⟨e, -⟩ | ⟨e, -⟩ | ⟨e, -⟩ | ⟨e, q⟩ | ⟨e, -⟩ | ⟨e, q9⟩
      · (cases e)
      · (cases e)
      · (cases e)
      · (cases e)
      · (cases e)
      · exact ⟨RJ6, rfl, q⟩
      · (cases e)
      · (exact absurd (show 8 ≤ 5 from q9) (by decide))
    | 14, _, hr =>
      cases hr
      have hk := pm14_ok _ hm
      unfold LKp14 at hk
      rcases hk with ⟨e, -⟩ | ⟨e, -⟩ | ⟨e, -⟩ | ⟨e, -⟩ | ⟨e, -⟩ | ⟨e, q⟩ | ⟨e, -⟩ | ⟨e, q9⟩
      · (cases e)
      · (cases e)
      · (cases e)
      · (cases e)
      · (cases e)
      · exact ⟨RJ9, rfl, q⟩
      · (cases e)
      · (exact absurd (show 8 ≤ 5 from q9) (by decide))
  · obtain ⟨row, hr, hm⟩ := tl_mem (T := pmT) h
    have ho := rowN hr (n := 15) rfl
    match o, ho, hr with
    | 0, _, hr =>
      cases hr
      have hk := pm0_ok _ hm
      unfold LKp0 at hk
      rcases hk with ⟨e, -⟩ | ⟨e, -⟩ | ⟨e, -⟩ | ⟨e, -⟩ | ⟨e, -⟩ | ⟨e, -⟩ | ⟨e, q⟩ | ⟨e, q9⟩
      · (cases e)
      · (cases e)
      · (cases e)
      · (cases e)
      · (cases e)
      · (cases e)
      · exact ⟨RX0, rfl, q⟩
      · (exact absurd (show 9 ≤ 5 from q9) (by decide))
    | 1, _, hr =>
      cases hr
      have hk := pm1_ok _ hm
      unfold LKp1 at hk
      rcases hk with ⟨e, -⟩ | ⟨e, -⟩ | ⟨e, -⟩ | ⟨e, -⟩ | ⟨e, -⟩ | ⟨e, -⟩ | ⟨e, q⟩ | ⟨e, q9⟩
      · (cases e)
      · (cases e)
      · (cases e)
      · (cases e)
      · (cases e)
      · (cases e)
      · exact ⟨RX1, rfl, q⟩
      · (exact absurd (show 9 ≤ 5 from q9) (by decide))
    | 2, _, hr =>
      cases hr
      have hk := pm2_ok _ hm
      unfold LKp2 at hk
      rcases hk with ⟨e, -⟩ | ⟨e, -⟩ | ⟨e, -⟩ | ⟨e, -⟩ | ⟨e, -⟩ | ⟨e, -⟩ | ⟨e, q⟩ | ⟨e, q9⟩
      · (cases e)
      · (cases e)
      · (cases e)
      · (cases e)
      · (cases e)
      · (cases e)
      · exact ⟨RX2, rfl, q⟩
      · (exact absurd (show 9 ≤ 5 from q9) (by decide))
    | 3, _, hr =>
      cases hr
      have hk := pm3_ok _ hm
      unfold LKp3 at hk
      rcases hk with ⟨e, -⟩ | ⟨e, -⟩ | ⟨e, -⟩ | ⟨e, -⟩ | ⟨e, -⟩ | ⟨e, -⟩ | ⟨e, q⟩ | ⟨e, q9⟩
      · (cases e)
      · (cases e)
      · (cases e)
      · (cases e)
      · (cases e)
      · (cases e)
      · exact ⟨RX3, rfl, q⟩
      · (exact absurd (show 9 ≤ 5 from q9) (by decide))
    | 4, _, hr =>
      cases hr
      have hk := pm4_ok _ hm
      unfold LKp4 at hk
      rcases hk with ⟨e, -⟩ | ⟨e, -⟩ | ⟨e, -⟩ | ⟨e, -⟩ | ⟨e, -⟩ | ⟨e, -⟩ | ⟨e, q⟩ | ⟨e, q9⟩
      · (cases e)
      · (cases e)
      · (cases e)
      · (cases e)
      · (cases e)
      · (cases e)
      · exact ⟨RX4, rfl, q⟩
      · (exact absurd (show 9 ≤ 5 from q9) (by decide))
    | 5, _, hr =>
      cases hr
      have hk := pm5_ok _ hm
      unfold LKp5 at hk
      rcases hk with ⟨e, -⟩ | ⟨e, -⟩ | ⟨e, -⟩ | ⟨e, -⟩ | ⟨e, -⟩ | ⟨e, -⟩ | ⟨e, q⟩ | ⟨e, q9⟩
      · (cases e)
      · (cases e)
      · (cases e)
      · (cases e)
      · (cases e)
      · (cases e)
      · exact ⟨RX5, rfl, q⟩
      · (exact absurd (show 9 ≤ 5 from q9) (by decide))
    | 6, _, hr =>
      cases hr
      have hk := pm6_ok _ hm
      unfold LKp6 at hk
      rcases hk with ⟨e, -⟩ | ⟨e, -⟩ | ⟨e, -⟩ | ⟨e, -⟩ | ⟨e, -⟩ | ⟨e, -⟩ | ⟨e, q⟩ | ⟨e, q9⟩
      · (cases e)
      · (cases e)
      · (cases e)
      · (cases e)
      · (cases e)
      · (cases e)
      · exact ⟨RX6, rfl, q⟩
      · (exact absurd (show 9 ≤ 5 from q9) (by decide))
    | 7, _, hr =>
      cases hr
      have hk := pm7_ok _ hm
      unfold LKp7 at hk
      rcases hk with ⟨e, -⟩ | ⟨e, -⟩ | ⟨e, -⟩ | ⟨e, -⟩ | ⟨e, -⟩ | ⟨e, -⟩ | ⟨e, q⟩ | ⟨e, q9⟩
      · (cases e)
      · (cases e)
      · (cases e)
      · (cases e)
      · (cases e)
      · (cases e)
      · exact ⟨RX7, rfl, q⟩
      · (exact absurd (show 9 ≤ 5 from q9) (by decide))
    | 8, _, hr =>
      cases hr
      have hk := pm8_ok _ hm
      unfold LKp8 at hk
      rcases hk with ⟨e, -⟩ | ⟨e, -⟩ | ⟨e, -⟩ | ⟨e, -⟩ | ⟨e, -⟩ | ⟨e, -⟩ | ⟨e, q⟩ | ⟨e, q9⟩
      · (cases e)
      · (cases e)
      · (cases e)
      · (cases e)
      · (cases e)
      · (cases e)
      · exact ⟨RX8, rfl, q⟩
      · (exact absurd (show 9 ≤ 5 from q9) (by decide))
    | 9, _, hr =>
      cases hr
      have hk := pm9_ok _ hm
      unfold LKp9 at hk
      rcases hk with ⟨e, -⟩ | ⟨e, -⟩ | ⟨e, -⟩ | ⟨e, -⟩ | ⟨e, -⟩ | ⟨e, -⟩ | ⟨e, q⟩ | ⟨e, q9⟩
      · (cases e)
      · (cases e)
      · (cases e)
      · (cases e)
      · (cases e)
      · (cases e)
      · exact ⟨RX9, rfl, q⟩
      · (exact absurd (show 9 ≤ 5 from q9) (by decide))
    | 10, _, hr =>
      cases hr
      have hk := pm10_ok _ hm
      unfold LKp10 at hk
      rcases hk with ⟨e, -⟩ | ⟨e, -⟩ | ⟨e, -⟩ | ⟨e, -⟩ | ⟨e, -⟩ | ⟨e, -⟩ | ⟨e, q⟩ | ⟨e, q9⟩
      · (cases e)
      · (cases e)
      · (cases e)
      · (cases e)
      · (cases e)
      · (cases e)
      · exact ⟨RX10, rfl, q⟩
      · (exact absurd (show 9 ≤ 5 from q9) (by decide))
    | 11, _, hr =>
      cases hr
      have hk := pm11_ok _ hm
      unfold LKp11 at hk
      rcases hk with ⟨e, -⟩ | ⟨e, -⟩ | ⟨e, -⟩ | ⟨e, -⟩ | ⟨e, -⟩ | ⟨e, -⟩ | ⟨e, q⟩ | ⟨e, q9⟩
      · (cases e)
      · (cases e)
      · (cases e)
      · (cases e)
      · (cases e)
      · (cases e)
      · exact ⟨RX11, rfl, q⟩
      · (exact absurd (show 9 ≤ 5 from q9) (by decide))
    | 12, _, hr =>
      cases hr
      have hk := pm12_ok _ hm
      unfold LKp12 at hk
      rcases hk with ⟨e, -⟩ | ⟨e, -⟩ | ⟨e, -⟩ | ⟨e, -⟩ | ⟨e, -⟩ | ⟨e, -⟩ | ⟨e, q⟩ | ⟨e, q9⟩
      · (cases e)
      · (cases e)
      · (cases e)
      · (cases e)
      · (cases e)
      · (cases e)
      · exact ⟨RL, rfl, q⟩
      · (exact absurd (show 9 ≤ 5 from q9) (by decide))
    | 13, _, hr =>
      cases hr
      have hk := pm13_ok _ hm
      unfold LKp13 at hk
      rcases hk with ⟨e, -⟩ | ⟨e, -⟩ | ⟨e, -⟩ | ⟨e, -⟩ | ⟨e, -⟩ | ⟨e, -⟩ | ⟨e, q⟩ | ⟨e, q9⟩
      · (cases e)
      · (cases e)
      · (cases e)
      · (cases e)
      · (cases e)
      · (cases e)
      · exact ⟨RJ6, rfl, q⟩
      · (exact absurd (show 9 ≤ 5 from q9) (by decide))
    | 14, _, hr =>
      cases hr
      have hk := pm14_ok _ hm
      unfold LKp14 at hk
      rcases hk with ⟨e, -⟩ | ⟨e, -⟩ | ⟨e, -⟩ | ⟨e, -⟩ | ⟨e, -⟩ | ⟨e, -⟩ | ⟨e, q⟩ | ⟨e, q9⟩
      · (cases e)
      · (cases e)
      · (cases e)
      · (cases e)
      · (cases e)
      · (cases e)
      · exact ⟨RJ9, rfl, q⟩
      · (exact absurd (show 9 ≤ 5 from q9) (by decide))
end
